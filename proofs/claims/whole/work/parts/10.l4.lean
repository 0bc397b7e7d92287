/-! the law calls -/
set_option maxRecDepth 20000 in
theorem ggL_law_X6_clear : GoodIn wsL_law wsX6_clear := goodIn_r _ [651, 24, 652, 653, 654, 23, 655, 642, 795, 796, 797, 798, 799, 800, 801, 802, 803, 804, 805, 806, 807, 840, 841, 842, 843, 844, 845, 846, 847] (by decide +kernel) (by decide +kernel)
set_option maxRecDepth 20000 in
theorem gL_law_X6_clear : GoodIn wsL_law (wsV RL 86 RX6 yX6_clear wsX6_clear) := goodIn_app (goodIn_of _ (by decide +kernel)) ggL_law_X6_clear
set_option maxRecDepth 20000 in
theorem ggL_law_X7_clear : GoodIn wsL_law wsX7_clear := goodIn_r _ [659, 647, 808, 809, 810, 811, 812, 813, 814, 815, 816, 817, 818, 819, 820, 821, 822, 823, 824, 825, 826, 827, 828, 829, 830, 831] (by decide +kernel) (by decide +kernel)
set_option maxRecDepth 20000 in
theorem gL_law_X7_clear : GoodIn wsL_law (wsV RL 89 RX7 yX7_clear wsX7_clear) := goodIn_app (goodIn_of _ (by decide +kernel)) ggL_law_X7_clear
set_option maxRecDepth 20000 in
theorem ggL_law_X6_does : GoodIn wsL_law wsX6_does := goodIn_r _ [663, 24, 16, 15, 664, 665, 666, 23, 667, 668, 669, 642, 56, 670, 671, 672, 673, 674, 675, 676, 677, 678, 57, 679, 680, 681, 682, 683, 684, 685, 686, 687, 688, 689, 690, 58, 102, 103, 104, 14, 105, 43, 106, 107, 108, 109, 44, 45, 110, 111, 691, 692, 693, 694, 695, 113, 114, 115, 116, 117, 118, 119, 2, 120, 121, 122, 123, 696, 201, 202, 203, 697, 221, 222, 223, 698, 241, 242, 243, 699, 257, 258, 259, 260, 261, 262, 263, 264, 265, 266, 135, 136, 137, 138, 20, 139, 140, 141, 19, 142, 51, 143, 144, 145, 146, 147, 148, 149, 150, 151, 152, 153, 154, 795, 796, 797, 798, 799, 800, 801, 802, 803, 804, 805, 806, 807, 840, 841, 842, 843, 844, 845, 846, 847, 832, 833, 834, 835, 836, 837, 838, 839] (by decide +kernel) (by decide +kernel)
set_option maxRecDepth 20000 in
theorem gL_law_X6_does : GoodIn wsL_law (wsV RL 90 RX6 yX6_does wsX6_does) := goodIn_app (goodIn_of _ (by decide +kernel)) ggL_law_X6_does
set_option maxRecDepth 20000 in
theorem ggL_law_X7_does : GoodIn wsL_law wsX7_does := goodIn_r _ [703, 704, 705, 81, 82, 706, 707, 708, 5, 709, 647, 710, 711, 712, 713, 714, 715, 716, 717, 718, 85, 167, 168, 169, 719, 720, 721, 722, 93, 92, 723, 724, 725, 726, 727, 728, 729, 159, 160, 161, 162, 730, 731, 732, 733, 163, 164, 165, 166, 170, 171, 172, 173, 174, 175, 176, 177, 178, 208, 209, 210, 211, 212, 213, 214, 215, 228, 229, 230, 231, 232, 233, 234, 235, 248, 249, 250, 251, 271, 272, 273, 274, 275, 276, 277, 183, 184, 185, 186, 187, 83, 808, 809, 810, 811, 812, 813, 814, 815, 816, 817, 818, 819, 820, 821, 822, 823, 824, 825, 826, 827, 828, 829, 830, 831] (by decide +kernel) (by decide +kernel)
set_option maxRecDepth 20000 in
theorem gL_law_X7_does : GoodIn wsL_law (wsV RL 93 RX7 yX7_does wsX7_does) := goodIn_app (goodIn_of _ (by decide +kernel)) ggL_law_X7_does
set_option maxRecDepth 20000 in
theorem ggL_law_X6_back : GoodIn wsL_law wsX6_back := goodIn_r _ [737, 20, 15, 128, 129, 130, 2, 131, 132, 133, 134, 738, 739, 740, 19, 741, 144, 51, 143, 145, 146, 147, 148, 103, 104, 14, 105, 43, 106, 107, 108, 109, 44, 45, 110, 111, 149, 150, 151, 152, 153, 154, 795, 796, 797, 798, 799, 800, 801, 802, 803, 804, 805, 806, 807, 837, 838, 839, 832, 833, 834, 835, 836] (by decide +kernel) (by decide +kernel)
set_option maxRecDepth 20000 in
theorem gL_law_X6_back : GoodIn wsL_law (wsV RL 94 RX6 yX6_back wsX6_back) := goodIn_app (goodIn_of _ (by decide +kernel)) ggL_law_X6_back
set_option maxRecDepth 20000 in
theorem ggL_law_X7_back : GoodIn wsL_law wsX7_back := goodIn_r _ [745, 187, 81, 83, 559, 560, 561, 5, 562, 84, 808, 809, 810, 811, 812, 813, 814, 815, 816, 817, 818, 819, 820, 821, 822, 823, 824, 825, 826, 827, 828, 829, 830, 831] (by decide +kernel) (by decide +kernel)
set_option maxRecDepth 20000 in
theorem gL_law_X7_back : GoodIn wsL_law (wsV RL 97 RX7 yX7_back wsX7_back) := goodIn_app (goodIn_of _ (by decide +kernel)) ggL_law_X7_back
set_option maxRecDepth 20000 in
theorem ggL_law_X6_refused : GoodIn wsL_law wsX6_refused := goodIn_r _ [749, 290, 119, 2, 120, 128, 129, 130, 131, 132, 133, 134, 750, 751, 752, 753, 24, 20, 795, 796, 797, 798, 799, 800, 801, 802, 803, 804, 805, 806, 807, 840, 841, 842, 843, 844, 845, 846, 847, 837, 838, 839] (by decide +kernel) (by decide +kernel)
set_option maxRecDepth 20000 in
theorem gL_law_X6_refused : GoodIn wsL_law (wsV RL 98 RX6 yX6_refused wsX6_refused) := goodIn_app (goodIn_of _ (by decide +kernel)) ggL_law_X6_refused
set_option maxRecDepth 20000 in
theorem ggL_law_X7_refused : GoodIn wsL_law wsX7_refused := goodIn_r _ [757, 167, 168, 5, 169, 758, 759, 760, 761, 84, 647, 187, 192, 193, 194, 195, 808, 809, 810, 811, 812, 813, 814, 815, 816, 817, 818, 819, 820, 821, 822, 823, 824, 825, 826, 827, 828, 829, 830, 831] (by decide +kernel) (by decide +kernel)
set_option maxRecDepth 20000 in
theorem gL_law_X7_refused : GoodIn wsL_law (wsV RL 101 RX7 yX7_refused wsX7_refused) := goodIn_app (goodIn_of _ (by decide +kernel)) ggL_law_X7_refused
set_option maxRecDepth 20000 in
theorem ggL_law_X6_digest : GoodIn wsL_law wsX6_digest := goodIn_r _ [765, 766, 767, 15, 28, 750, 751, 752, 2, 753, 132, 133, 134, 24, 20, 768, 769, 770, 14, 771, 772, 110, 43, 773, 627, 628, 629, 111, 45, 44, 453, 454, 455, 456, 153, 33, 457, 458, 459, 32, 460, 461, 68, 462, 463, 464, 465, 70, 69, 466, 467, 468, 469, 71, 470, 107, 108, 109, 471, 472, 413, 387, 414, 473, 474, 475, 476, 477, 478, 479, 480, 481, 482, 483, 484, 485, 486, 487, 488, 489, 490, 491, 492, 493, 494, 495, 496, 497, 498, 499, 500, 501, 502, 503, 504, 310, 311, 774, 775, 776, 777, 778, 583, 510, 511, 512, 779, 514, 515, 516, 600, 601, 602, 603, 604, 576, 577, 578, 579, 580, 581, 582, 402, 403, 404, 405, 154, 37, 406, 407, 408, 36, 409, 410, 411, 412, 415, 287, 288, 289, 260, 261, 262, 263, 264, 265, 266, 416, 292, 293, 27, 294, 295, 296, 297, 298, 299, 300, 301, 62, 302, 303, 304, 305, 306, 307, 308, 309, 63, 417, 418, 419, 420, 76, 421, 422, 423, 424, 425, 426, 427, 428, 291, 312, 313, 314, 315, 795, 796, 797, 798, 799, 800, 801, 802, 803, 804, 805, 806, 807, 832, 833, 834, 835, 836, 859, 860, 861, 840, 841, 842, 843, 844, 845, 846, 847, 837, 838, 839, 853, 854, 855, 856, 857, 858, 848, 849, 850, 851, 852] (by decide +kernel) (by decide +kernel)
set_option maxRecDepth 20000 in
theorem gL_law_X6_digest : GoodIn wsL_law (wsV RL 102 RX6 yX6_digest wsX6_digest) := goodIn_app (goodIn_of _ (by decide +kernel)) ggL_law_X6_digest
set_option maxRecDepth 20000 in
theorem ggL_law_X7_digest : GoodIn wsL_law wsX7_digest := goodIn_r _ [783, 784, 785, 81, 88, 758, 759, 760, 5, 761, 84, 647, 187, 786, 787, 788, 789, 790, 525, 526, 527, 528, 89, 529, 91, 530, 531, 532, 533, 534, 90, 535, 536, 537, 538, 539, 540, 541, 542, 346, 347, 348, 349, 543, 544, 545, 546, 547, 548, 549, 550, 339, 340, 341, 551, 552, 553, 554, 555, 556, 557, 558, 354, 355, 356, 357, 358, 359, 360, 791, 792, 793, 794, 609, 610, 611, 612, 588, 589, 590, 591, 592, 593, 594, 595, 433, 434, 435, 436, 328, 329, 330, 331, 332, 333, 334, 87, 335, 336, 337, 338, 86, 342, 343, 344, 345, 350, 351, 352, 353, 324, 325, 326, 327, 275, 276, 277, 394, 395, 396, 397, 445, 446, 447, 448, 361, 362, 363, 364, 808, 809, 810, 811, 812, 813, 814, 815, 816, 817, 818, 819, 820, 821, 822, 823, 824, 825, 826, 827, 828, 829, 830, 831] (by decide +kernel) (by decide +kernel)
set_option maxRecDepth 20000 in
theorem gL_law_X7_digest : GoodIn wsL_law (wsV RL 106 RX7 yX7_digest wsX7_digest) := goodIn_app (goodIn_of _ (by decide +kernel)) ggL_law_X7_digest
