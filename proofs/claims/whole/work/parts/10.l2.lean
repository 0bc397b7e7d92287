/-! the law calls -/
set_option maxRecDepth 20000 in
theorem ggL_law_X6_run : GoodIn wsL_law wsX6_run := goodIn_r _ [281, 15, 28, 282, 283, 284, 14, 285, 286, 287, 288, 289, 111, 260, 261, 262, 263, 264, 265, 266, 119, 2, 120, 290, 128, 129, 130, 131, 132, 133, 134, 291, 292, 293, 27, 294, 295, 296, 297, 298, 299, 300, 301, 62, 302, 303, 304, 305, 306, 307, 308, 309, 63, 310, 311, 312, 313, 314, 315, 795, 796, 797, 798, 799, 800, 801, 802, 803, 804, 805, 806, 807, 832, 833, 834, 835, 836, 848, 849, 850, 851, 852] (by decide +kernel) (by decide +kernel)
set_option maxRecDepth 20000 in
theorem gL_law_X6_run : GoodIn wsL_law (wsV RL 36 RX6 yX6_run wsX6_run) := goodIn_app (goodIn_of _ (by decide +kernel)) ggL_law_X6_run
set_option maxRecDepth 20000 in
theorem ggL_law_X7_run : GoodIn wsL_law wsX7_run := goodIn_r _ [319, 320, 321, 322, 5, 323, 324, 325, 326, 327, 81, 275, 276, 277, 167, 168, 169, 192, 193, 194, 195, 84, 328, 329, 330, 331, 332, 333, 334, 87, 335, 336, 337, 338, 86, 339, 340, 341, 342, 343, 344, 345, 346, 347, 348, 349, 350, 351, 352, 353, 354, 355, 356, 357, 358, 359, 360, 361, 362, 363, 364, 808, 809, 810, 811, 812, 813, 814, 815, 816, 817, 818, 819, 820, 821, 822, 823, 824, 825, 826, 827, 828, 829, 830, 831] (by decide +kernel) (by decide +kernel)
set_option maxRecDepth 20000 in
theorem gL_law_X7_run : GoodIn wsL_law (wsV RL 39 RX7 yX7_run wsX7_run) := goodIn_app (goodIn_of _ (by decide +kernel)) ggL_law_X7_run
set_option maxRecDepth 20000 in
theorem ggL_law_X6_sight : GoodIn wsL_law wsX6_sight := goodIn_r _ [368, 15, 28, 282, 283, 284, 14, 285, 286, 287, 288, 289, 111, 260, 261, 262, 263, 264, 265, 266, 119, 2, 120, 128, 129, 130, 131, 132, 133, 134, 291, 292, 293, 27, 294, 295, 296, 297, 298, 299, 300, 301, 62, 302, 303, 304, 305, 306, 307, 308, 309, 63, 310, 311, 369, 370, 371, 372, 795, 796, 797, 798, 799, 800, 801, 802, 803, 804, 805, 806, 807, 832, 833, 834, 835, 836, 848, 849, 850, 851, 852] (by decide +kernel) (by decide +kernel)
set_option maxRecDepth 20000 in
theorem gL_law_X6_sight : GoodIn wsL_law (wsV RL 40 RX6 yX6_sight wsX6_sight) := goodIn_app (goodIn_of _ (by decide +kernel)) ggL_law_X6_sight
set_option maxRecDepth 20000 in
theorem ggL_law_X7_sight : GoodIn wsL_law wsX7_sight := goodIn_r _ [376, 332, 87, 320, 321, 322, 5, 323, 324, 325, 326, 327, 81, 275, 276, 277, 167, 168, 169, 192, 193, 194, 195, 84, 328, 329, 330, 331, 333, 334, 335, 336, 337, 338, 86, 339, 340, 341, 342, 343, 344, 345, 346, 347, 348, 349, 350, 351, 352, 353, 354, 355, 356, 357, 358, 359, 360, 808, 809, 810, 811, 812, 813, 814, 815, 816, 817, 818, 819, 820, 821, 822, 823, 824, 825, 826, 827, 828, 829, 830, 831] (by decide +kernel) (by decide +kernel)
set_option maxRecDepth 20000 in
theorem gL_law_X7_sight : GoodIn wsL_law (wsV RL 43 RX7 yX7_sight wsX7_sight) := goodIn_app (goodIn_of _ (by decide +kernel)) ggL_law_X7_sight
set_option maxRecDepth 20000 in
theorem ggL_law_X6_parts : GoodIn wsL_law wsX6_parts := goodIn_r _ [380, 15, 28, 29, 282, 283, 284, 14, 285, 286, 287, 288, 289, 111, 260, 261, 262, 263, 264, 265, 266, 119, 2, 120, 128, 129, 130, 131, 132, 133, 134, 291, 292, 293, 27, 294, 295, 296, 297, 298, 299, 300, 301, 62, 302, 303, 304, 305, 306, 307, 308, 309, 63, 310, 311, 381, 382, 383, 384, 385, 386, 387, 388, 389, 370, 371, 372, 795, 796, 797, 798, 799, 800, 801, 802, 803, 804, 805, 806, 807, 832, 833, 834, 835, 836, 848, 849, 850, 851, 852] (by decide +kernel) (by decide +kernel)
set_option maxRecDepth 20000 in
theorem gL_law_X6_parts : GoodIn wsL_law (wsV RL 44 RX6 yX6_parts wsX6_parts) := goodIn_app (goodIn_of _ (by decide +kernel)) ggL_law_X6_parts
set_option maxRecDepth 20000 in
theorem ggL_law_X7_parts : GoodIn wsL_law wsX7_parts := goodIn_r _ [393, 320, 321, 322, 5, 323, 324, 325, 326, 327, 81, 275, 276, 277, 167, 168, 169, 192, 193, 194, 195, 84, 328, 329, 330, 331, 332, 333, 334, 87, 335, 336, 337, 338, 86, 339, 340, 341, 342, 343, 344, 345, 346, 347, 348, 349, 350, 351, 352, 353, 354, 355, 356, 357, 358, 359, 360, 394, 395, 396, 397, 808, 809, 810, 811, 812, 813, 814, 815, 816, 817, 818, 819, 820, 821, 822, 823, 824, 825, 826, 827, 828, 829, 830, 831] (by decide +kernel) (by decide +kernel)
set_option maxRecDepth 20000 in
theorem gL_law_X7_parts : GoodIn wsL_law (wsV RL 47 RX7 yX7_parts wsX7_parts) := goodIn_app (goodIn_of _ (by decide +kernel)) ggL_law_X7_parts
set_option maxRecDepth 20000 in
theorem ggL_law_X6_leak : GoodIn wsL_law wsX6_leak := goodIn_r _ [401, 402, 403, 404, 2, 405, 154, 37, 15, 28, 406, 407, 408, 36, 409, 410, 411, 412, 413, 387, 414, 415, 287, 288, 14, 289, 111, 260, 261, 262, 263, 264, 265, 266, 416, 292, 293, 27, 294, 295, 296, 297, 298, 299, 300, 301, 62, 302, 303, 304, 305, 306, 307, 308, 309, 63, 310, 311, 417, 418, 419, 420, 76, 421, 422, 423, 424, 425, 426, 427, 428, 859, 860, 861, 795, 796, 797, 798, 799, 800, 801, 802, 803, 804, 805, 806, 807, 832, 833, 834, 835, 836, 848, 849, 850, 851, 852] (by decide +kernel) (by decide +kernel)
set_option maxRecDepth 20000 in
theorem gL_law_X6_leak : GoodIn wsL_law (wsV RL 48 RX6 yX6_leak wsX6_leak) := goodIn_app (goodIn_of _ (by decide +kernel)) ggL_law_X6_leak
set_option maxRecDepth 20000 in
theorem ggL_law_X7_leak : GoodIn wsL_law wsX7_leak := goodIn_r _ [432, 433, 434, 435, 5, 436, 328, 329, 330, 331, 332, 333, 81, 334, 87, 335, 336, 337, 338, 86, 339, 340, 341, 342, 343, 344, 345, 346, 347, 348, 349, 350, 351, 352, 353, 354, 355, 356, 357, 358, 359, 360, 324, 325, 326, 327, 275, 276, 277, 394, 395, 396, 397, 808, 809, 810, 811, 812, 813, 814, 815, 816, 817, 818, 819, 820, 821, 822, 823, 824, 825, 826, 827, 828, 829, 830, 831] (by decide +kernel) (by decide +kernel)
set_option maxRecDepth 20000 in
theorem gL_law_X7_leak : GoodIn wsL_law (wsV RL 52 RX7 yX7_leak wsX7_leak) := goodIn_app (goodIn_of _ (by decide +kernel)) ggL_law_X7_leak
set_option maxRecDepth 20000 in
theorem ggL_law_X6_rows : GoodIn wsL_law wsX6_rows := goodIn_r _ [440, 402, 403, 404, 2, 405, 154, 37, 15, 28, 406, 407, 408, 36, 409, 410, 411, 412, 413, 387, 414, 415, 287, 288, 14, 289, 111, 260, 261, 262, 263, 264, 265, 266, 416, 292, 293, 27, 294, 295, 296, 297, 298, 299, 300, 301, 62, 302, 303, 304, 305, 306, 307, 308, 309, 63, 310, 311, 417, 418, 419, 420, 76, 421, 422, 423, 424, 425, 426, 427, 428, 859, 860, 861, 795, 796, 797, 798, 799, 800, 801, 802, 803, 804, 805, 806, 807, 832, 833, 834, 835, 836, 848, 849, 850, 851, 852] (by decide +kernel) (by decide +kernel)
set_option maxRecDepth 20000 in
theorem gL_law_X6_rows : GoodIn wsL_law (wsV RL 53 RX6 yX6_rows wsX6_rows) := goodIn_app (goodIn_of _ (by decide +kernel)) ggL_law_X6_rows
set_option maxRecDepth 20000 in
theorem ggL_law_X7_rows : GoodIn wsL_law wsX7_rows := goodIn_r _ [444, 445, 446, 447, 5, 448, 324, 325, 326, 327, 81, 275, 276, 277, 328, 329, 330, 331, 332, 333, 334, 87, 335, 336, 337, 338, 86, 339, 340, 341, 342, 343, 344, 345, 346, 347, 348, 349, 350, 351, 352, 353, 354, 355, 356, 357, 358, 359, 360, 394, 395, 396, 397, 808, 809, 810, 811, 812, 813, 814, 815, 816, 817, 818, 819, 820, 821, 822, 823, 824, 825, 826, 827, 828, 829, 830, 831] (by decide +kernel) (by decide +kernel)
set_option maxRecDepth 20000 in
theorem gL_law_X7_rows : GoodIn wsL_law (wsV RL 56 RX7 yX7_rows wsX7_rows) := goodIn_app (goodIn_of _ (by decide +kernel)) ggL_law_X7_rows
set_option maxRecDepth 20000 in
theorem ggL_law_X6_ahead : GoodIn wsL_law wsX6_ahead := goodIn_r _ [452, 15, 290, 119, 2, 120, 128, 129, 130, 131, 132, 133, 134, 453, 454, 455, 456, 153, 33, 457, 458, 459, 32, 460, 461, 68, 462, 463, 464, 465, 70, 69, 466, 467, 468, 469, 71, 470, 107, 108, 109, 471, 472, 413, 387, 414, 473, 474, 475, 14, 476, 43, 477, 478, 479, 480, 481, 482, 483, 484, 485, 486, 487, 488, 489, 490, 491, 492, 493, 494, 495, 496, 497, 498, 499, 500, 501, 502, 503, 504, 310, 311, 505, 506, 507, 508, 509, 510, 511, 512, 513, 514, 515, 516, 795, 796, 797, 798, 799, 800, 801, 802, 803, 804, 805, 806, 807, 832, 833, 834, 835, 836, 853, 854, 855, 856, 857, 858] (by decide +kernel) (by decide +kernel)
set_option maxRecDepth 20000 in
theorem gL_law_X6_ahead : GoodIn wsL_law (wsV RL 57 RX6 yX6_ahead wsX6_ahead) := goodIn_app (goodIn_of _ (by decide +kernel)) ggL_law_X6_ahead
set_option maxRecDepth 20000 in
theorem ggL_law_X7_ahead : GoodIn wsL_law wsX7_ahead := goodIn_r _ [520, 88, 89, 90, 521, 522, 523, 5, 524, 81, 167, 168, 169, 170, 171, 172, 192, 193, 194, 195, 84, 525, 526, 527, 528, 529, 91, 530, 531, 532, 533, 534, 535, 536, 537, 538, 539, 540, 541, 542, 346, 347, 348, 349, 543, 544, 545, 546, 547, 548, 549, 550, 339, 340, 341, 551, 552, 553, 554, 555, 556, 557, 558, 354, 355, 356, 357, 358, 359, 360, 559, 560, 561, 562, 808, 809, 810, 811, 812, 813, 814, 815, 816, 817, 818, 819, 820, 821, 822, 823, 824, 825, 826, 827, 828, 829, 830, 831] (by decide +kernel) (by decide +kernel)
set_option maxRecDepth 20000 in
theorem gL_law_X7_ahead : GoodIn wsL_law (wsV RL 61 RX7 yX7_ahead wsX7_ahead) := goodIn_app (goodIn_of _ (by decide +kernel)) ggL_law_X7_ahead
