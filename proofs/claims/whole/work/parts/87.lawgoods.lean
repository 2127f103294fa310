/-! ===== the words of what the law calls (printed) ===== -/
set_option maxRecDepth 20000 in
theorem ggL_law_X8_init : GoodIn wsL_law wsX8_init := goodIn_r _ [8, 9, 10, 11, 12, 13, 14, 15, 16, 17, 18, 19, 20, 21, 22, 23, 24, 25, 26, 27, 28, 29, 30, 31, 32, 33, 34, 35, 36, 37, 38, 39, 40, 41, 42, 43, 44, 45, 46, 47, 48, 49, 50, 51, 52, 53, 54, 55, 56, 57, 58, 59, 60, 61, 62, 63, 64, 65, 66, 67, 68, 69, 70, 71, 72, 73, 74, 75, 76, 77, 78, 79, 80, 81, 82, 83, 84, 85, 86, 87, 88, 89, 90, 91, 92, 93, 94, 95, 96, 97, 98, 99, 100, 101, 810, 811, 812, 813, 814, 780, 781, 782, 783, 784, 785, 786, 815, 816, 817, 818, 819, 820, 821, 822, 823, 824, 825, 826, 827, 828, 829, 830, 831, 832, 833, 834, 835, 836, 837, 838] (by decide +kernel) (by decide +kernel)
set_option maxRecDepth 20000 in
theorem gL_law_X8_init : GoodIn wsL_law (wsX8_init) := ggL_law_X8_init
set_option maxRecDepth 20000 in
theorem ggL_law_X9_init : GoodIn wsL_law wsX9_init := goodIn_r _ [104, 105, 10, 11, 43, 106, 45, 107, 108, 109, 110, 111, 112, 113, 114, 74, 115, 116, 117, 118, 119, 120, 787, 788, 789, 790, 791, 792, 793, 794, 795, 796, 797, 798, 799, 800, 801, 802, 803, 804, 805, 806, 807, 808, 809] (by decide +kernel) (by decide +kernel)
set_option maxRecDepth 20000 in
theorem gL_law_X9_init : GoodIn wsL_law (wsX9_init) := ggL_law_X9_init
set_option maxRecDepth 20000 in
theorem ggL_law_X8_one : GoodIn wsL_law wsX8_one := goodIn_r _ [124, 15, 125, 126, 2, 127, 128, 129, 130, 131, 132, 133, 14, 134, 49, 135, 136, 137, 138, 44, 139, 140, 141, 142, 143, 144, 145, 146, 48, 780, 781, 782, 783, 784, 785, 786, 810, 811, 812, 813, 814] (by decide +kernel) (by decide +kernel)
set_option maxRecDepth 20000 in
theorem gL_law_X8_one : GoodIn wsL_law (wsV RL 13 RX8 yX8_one wsX8_one) := goodIn_app (goodIn_of _ (by decide +kernel)) ggL_law_X8_one
set_option maxRecDepth 20000 in
theorem ggL_law_X9_one : GoodIn wsL_law wsX9_one := goodIn_r _ [150, 151, 152, 106, 108, 153, 154, 5, 155, 787, 788, 789, 790, 791, 792, 793, 794, 795, 796, 797, 798, 799, 800, 801, 802, 803, 804, 805, 806, 807, 808, 809] (by decide +kernel) (by decide +kernel)
set_option maxRecDepth 20000 in
theorem gL_law_X9_one : GoodIn wsL_law (wsV RL 17 RX9 yX9_one wsX9_one) := goodIn_app (goodIn_of _ (by decide +kernel)) ggL_law_X9_one
set_option maxRecDepth 20000 in
theorem ggL_law_X8_think : GoodIn wsL_law wsX8_think := goodIn_r _ [159, 15, 160, 140, 141, 14, 142, 49, 125, 126, 2, 127, 128, 129, 130, 161, 162, 163, 164, 44, 139, 165, 136, 137, 138, 780, 781, 782, 783, 784, 785, 786, 810, 811, 812, 813, 814] (by decide +kernel) (by decide +kernel)
set_option maxRecDepth 20000 in
theorem gL_law_X8_think : GoodIn wsL_law (wsV RL 18 RX8 yX8_think wsX8_think) := goodIn_app (goodIn_of _ (by decide +kernel)) ggL_law_X8_think
set_option maxRecDepth 20000 in
theorem ggL_law_X9_think : GoodIn wsL_law wsX9_think := goodIn_r _ [169, 151, 106, 170, 171, 172, 5, 173, 152, 153, 154, 155, 787, 788, 789, 790, 791, 792, 793, 794, 795, 796, 797, 798, 799, 800, 801, 802, 803, 804, 805, 806, 807, 808, 809] (by decide +kernel) (by decide +kernel)
set_option maxRecDepth 20000 in
theorem gL_law_X9_think : GoodIn wsL_law (wsV RL 22 RX9 yX9_think wsX9_think) := goodIn_app (goodIn_of _ (by decide +kernel)) ggL_law_X9_think
set_option maxRecDepth 20000 in
theorem ggL_law_X8_stubborn : GoodIn wsL_law wsX8_stubborn := goodIn_r _ [177, 15, 160, 140, 141, 14, 142, 49, 178, 179, 180, 181, 46, 139, 182, 183, 184, 185, 780, 781, 782, 783, 784, 785, 786, 810, 811, 812, 813, 814] (by decide +kernel) (by decide +kernel)
set_option maxRecDepth 20000 in
theorem gL_law_X8_stubborn : GoodIn wsL_law (wsV RL 23 RX8 yX8_stubborn wsX8_stubborn) := goodIn_app (goodIn_of _ (by decide +kernel)) ggL_law_X8_stubborn
set_option maxRecDepth 20000 in
theorem ggL_law_X9_stubborn : GoodIn wsL_law wsX9_stubborn := goodIn_r _ [189, 107, 170, 171, 172, 5, 173, 152, 153, 154, 155, 787, 788, 789, 790, 791, 792, 793, 794, 795, 796, 797, 798, 799, 800, 801, 802, 803, 804, 805, 806, 807, 808, 809] (by decide +kernel) (by decide +kernel)
set_option maxRecDepth 20000 in
theorem gL_law_X9_stubborn : GoodIn wsL_law (wsV RL 27 RX9 yX9_stubborn wsX9_stubborn) := goodIn_app (goodIn_of _ (by decide +kernel)) ggL_law_X9_stubborn
set_option maxRecDepth 20000 in
theorem ggL_law_X8_weight : GoodIn wsL_law wsX8_weight := goodIn_r _ [193, 15, 160, 140, 141, 14, 142, 49, 128, 129, 2, 130, 194, 195, 196, 197, 48, 139, 198, 144, 145, 146, 780, 781, 782, 783, 784, 785, 786, 810, 811, 812, 813, 814] (by decide +kernel) (by decide +kernel)
set_option maxRecDepth 20000 in
theorem gL_law_X8_weight : GoodIn wsL_law (wsV RL 28 RX8 yX8_weight wsX8_weight) := goodIn_app (goodIn_of _ (by decide +kernel)) ggL_law_X8_weight
set_option maxRecDepth 20000 in
theorem ggL_law_X9_weight : GoodIn wsL_law wsX9_weight := goodIn_r _ [202, 203, 108, 170, 171, 172, 5, 173, 152, 153, 154, 155, 204, 205, 206, 207, 787, 788, 789, 790, 791, 792, 793, 794, 795, 796, 797, 798, 799, 800, 801, 802, 803, 804, 805, 806, 807, 808, 809] (by decide +kernel) (by decide +kernel)
set_option maxRecDepth 20000 in
theorem gL_law_X9_weight : GoodIn wsL_law (wsV RL 32 RX9 yX9_weight wsX9_weight) := goodIn_app (goodIn_of _ (by decide +kernel)) ggL_law_X9_weight
set_option maxRecDepth 20000 in
theorem ggL_law_X8_ear : GoodIn wsL_law wsX8_ear := goodIn_r _ [211, 15, 125, 126, 2, 127, 128, 129, 130, 212, 213, 214, 14, 215, 50, 216, 217, 218, 219, 780, 781, 782, 783, 784, 785, 786, 810, 811, 812, 813, 814] (by decide +kernel) (by decide +kernel)
set_option maxRecDepth 20000 in
theorem gL_law_X8_ear : GoodIn wsL_law (wsV RL 33 RX8 yX8_ear wsX8_ear) := goodIn_app (goodIn_of _ (by decide +kernel)) ggL_law_X8_ear
set_option maxRecDepth 20000 in
theorem ggL_law_X9_ear : GoodIn wsL_law wsX9_ear := goodIn_r _ [223, 151, 109, 153, 154, 5, 155, 787, 788, 789, 790, 791, 792, 793, 794, 795, 796, 797, 798, 799, 800, 801, 802, 803, 804, 805, 806, 807, 808, 809] (by decide +kernel) (by decide +kernel)
set_option maxRecDepth 20000 in
theorem gL_law_X9_ear : GoodIn wsL_law (wsV RL 36 RX9 yX9_ear wsX9_ear) := goodIn_app (goodIn_of _ (by decide +kernel)) ggL_law_X9_ear
set_option maxRecDepth 20000 in
theorem ggL_law_X8_rounds : GoodIn wsL_law wsX8_rounds := goodIn_r _ [227, 19, 15, 128, 129, 2, 130, 228, 229, 230, 18, 231, 232, 233, 234, 235, 54, 236, 237, 238, 14, 239, 49, 240, 241, 242, 243, 46, 48, 44, 139, 140, 141, 142, 244, 162, 163, 164, 245, 246, 247, 248, 249, 250, 251, 252, 50, 253, 254, 136, 137, 138, 780, 781, 782, 783, 784, 785, 786, 815, 816, 810, 811, 812, 813, 814] (by decide +kernel) (by decide +kernel)
set_option maxRecDepth 20000 in
theorem gL_law_X8_rounds : GoodIn wsL_law (wsV RL 37 RX8 yX8_rounds wsX8_rounds) := goodIn_app (goodIn_of _ (by decide +kernel)) ggL_law_X8_rounds
set_option maxRecDepth 20000 in
theorem ggL_law_X9_rounds : GoodIn wsL_law wsX9_rounds := goodIn_r _ [258, 259, 153, 154, 5, 155, 260, 261, 262, 263, 152, 106, 111, 107, 264, 265, 266, 267, 109, 204, 205, 206, 207, 108, 268, 269, 270, 787, 788, 789, 790, 791, 792, 793, 794, 795, 796, 797, 798, 799, 800, 801, 802, 803, 804, 805, 806, 807, 808, 809] (by decide +kernel) (by decide +kernel)
set_option maxRecDepth 20000 in
theorem gL_law_X9_rounds : GoodIn wsL_law (wsV RL 40 RX9 yX9_rounds wsX9_rounds) := goodIn_app (goodIn_of _ (by decide +kernel)) ggL_law_X9_rounds
set_option maxRecDepth 20000 in
theorem ggL_law_X8_settle : GoodIn wsL_law wsX8_settle := goodIn_r _ [274, 19, 15, 275, 276, 277, 18, 278, 232, 233, 234, 235, 54, 236, 237, 238, 14, 239, 49, 240, 241, 242, 243, 46, 48, 44, 139, 140, 141, 142, 244, 162, 163, 164, 245, 246, 247, 248, 249, 250, 251, 252, 50, 253, 254, 136, 137, 138, 780, 781, 782, 783, 784, 785, 786, 815, 816, 810, 811, 812, 813, 814] (by decide +kernel) (by decide +kernel)
set_option maxRecDepth 20000 in
theorem gL_law_X8_settle : GoodIn wsL_law (wsV RL 41 RX8 yX8_settle wsX8_settle) := goodIn_app (goodIn_of _ (by decide +kernel)) ggL_law_X8_settle
set_option maxRecDepth 20000 in
theorem ggL_law_X9_settle : GoodIn wsL_law wsX9_settle := goodIn_r _ [282, 283, 284, 285, 5, 286, 260, 261, 262, 263, 152, 106, 111, 107, 264, 265, 266, 267, 109, 204, 205, 206, 207, 108, 268, 269, 270, 787, 788, 789, 790, 791, 792, 793, 794, 795, 796, 797, 798, 799, 800, 801, 802, 803, 804, 805, 806, 807, 808, 809] (by decide +kernel) (by decide +kernel)
set_option maxRecDepth 20000 in
theorem gL_law_X9_settle : GoodIn wsL_law (wsV RL 45 RX9 yX9_settle wsX9_settle) := goodIn_app (goodIn_of _ (by decide +kernel)) ggL_law_X9_settle
set_option maxRecDepth 20000 in
theorem ggL_law_X8_about : GoodIn wsL_law wsX8_about := goodIn_r _ [290, 15, 23, 160, 140, 141, 14, 142, 49, 161, 162, 163, 164, 44, 139, 178, 179, 180, 181, 46, 291, 292, 293, 294, 245, 246, 247, 248, 48, 249, 250, 251, 252, 50, 295, 296, 297, 22, 298, 60, 299, 237, 238, 239, 300, 301, 302, 303, 59, 304, 305, 306, 307, 308, 309, 310, 311, 312, 313, 314, 315, 316, 317, 318, 319, 320, 321, 322, 323, 324, 325, 326, 327, 328, 329, 330, 331, 332, 780, 781, 782, 783, 784, 785, 786, 810, 811, 812, 813, 814, 817, 818] (by decide +kernel) (by decide +kernel)
set_option maxRecDepth 20000 in
theorem gL_law_X8_about : GoodIn wsL_law (wsV RL 46 RX8 yX8_about wsX8_about) := goodIn_app (goodIn_of _ (by decide +kernel)) ggL_law_X8_about
set_option maxRecDepth 20000 in
theorem ggL_law_X9_about : GoodIn wsL_law wsX9_about := goodIn_r _ [336, 106, 107, 152, 112, 170, 171, 172, 5, 173, 153, 154, 155, 264, 265, 266, 267, 109, 204, 205, 206, 207, 108, 268, 269, 270, 337, 338, 339, 340, 787, 788, 789, 790, 791, 792, 793, 794, 795, 796, 797, 798, 799, 800, 801, 802, 803, 804, 805, 806, 807, 808, 809] (by decide +kernel) (by decide +kernel)
set_option maxRecDepth 20000 in
theorem gL_law_X9_about : GoodIn wsL_law (wsV RL 49 RX9 yX9_about wsX9_about) := goodIn_app (goodIn_of _ (by decide +kernel)) ggL_law_X9_about
set_option maxRecDepth 20000 in
theorem ggL_law_X8_told : GoodIn wsL_law wsX8_told := goodIn_r _ [344, 15, 345, 237, 238, 14, 239, 49, 212, 213, 214, 215, 50, 346, 347, 348, 2, 349, 23, 295, 296, 297, 22, 298, 60, 299, 300, 301, 302, 303, 59, 304, 305, 306, 307, 245, 246, 247, 248, 48, 44, 249, 250, 251, 252, 139, 140, 141, 142, 308, 309, 310, 311, 312, 313, 314, 315, 316, 317, 318, 319, 320, 321, 322, 323, 328, 329, 330, 331, 332, 325, 326, 327, 350, 351, 352, 353, 354, 355, 356, 357, 358, 359, 244, 162, 163, 164, 360, 361, 362, 363, 364, 365, 366, 367, 368, 369, 370, 371, 372, 179, 180, 181, 46, 780, 781, 782, 783, 784, 785, 786, 810, 811, 812, 813, 814, 817, 818] (by decide +kernel) (by decide +kernel)
set_option maxRecDepth 20000 in
theorem gL_law_X8_told : GoodIn wsL_law (wsV RL 50 RX8 yX8_told wsX8_told) := goodIn_app (goodIn_of _ (by decide +kernel)) ggL_law_X8_told
set_option maxRecDepth 20000 in
theorem ggL_law_X9_told : GoodIn wsL_law wsX9_told := goodIn_r _ [376, 152, 109, 106, 107, 337, 338, 339, 5, 340, 112, 264, 265, 266, 267, 204, 205, 206, 207, 108, 268, 269, 270, 377, 378, 379, 380, 787, 788, 789, 790, 791, 792, 793, 794, 795, 796, 797, 798, 799, 800, 801, 802, 803, 804, 805, 806, 807, 808, 809] (by decide +kernel) (by decide +kernel)
set_option maxRecDepth 20000 in
theorem gL_law_X9_told : GoodIn wsL_law (wsV RL 53 RX9 yX9_told wsX9_told) := goodIn_app (goodIn_of _ (by decide +kernel)) ggL_law_X9_told
set_option maxRecDepth 20000 in
theorem ggL_law_X8_keep : GoodIn wsL_law wsX8_keep := goodIn_r _ [384, 27, 15, 385, 386, 387, 26, 388, 66, 64, 389, 355, 251, 356, 65, 390, 237, 238, 14, 239, 49, 391, 162, 163, 164, 44, 139, 140, 141, 142, 780, 781, 782, 783, 784, 785, 786, 819, 820, 821, 810, 811, 812, 813, 814] (by decide +kernel) (by decide +kernel)
set_option maxRecDepth 20000 in
theorem gL_law_X8_keep : GoodIn wsL_law (wsV RL 54 RX8 yX8_keep wsX8_keep) := goodIn_app (goodIn_of _ (by decide +kernel)) ggL_law_X8_keep
set_option maxRecDepth 20000 in
theorem ggL_law_X9_keep : GoodIn wsL_law wsX9_keep := goodIn_r _ [395, 152, 110, 106, 396, 397, 787, 788, 789, 790, 791, 792, 793, 794, 795, 796, 797, 798, 799, 800, 801, 802, 803, 804, 805, 806, 807, 808, 809] (by decide +kernel) (by decide +kernel)
set_option maxRecDepth 20000 in
theorem gL_law_X9_keep : GoodIn wsL_law (wsV RL 57 RX9 yX9_keep wsX9_keep) := goodIn_app (goodIn_of _ (by decide +kernel)) ggL_law_X9_keep
set_option maxRecDepth 20000 in
theorem ggL_law_X8_back : GoodIn wsL_law wsX8_back := goodIn_r _ [401, 27, 15, 402, 403, 404, 26, 405, 66, 406, 407, 408, 409, 65, 64, 410, 136, 137, 14, 138, 44, 139, 140, 141, 142, 49, 780, 781, 782, 783, 784, 785, 786, 819, 820, 821, 810, 811, 812, 813, 814] (by decide +kernel) (by decide +kernel)
set_option maxRecDepth 20000 in
theorem gL_law_X8_back : GoodIn wsL_law (wsV RL 58 RX8 yX8_back wsX8_back) := goodIn_app (goodIn_of _ (by decide +kernel)) ggL_law_X8_back
set_option maxRecDepth 20000 in
theorem ggL_law_X9_back : GoodIn wsL_law wsX9_back := goodIn_r _ [414, 397, 396, 106, 110, 787, 788, 789, 790, 791, 792, 793, 794, 795, 796, 797, 798, 799, 800, 801, 802, 803, 804, 805, 806, 807, 808, 809] (by decide +kernel) (by decide +kernel)
set_option maxRecDepth 20000 in
theorem gL_law_X9_back : GoodIn wsL_law (wsV RL 61 RX9 yX9_back wsX9_back) := goodIn_app (goodIn_of _ (by decide +kernel)) ggL_law_X9_back
set_option maxRecDepth 20000 in
theorem ggL_law_X8_width : GoodIn wsL_law wsX8_width := goodIn_r _ [418, 15, 19, 125, 126, 2, 127, 128, 129, 130, 212, 213, 214, 14, 215, 50, 419, 420, 421, 18, 422, 55, 236, 237, 238, 239, 49, 253, 162, 163, 164, 44, 139, 140, 141, 142, 216, 217, 218, 219, 275, 276, 277, 278, 232, 233, 234, 235, 54, 240, 241, 242, 243, 46, 48, 244, 245, 246, 247, 248, 249, 250, 251, 252, 254, 136, 137, 138, 346, 347, 348, 349, 23, 295, 296, 297, 22, 298, 60, 299, 300, 301, 302, 303, 59, 304, 305, 306, 307, 308, 309, 310, 311, 312, 313, 314, 315, 316, 317, 318, 319, 320, 321, 322, 323, 345, 328, 329, 330, 331, 332, 325, 326, 327, 423, 424, 425, 426, 780, 781, 782, 783, 784, 785, 786, 810, 811, 812, 813, 814, 815, 816, 817, 818] (by decide +kernel) (by decide +kernel)
set_option maxRecDepth 20000 in
theorem gL_law_X8_width : GoodIn wsL_law (wsV RL 62 RX8 yX8_width wsX8_width) := goodIn_app (goodIn_of _ (by decide +kernel)) ggL_law_X8_width
set_option maxRecDepth 20000 in
theorem ggL_law_X9_width : GoodIn wsL_law wsX9_width := goodIn_r _ [430, 151, 431, 109, 152, 113, 106, 153, 154, 5, 155, 283, 284, 285, 286, 260, 261, 262, 263, 111, 107, 264, 265, 266, 267, 204, 205, 206, 207, 108, 268, 269, 270, 337, 338, 339, 340, 112, 787, 788, 789, 790, 791, 792, 793, 794, 795, 796, 797, 798, 799, 800, 801, 802, 803, 804, 805, 806, 807, 808, 809] (by decide +kernel) (by decide +kernel)
set_option maxRecDepth 20000 in
theorem gL_law_X9_width : GoodIn wsL_law (wsV RL 65 RX9 yX9_width wsX9_width) := goodIn_app (goodIn_of _ (by decide +kernel)) ggL_law_X9_width
set_option maxRecDepth 20000 in
theorem ggL_law_X8_leads : GoodIn wsL_law wsX8_leads := goodIn_r _ [435, 15, 23, 160, 140, 141, 14, 142, 49, 436, 437, 438, 22, 439, 60, 299, 237, 238, 239, 300, 301, 302, 303, 59, 440, 195, 196, 197, 48, 139, 308, 309, 310, 311, 312, 313, 314, 315, 316, 317, 318, 319, 320, 321, 322, 323, 441, 780, 781, 782, 783, 784, 785, 786, 810, 811, 812, 813, 814, 817, 818] (by decide +kernel) (by decide +kernel)
set_option maxRecDepth 20000 in
theorem gL_law_X8_leads : GoodIn wsL_law (wsV RL 66 RX8 yX8_leads wsX8_leads) := goodIn_app (goodIn_of _ (by decide +kernel)) ggL_law_X8_leads
set_option maxRecDepth 20000 in
theorem ggL_law_X9_leads : GoodIn wsL_law wsX9_leads := goodIn_r _ [445, 114, 170, 171, 172, 5, 173, 152, 153, 154, 155, 446, 447, 448, 449, 204, 205, 206, 207, 108, 787, 788, 789, 790, 791, 792, 793, 794, 795, 796, 797, 798, 799, 800, 801, 802, 803, 804, 805, 806, 807, 808, 809] (by decide +kernel) (by decide +kernel)
set_option maxRecDepth 20000 in
theorem gL_law_X9_leads : GoodIn wsL_law (wsV RL 69 RX9 yX9_leads wsX9_leads) := goodIn_app (goodIn_of _ (by decide +kernel)) ggL_law_X9_leads
set_option maxRecDepth 20000 in
theorem ggL_law_X8_share : GoodIn wsL_law wsX8_share := goodIn_r _ [453, 15, 454, 455, 31, 23, 456, 160, 140, 141, 14, 142, 49, 128, 129, 2, 130, 457, 458, 459, 30, 460, 461, 237, 238, 239, 462, 437, 438, 22, 439, 60, 299, 300, 301, 302, 303, 59, 440, 195, 196, 197, 48, 139, 308, 309, 310, 311, 312, 313, 314, 315, 316, 317, 318, 319, 320, 321, 322, 323, 463, 464, 465, 466, 467, 76, 75, 73, 468, 469, 470, 471, 472, 473, 474, 72, 475, 476, 355, 251, 356, 477, 358, 359, 84, 82, 81, 478, 479, 480, 481, 482, 483, 484, 485, 486, 487, 488, 489, 490, 491, 492, 493, 494, 83, 495, 496, 497, 498, 499, 500, 501, 502, 503, 504, 505, 506, 507, 508, 509, 510, 511, 512, 513, 514, 515, 516, 517, 518, 519, 520, 521, 522, 523, 524, 525, 526, 780, 781, 782, 783, 784, 785, 786, 810, 811, 812, 813, 814, 817, 818, 822, 823, 824, 835, 836, 837, 838] (by decide +kernel) (by decide +kernel)
set_option maxRecDepth 20000 in
theorem gL_law_X8_share : GoodIn wsL_law (wsV RL 70 RX8 yX8_share wsX8_share) := goodIn_app (goodIn_of _ (by decide +kernel)) ggL_law_X8_share
set_option maxRecDepth 20000 in
theorem ggL_law_X9_share : GoodIn wsL_law wsX9_share := goodIn_r _ [530, 531, 532, 116, 533, 534, 170, 171, 172, 5, 173, 152, 153, 154, 155, 535, 536, 537, 538, 539, 540, 114, 541, 115, 446, 447, 448, 449, 204, 205, 206, 207, 108, 542, 543, 544, 545, 546, 547, 548, 549, 550, 551, 552, 553, 554, 555, 787, 788, 789, 790, 791, 792, 793, 794, 795, 796, 797, 798, 799, 800, 801, 802, 803, 804, 805, 806, 807, 808, 809] (by decide +kernel) (by decide +kernel)
set_option maxRecDepth 20000 in
theorem gL_law_X9_share : GoodIn wsL_law (wsV RL 74 RX9 yX9_share wsX9_share) := goodIn_app (goodIn_of _ (by decide +kernel)) ggL_law_X9_share
set_option maxRecDepth 20000 in
theorem ggL_law_X8_end : GoodIn wsL_law wsX8_end := goodIn_r _ [559, 455, 31, 15, 23, 456, 128, 129, 2, 130, 457, 458, 459, 30, 460, 461, 237, 238, 14, 239, 49, 462, 437, 438, 22, 439, 60, 299, 300, 301, 302, 303, 59, 440, 195, 196, 197, 48, 139, 140, 141, 142, 308, 309, 310, 311, 312, 313, 314, 315, 316, 317, 318, 319, 320, 321, 322, 323, 463, 464, 465, 466, 467, 76, 75, 73, 468, 469, 470, 471, 472, 473, 474, 72, 475, 476, 355, 251, 356, 477, 358, 359, 84, 82, 81, 478, 479, 480, 481, 482, 483, 484, 485, 486, 487, 488, 489, 490, 491, 492, 493, 494, 83, 495, 496, 497, 498, 499, 500, 501, 502, 503, 504, 505, 506, 507, 508, 509, 510, 511, 512, 560, 561, 562, 563, 564, 514, 515, 516, 565, 162, 163, 164, 44, 517, 518, 519, 520, 521, 522, 523, 524, 525, 526, 780, 781, 782, 783, 784, 785, 786, 810, 811, 812, 813, 814, 817, 818, 822, 823, 824, 835, 836, 837, 838] (by decide +kernel) (by decide +kernel)
set_option maxRecDepth 20000 in
theorem gL_law_X8_end : GoodIn wsL_law (wsV RL 75 RX8 yX8_end wsX8_end) := goodIn_app (goodIn_of _ (by decide +kernel)) ggL_law_X8_end
set_option maxRecDepth 20000 in
theorem ggL_law_X9_end : GoodIn wsL_law wsX9_end := goodIn_r _ [569, 532, 534, 152, 116, 106, 533, 153, 154, 5, 155, 535, 536, 537, 538, 539, 540, 114, 541, 115, 446, 447, 448, 449, 204, 205, 206, 207, 108, 542, 543, 544, 545, 546, 547, 548, 549, 550, 551, 552, 553, 554, 555, 787, 788, 789, 790, 791, 792, 793, 794, 795, 796, 797, 798, 799, 800, 801, 802, 803, 804, 805, 806, 807, 808, 809] (by decide +kernel) (by decide +kernel)
set_option maxRecDepth 20000 in
theorem gL_law_X9_end : GoodIn wsL_law (wsV RL 79 RX9 yX9_end wsX9_end) := goodIn_app (goodIn_of _ (by decide +kernel)) ggL_law_X9_end
set_option maxRecDepth 20000 in
theorem ggL_law_X8_rest : GoodIn wsL_law wsX8_rest := goodIn_r _ [573, 15, 454, 455, 35, 23, 456, 160, 140, 141, 14, 142, 49, 128, 129, 2, 130, 574, 575, 576, 34, 577, 578, 579, 580, 581, 582, 369, 370, 371, 372, 179, 180, 181, 46, 139, 583, 437, 438, 22, 439, 60, 299, 237, 238, 239, 300, 301, 302, 303, 59, 440, 195, 196, 197, 48, 308, 309, 310, 311, 312, 313, 314, 315, 316, 317, 318, 319, 320, 321, 322, 323, 584, 585, 586, 587, 588, 589, 590, 591, 592, 593, 89, 92, 91, 90, 594, 595, 596, 597, 598, 473, 474, 72, 475, 476, 355, 251, 356, 477, 358, 359, 84, 82, 81, 599, 600, 601, 602, 603, 604, 605, 606, 607, 608, 480, 481, 482, 483, 484, 485, 486, 609, 162, 163, 164, 44, 610, 611, 612, 613, 614, 492, 493, 494, 83, 495, 496, 497, 498, 499, 500, 501, 502, 503, 504, 505, 506, 507, 508, 509, 615, 616, 617, 618, 619, 620, 621, 622, 521, 522, 523, 524, 525, 526, 780, 781, 782, 783, 784, 785, 786, 810, 811, 812, 813, 814, 817, 818, 825, 826, 827, 828, 835, 836, 837, 838] (by decide +kernel) (by decide +kernel)
set_option maxRecDepth 20000 in
theorem gL_law_X8_rest : GoodIn wsL_law (wsV RL 80 RX8 yX8_rest wsX8_rest) := goodIn_app (goodIn_of _ (by decide +kernel)) ggL_law_X8_rest
set_option maxRecDepth 20000 in
theorem ggL_law_X9_rest : GoodIn wsL_law wsX9_rest := goodIn_r _ [626, 531, 532, 118, 627, 534, 170, 171, 172, 5, 173, 152, 153, 154, 155, 628, 629, 630, 631, 632, 541, 115, 117, 107, 106, 633, 634, 635, 636, 540, 114, 446, 447, 448, 449, 204, 205, 206, 207, 108, 637, 638, 639, 640, 641, 642, 643, 644, 542, 543, 544, 545, 546, 547, 548, 549, 645, 646, 647, 648, 550, 551, 552, 553, 554, 555, 787, 788, 789, 790, 791, 792, 793, 794, 795, 796, 797, 798, 799, 800, 801, 802, 803, 804, 805, 806, 807, 808, 809] (by decide +kernel) (by decide +kernel)
set_option maxRecDepth 20000 in
theorem gL_law_X9_rest : GoodIn wsL_law (wsV RL 83 RX9 yX9_rest wsX9_rest) := goodIn_app (goodIn_of _ (by decide +kernel)) ggL_law_X9_rest
set_option maxRecDepth 20000 in
theorem ggL_law_X8_pull : GoodIn wsL_law wsX8_pull := goodIn_r _ [652, 35, 15, 23, 125, 126, 2, 127, 128, 129, 130, 574, 575, 576, 34, 577, 578, 579, 580, 14, 581, 49, 582, 369, 370, 371, 372, 179, 180, 181, 46, 139, 140, 141, 142, 583, 437, 438, 22, 439, 60, 299, 237, 238, 239, 300, 301, 302, 303, 59, 440, 195, 196, 197, 48, 308, 309, 310, 311, 312, 313, 314, 315, 316, 317, 318, 319, 320, 321, 322, 323, 584, 585, 586, 587, 588, 589, 653, 345, 178, 654, 655, 656, 657, 161, 162, 163, 164, 44, 165, 136, 137, 138, 182, 183, 184, 185, 590, 591, 592, 593, 89, 92, 91, 90, 594, 595, 596, 597, 598, 473, 474, 72, 475, 476, 355, 251, 356, 477, 358, 359, 84, 82, 81, 599, 600, 601, 602, 603, 604, 605, 606, 607, 608, 480, 481, 482, 483, 484, 485, 486, 609, 610, 611, 612, 613, 614, 492, 493, 494, 83, 495, 496, 497, 498, 499, 500, 501, 502, 503, 504, 505, 506, 507, 508, 509, 658, 659, 660, 661, 662, 616, 617, 618, 619, 620, 621, 622, 663, 664, 665, 666, 667, 668, 669, 780, 781, 782, 783, 784, 785, 786, 810, 811, 812, 813, 814, 817, 818, 825, 826, 827, 828, 835, 836, 837, 838] (by decide +kernel) (by decide +kernel)
set_option maxRecDepth 20000 in
theorem gL_law_X8_pull : GoodIn wsL_law (wsV RL 84 RX8 yX8_pull wsX8_pull) := goodIn_app (goodIn_of _ (by decide +kernel)) ggL_law_X8_pull
set_option maxRecDepth 20000 in
theorem ggL_law_X9_pull : GoodIn wsL_law wsX9_pull := goodIn_r _ [673, 151, 632, 152, 107, 106, 118, 627, 153, 154, 5, 155, 633, 634, 635, 636, 117, 540, 114, 446, 447, 448, 449, 204, 205, 206, 207, 108, 628, 629, 630, 631, 541, 115, 637, 638, 639, 640, 641, 642, 643, 644, 542, 543, 544, 545, 546, 547, 548, 549, 645, 646, 647, 648, 674, 675, 676, 787, 788, 789, 790, 791, 792, 793, 794, 795, 796, 797, 798, 799, 800, 801, 802, 803, 804, 805, 806, 807, 808, 809] (by decide +kernel) (by decide +kernel)
set_option maxRecDepth 20000 in
theorem gL_law_X9_pull : GoodIn wsL_law (wsV RL 87 RX9 yX9_pull wsX9_pull) := goodIn_app (goodIn_of _ (by decide +kernel)) ggL_law_X9_pull
set_option maxRecDepth 20000 in
theorem ggL_law_X8_talk : GoodIn wsL_law wsX8_talk := goodIn_r _ [680, 15, 681, 250, 251, 252, 160, 140, 141, 14, 142, 49, 161, 162, 163, 164, 44, 139, 165, 136, 137, 138, 780, 781, 782, 783, 784, 785, 786, 810, 811, 812, 813, 814] (by decide +kernel) (by decide +kernel)
set_option maxRecDepth 20000 in
theorem gL_law_X8_talk : GoodIn wsL_law (wsV RL 88 RX8 yX8_talk wsX8_talk) := goodIn_app (goodIn_of _ (by decide +kernel)) ggL_law_X8_talk
set_option maxRecDepth 20000 in
theorem ggL_law_X9_talk : GoodIn wsL_law wsX9_talk := goodIn_r _ [685, 106, 170, 171, 172, 5, 173, 152, 153, 154, 155, 268, 269, 270, 686, 687, 688, 689, 787, 788, 789, 790, 791, 792, 793, 794, 795, 796, 797, 798, 799, 800, 801, 802, 803, 804, 805, 806, 807, 808, 809] (by decide +kernel) (by decide +kernel)
set_option maxRecDepth 20000 in
theorem gL_law_X9_talk : GoodIn wsL_law (wsV RL 91 RX9 yX9_talk wsX9_talk) := goodIn_app (goodIn_of _ (by decide +kernel)) ggL_law_X9_talk
set_option maxRecDepth 20000 in
theorem ggL_law_X8_fewest : GoodIn wsL_law wsX8_fewest := goodIn_r _ [693, 15, 39, 128, 129, 2, 130, 125, 126, 127, 345, 237, 238, 14, 239, 49, 694, 695, 696, 38, 697, 101, 99, 96, 97, 698, 699, 700, 701, 100, 98, 702, 703, 704, 705, 706, 162, 163, 164, 44, 139, 140, 141, 142, 707, 708, 709, 710, 711, 712, 713, 714, 715, 716, 717, 718, 719, 720, 721, 722, 723, 724, 725, 726, 727, 728, 729, 730, 731, 732, 355, 251, 356, 733, 358, 359, 734, 735, 736, 737, 738, 739, 740, 741, 742, 743, 744, 745, 746, 747, 748, 749, 780, 781, 782, 783, 784, 785, 786, 810, 811, 812, 813, 814, 829, 830, 831, 832, 833, 834] (by decide +kernel) (by decide +kernel)
set_option maxRecDepth 20000 in
theorem gL_law_X8_fewest : GoodIn wsL_law (wsV RL 92 RX8 yX8_fewest wsX8_fewest) := goodIn_app (goodIn_of _ (by decide +kernel)) ggL_law_X8_fewest
set_option maxRecDepth 20000 in
theorem ggL_law_X9_fewest : GoodIn wsL_law wsX9_fewest := goodIn_r _ [753, 539, 754, 151, 152, 113, 106, 153, 154, 5, 155, 755, 756, 757, 758, 759, 119, 120, 760, 761, 762, 763, 377, 378, 379, 380, 686, 687, 688, 689, 764, 765, 766, 767, 787, 788, 789, 790, 791, 792, 793, 794, 795, 796, 797, 798, 799, 800, 801, 802, 803, 804, 805, 806, 807, 808, 809] (by decide +kernel) (by decide +kernel)
set_option maxRecDepth 20000 in
theorem gL_law_X9_fewest : GoodIn wsL_law (wsV RL 95 RX9 yX9_fewest wsX9_fewest) := goodIn_app (goodIn_of _ (by decide +kernel)) ggL_law_X9_fewest
set_option maxRecDepth 20000 in
theorem ggL_law_X8_found : GoodIn wsL_law wsX8_found := goodIn_r _ [771, 39, 772, 773, 774, 38, 775, 99, 780, 781, 782, 783, 784, 785, 786, 829, 830, 831, 832, 833, 834] (by decide +kernel) (by decide +kernel)
set_option maxRecDepth 20000 in
theorem gL_law_X8_found : GoodIn wsL_law (wsV RL 96 RX8 yX8_found wsX8_found) := goodIn_app (goodIn_of _ (by decide +kernel)) ggL_law_X8_found
set_option maxRecDepth 20000 in
theorem ggL_law_X9_found : GoodIn wsL_law wsX9_found := goodIn_r _ [779, 759, 787, 788, 789, 790, 791, 792, 793, 794, 795, 796, 797, 798, 799, 800, 801, 802, 803, 804, 805, 806, 807, 808, 809] (by decide +kernel) (by decide +kernel)
set_option maxRecDepth 20000 in
theorem gL_law_X9_found : GoodIn wsL_law (wsV RL 99 RX9 yX9_found wsX9_found) := goodIn_app (goodIn_of _ (by decide +kernel)) ggL_law_X9_found
