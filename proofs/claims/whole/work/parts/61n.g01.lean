set_option maxRecDepth 20000 in
theorem ggL_law_X4_read : GoodIn wsL_law wsX4_read := goodIn_r _ [147, 16, 35, 34, 117, 24, 28, 148, 149, 150, 15, 151, 45, 46, 40, 42, 152, 153, 154, 155, 156, 157, 158, 159, 160, 161, 162, 163, 164, 165, 166, 167, 168, 169, 170, 171, 172, 173, 174, 175, 176, 177, 178, 179, 180, 181, 182, 183, 184, 185, 186, 187, 188, 189, 190, 191, 192, 193, 194, 195, 196, 197, 198, 199, 200, 201, 202, 203, 204, 205, 206, 207, 208, 209, 210, 211, 212, 213, 214, 215, 216, 217, 218, 219, 220, 221, 222, 223, 224, 225, 226, 227, 228, 229, 230, 231, 232, 43, 44, 233, 234, 235, 33, 236, 237, 238, 239, 240, 70, 71, 78, 77, 74, 76, 75, 241, 242, 243, 244, 245, 246, 247, 248, 249, 250, 251, 252, 253, 254, 255, 256, 257, 258, 259, 260, 72, 73, 261, 262, 263, 264, 265, 119, 2, 120, 266, 267, 268, 269, 270, 271, 272, 273, 274, 275, 276, 277, 278, 279, 280, 281, 282, 283, 284, 285, 286, 287, 288, 289, 290, 291, 292, 293, 294, 295, 296, 79, 80, 81, 23, 82, 56, 57, 58, 83, 59, 84, 85, 86, 87, 88, 60, 89, 65, 61, 62, 63, 64, 800, 801, 802, 803, 804, 805, 806, 807, 808, 809, 839, 840, 841, 842, 843, 844, 859, 860, 861, 862, 863, 864, 865, 866, 867, 848, 849, 850, 851, 852, 853, 854, 855, 856, 857, 858] (by decide +kernel) (by decide +kernel)
set_option maxRecDepth 20000 in
theorem gL_law_X4_read : GoodIn wsL_law (wsV RL 25 RX4 yX4_read wsX4_read) := goodIn_app (goodIn_of _ (by decide +kernel)) ggL_law_X4_read
set_option maxRecDepth 20000 in
theorem ggL_law_X5_read : GoodIn wsL_law wsX5_read := goodIn_r _ [300, 130, 301, 302, 303, 304, 305, 306, 307, 308, 309, 95, 96, 99, 100, 98, 97, 131, 105, 310, 311, 312, 5, 313, 314, 315, 316, 317, 318, 94, 133, 134, 135, 319, 320, 321, 322, 323, 324, 325, 326, 327, 328, 329, 330, 331, 332, 333, 334, 335, 336, 337, 338, 339, 340, 341, 342, 343, 344, 345, 346, 347, 348, 109, 110, 111, 112, 102, 810, 811, 812, 813, 814, 815, 816, 817, 818, 819, 820, 821, 822, 823, 824, 825, 826, 827, 828, 829, 830, 831, 832, 833, 834, 835, 836, 837, 838] (by decide +kernel) (by decide +kernel)
set_option maxRecDepth 20000 in
theorem gL_law_X5_read : GoodIn wsL_law (wsV RL 28 RX5 yX5_read wsX5_read) := goodIn_app (goodIn_of _ (by decide +kernel)) ggL_law_X5_read
set_option maxRecDepth 20000 in
theorem ggL_law_X4_trade : GoodIn wsL_law wsX4_trade := goodIn_r _ [352, 34, 353, 354, 24, 355, 356, 357, 358, 359, 2, 360, 361, 118, 119, 120, 800, 801, 802, 803, 804, 805, 806, 807, 808, 809, 859, 860, 861, 862, 863, 864, 865, 866, 867, 848, 849, 850, 851, 852, 853, 854, 855, 856, 857, 858] (by decide +kernel) (by decide +kernel)
set_option maxRecDepth 20000 in
theorem gL_law_X4_trade : GoodIn wsL_law (wsV RL 29 RX4 yX4_trade wsX4_trade) := goodIn_app (goodIn_of _ (by decide +kernel)) ggL_law_X4_trade
set_option maxRecDepth 20000 in
theorem ggL_law_X5_trade : GoodIn wsL_law wsX5_trade := goodIn_r _ [365, 130, 95, 96, 102, 366, 367, 368, 5, 369, 308, 133, 134, 135, 810, 811, 812, 813, 814, 815, 816, 817, 818, 819, 820, 821, 822, 823, 824, 825, 826, 827, 828, 829, 830, 831, 832, 833, 834, 835, 836, 837, 838] (by decide +kernel) (by decide +kernel)
set_option maxRecDepth 20000 in
theorem gL_law_X5_trade : GoodIn wsL_law (wsV RL 33 RX5 yX5_trade wsX5_trade) := goodIn_app (goodIn_of _ (by decide +kernel)) ggL_law_X5_trade
set_option maxRecDepth 20000 in
theorem ggL_law_X4_skill : GoodIn wsL_law wsX4_skill := goodIn_r _ [373, 24, 374, 375, 376, 377, 2, 378, 34, 379, 118, 119, 120, 357, 358, 359, 360, 361, 380, 275, 276, 800, 801, 802, 803, 804, 805, 806, 807, 808, 809, 848, 849, 850, 851, 852, 853, 854, 855, 856, 857, 858, 859, 860, 861, 862, 863, 864, 865, 866, 867] (by decide +kernel) (by decide +kernel)
set_option maxRecDepth 20000 in
theorem gL_law_X4_skill : GoodIn wsL_law (wsV RL 34 RX4 yX4_skill wsX4_skill) := goodIn_app (goodIn_of _ (by decide +kernel)) ggL_law_X4_skill
set_option maxRecDepth 20000 in
theorem ggL_law_X5_skill : GoodIn wsL_law wsX5_skill := goodIn_r _ [384, 130, 102, 385, 386, 387, 5, 388, 309, 133, 134, 135, 366, 367, 368, 369, 308, 810, 811, 812, 813, 814, 815, 816, 817, 818, 819, 820, 821, 822, 823, 824, 825, 826, 827, 828, 829, 830, 831, 832, 833, 834, 835, 836, 837, 838] (by decide +kernel) (by decide +kernel)
set_option maxRecDepth 20000 in
theorem gL_law_X5_skill : GoodIn wsL_law (wsV RL 37 RX5 yX5_skill wsX5_skill) := goodIn_app (goodIn_of _ (by decide +kernel)) ggL_law_X5_skill
