set_option maxRecDepth 20000 in
theorem ggL_law_X4_go : GoodIn wsL_law wsX4_go := goodIn_r _ [452, 24, 453, 34, 361, 454, 20, 118, 119, 2, 120, 455, 456, 457, 23, 458, 56, 459, 460, 461, 462, 463, 464, 465, 466, 467, 468, 57, 469, 58, 470, 471, 472, 473, 474, 66, 399, 400, 401, 402, 60, 403, 404, 65, 405, 406, 407, 33, 408, 70, 475, 476, 477, 478, 61, 479, 480, 481, 482, 483, 484, 410, 411, 412, 485, 486, 487, 488, 59, 63, 489, 490, 491, 275, 276, 492, 493, 494, 495, 496, 62, 497, 498, 499, 500, 501, 502, 503, 504, 505, 506, 507, 508, 64, 800, 801, 802, 803, 804, 805, 806, 807, 808, 809, 848, 849, 850, 851, 852, 853, 854, 855, 856, 857, 858, 859, 860, 861, 862, 863, 864, 865, 866, 867, 845, 846, 847] (by decide +kernel) (by decide +kernel)
set_option maxRecDepth 20000 in
theorem gL_law_X4_go : GoodIn wsL_law (wsV RL 51 RX4 yX4_go wsX4_go) := goodIn_app (goodIn_of _ (by decide +kernel)) ggL_law_X4_go
set_option maxRecDepth 20000 in
theorem ggL_law_X5_go : GoodIn wsL_law wsX5_go := goodIn_r _ [512, 130, 102, 308, 133, 134, 5, 135, 513, 514, 515, 516, 309, 517, 518, 519, 520, 107, 106, 96, 421, 422, 423, 424, 425, 426, 427, 428, 99, 521, 522, 523, 524, 525, 526, 527, 528, 529, 530, 531, 532, 95, 101, 533, 534, 535, 536, 810, 811, 812, 813, 814, 815, 816, 817, 818, 819, 820, 821, 822, 823, 824, 825, 826, 827, 828, 829, 830, 831, 832, 833, 834, 835, 836, 837, 838] (by decide +kernel) (by decide +kernel)
set_option maxRecDepth 20000 in
theorem gL_law_X5_go : GoodIn wsL_law (wsV RL 54 RX5 yX5_go wsX5_go) := goodIn_app (goodIn_of _ (by decide +kernel)) ggL_law_X5_go
set_option maxRecDepth 20000 in
theorem ggL_law_X4_help : GoodIn wsL_law wsX4_help := goodIn_r _ [540, 24, 541, 542, 543, 544, 2, 545, 375, 376, 377, 378, 34, 379, 118, 119, 120, 413, 414, 415, 23, 416, 63, 800, 801, 802, 803, 804, 805, 806, 807, 808, 809, 848, 849, 850, 851, 852, 853, 854, 855, 856, 857, 858, 859, 860, 861, 862, 863, 864, 865, 866, 867] (by decide +kernel) (by decide +kernel)
set_option maxRecDepth 20000 in
theorem gL_law_X4_help : GoodIn wsL_law (wsV RL 55 RX4 yX4_help wsX4_help) := goodIn_app (goodIn_of _ (by decide +kernel)) ggL_law_X4_help
set_option maxRecDepth 20000 in
theorem ggL_law_X5_help : GoodIn wsL_law wsX5_help := goodIn_r _ [549, 130, 102, 385, 386, 387, 5, 388, 309, 133, 134, 135, 525, 526, 527, 528, 810, 811, 812, 813, 814, 815, 816, 817, 818, 819, 820, 821, 822, 823, 824, 825, 826, 827, 828, 829, 830, 831, 832, 833, 834, 835, 836, 837, 838] (by decide +kernel) (by decide +kernel)
set_option maxRecDepth 20000 in
theorem gL_law_X5_help : GoodIn wsL_law (wsV RL 58 RX5 yX5_help wsX5_help) := goodIn_app (goodIn_of _ (by decide +kernel)) ggL_law_X5_help
set_option maxRecDepth 20000 in
theorem ggL_law_X4_ill : GoodIn wsL_law wsX4_ill := goodIn_r _ [553, 24, 375, 376, 377, 2, 378, 34, 379, 118, 119, 120, 409, 410, 411, 23, 412, 58, 554, 555, 556, 557, 800, 801, 802, 803, 804, 805, 806, 807, 808, 809, 859, 860, 861, 862, 863, 864, 865, 866, 867, 848, 849, 850, 851, 852, 853, 854, 855, 856, 857, 858] (by decide +kernel) (by decide +kernel)
set_option maxRecDepth 20000 in
theorem gL_law_X4_ill : GoodIn wsL_law (wsV RL 59 RX4 yX4_ill wsX4_ill) := goodIn_app (goodIn_of _ (by decide +kernel)) ggL_law_X4_ill
set_option maxRecDepth 20000 in
theorem ggL_law_X5_ill : GoodIn wsL_law wsX5_ill := goodIn_r _ [561, 130, 102, 385, 386, 387, 5, 388, 309, 133, 134, 135, 521, 522, 523, 524, 810, 811, 812, 813, 814, 815, 816, 817, 818, 819, 820, 821, 822, 823, 824, 825, 826, 827, 828, 829, 830, 831, 832, 833, 834, 835, 836, 837, 838] (by decide +kernel) (by decide +kernel)
set_option maxRecDepth 20000 in
theorem gL_law_X5_ill : GoodIn wsL_law (wsV RL 62 RX5 yX5_ill wsX5_ill) := goodIn_app (goodIn_of _ (by decide +kernel)) ggL_law_X5_ill
