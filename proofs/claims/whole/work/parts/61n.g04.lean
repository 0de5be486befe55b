set_option maxRecDepth 20000 in
theorem ggL_law_X4_oil : GoodIn wsL_law wsX4_oil := goodIn_r _ [565, 34, 361, 24, 433, 357, 358, 359, 2, 360, 118, 119, 120, 566, 406, 407, 33, 408, 70, 567, 568, 569, 800, 801, 802, 803, 804, 805, 806, 807, 808, 809, 859, 860, 861, 862, 863, 864, 865, 866, 867, 848, 849, 850, 851, 852, 853, 854, 855, 856, 857, 858] (by decide +kernel) (by decide +kernel)
set_option maxRecDepth 20000 in
theorem gL_law_X4_oil : GoodIn wsL_law (wsV RL 63 RX4 yX4_oil wsX4_oil) := goodIn_app (goodIn_of _ (by decide +kernel)) ggL_law_X4_oil
set_option maxRecDepth 20000 in
theorem ggL_law_X5_oil : GoodIn wsL_law wsX5_oil := goodIn_r _ [573, 130, 308, 102, 366, 367, 368, 5, 369, 133, 134, 135, 810, 811, 812, 813, 814, 815, 816, 817, 818, 819, 820, 821, 822, 823, 824, 825, 826, 827, 828, 829, 830, 831, 832, 833, 834, 835, 836, 837, 838] (by decide +kernel) (by decide +kernel)
set_option maxRecDepth 20000 in
theorem gL_law_X5_oil : GoodIn wsL_law (wsV RL 66 RX5 yX5_oil wsX5_oil) := goodIn_app (goodIn_of _ (by decide +kernel)) ggL_law_X5_oil
set_option maxRecDepth 20000 in
theorem ggL_law_X4_favours : GoodIn wsL_law wsX4_favours := goodIn_r _ [577, 24, 578, 542, 543, 544, 2, 545, 375, 376, 377, 378, 34, 379, 118, 119, 120, 800, 801, 802, 803, 804, 805, 806, 807, 808, 809, 848, 849, 850, 851, 852, 853, 854, 855, 856, 857, 858, 859, 860, 861, 862, 863, 864, 865, 866, 867] (by decide +kernel) (by decide +kernel)
set_option maxRecDepth 20000 in
theorem gL_law_X4_favours : GoodIn wsL_law (wsV RL 67 RX4 yX4_favours wsX4_favours) := goodIn_app (goodIn_of _ (by decide +kernel)) ggL_law_X4_favours
set_option maxRecDepth 20000 in
theorem ggL_law_X5_favours : GoodIn wsL_law wsX5_favours := goodIn_r _ [582, 130, 102, 385, 386, 387, 5, 388, 309, 133, 134, 135, 810, 811, 812, 813, 814, 815, 816, 817, 818, 819, 820, 821, 822, 823, 824, 825, 826, 827, 828, 829, 830, 831, 832, 833, 834, 835, 836, 837, 838] (by decide +kernel) (by decide +kernel)
set_option maxRecDepth 20000 in
theorem gL_law_X5_favours : GoodIn wsL_law (wsV RL 70 RX5 yX5_favours wsX5_favours) := goodIn_app (goodIn_of _ (by decide +kernel)) ggL_law_X5_favours
set_option maxRecDepth 20000 in
theorem ggL_law_X4_now : GoodIn wsL_law wsX4_now := goodIn_r _ [586, 24, 453, 356, 34, 361, 587, 355, 588, 589, 2, 590, 800, 801, 802, 803, 804, 805, 806, 807, 808, 809, 848, 849, 850, 851, 852, 853, 854, 855, 856, 857, 858, 859, 860, 861, 862, 863, 864, 865, 866, 867] (by decide +kernel) (by decide +kernel)
set_option maxRecDepth 20000 in
theorem gL_law_X4_now : GoodIn wsL_law (wsV RL 71 RX4 yX4_now wsX4_now) := goodIn_app (goodIn_of _ (by decide +kernel)) ggL_law_X4_now
set_option maxRecDepth 20000 in
theorem ggL_law_X5_now : GoodIn wsL_law wsX5_now := goodIn_r _ [594, 130, 102, 595, 596, 597, 5, 598, 308, 810, 811, 812, 813, 814, 815, 816, 817, 818, 819, 820, 821, 822, 823, 824, 825, 826, 827, 828, 829, 830, 831, 832, 833, 834, 835, 836, 837, 838] (by decide +kernel) (by decide +kernel)
set_option maxRecDepth 20000 in
theorem gL_law_X5_now : GoodIn wsL_law (wsV RL 74 RX5 yX5_now wsX5_now) := goodIn_app (goodIn_of _ (by decide +kernel)) ggL_law_X5_now
