set_option maxRecDepth 20000 in
theorem ggL_law_X4_again : GoodIn wsL_law wsX4_again := goodIn_r _ [698, 34, 361, 25, 24, 614, 615, 616, 23, 617, 56, 57, 58, 59, 84, 85, 86, 87, 60, 61, 62, 63, 64, 65, 699, 471, 472, 473, 474, 66, 399, 400, 401, 402, 403, 404, 405, 406, 407, 33, 408, 70, 700, 502, 503, 504, 701, 702, 703, 2, 704, 379, 395, 396, 397, 398, 800, 801, 802, 803, 804, 805, 806, 807, 808, 809, 859, 860, 861, 862, 863, 864, 865, 866, 867, 848, 849, 850, 851, 852, 853, 854, 855, 856, 857, 858] (by decide +kernel) (by decide +kernel)
set_option maxRecDepth 20000 in
theorem gL_law_X4_again : GoodIn wsL_law (wsV RL 100 RX4 yX4_again wsX4_again) := goodIn_app (goodIn_of _ (by decide +kernel)) ggL_law_X4_again
set_option maxRecDepth 20000 in
theorem ggL_law_X5_again : GoodIn wsL_law wsX5_again := goodIn_r _ [708, 130, 308, 309, 107, 102, 626, 627, 628, 5, 629, 103, 421, 422, 423, 424, 425, 426, 427, 428, 99, 810, 811, 812, 813, 814, 815, 816, 817, 818, 819, 820, 821, 822, 823, 824, 825, 826, 827, 828, 829, 830, 831, 832, 833, 834, 835, 836, 837, 838] (by decide +kernel) (by decide +kernel)
set_option maxRecDepth 20000 in
theorem gL_law_X5_again : GoodIn wsL_law (wsV RL 103 RX5 yX5_again wsX5_again) := goodIn_app (goodIn_of _ (by decide +kernel)) ggL_law_X5_again
set_option maxRecDepth 20000 in
theorem ggL_law_X4_rate : GoodIn wsL_law wsX4_rate := goodIn_r _ [712, 713, 375, 376, 377, 2, 378, 34, 379, 118, 119, 120, 714, 715, 716, 717, 36, 361, 24, 374, 380, 275, 276, 718, 719, 720, 721, 722, 393, 723, 724, 725, 726, 727, 728, 490, 461, 491, 729, 730, 731, 732, 733, 734, 735, 736, 737, 738, 739, 460, 462, 740, 741, 742, 743, 744, 453, 800, 801, 802, 803, 804, 805, 806, 807, 808, 809, 859, 860, 861, 862, 863, 864, 865, 866, 867, 848, 849, 850, 851, 852, 853, 854, 855, 856, 857, 858] (by decide +kernel) (by decide +kernel)
set_option maxRecDepth 20000 in
theorem gL_law_X4_rate : GoodIn wsL_law (wsV RL 104 RX4 yX4_rate wsX4_rate) := goodIn_app (goodIn_of _ (by decide +kernel)) ggL_law_X4_rate
set_option maxRecDepth 20000 in
theorem ggL_law_X5_rate : GoodIn wsL_law wsX5_rate := goodIn_r _ [748, 130, 749, 308, 102, 750, 751, 752, 753, 754, 755, 133, 134, 5, 135, 385, 386, 387, 388, 309, 810, 811, 812, 813, 814, 815, 816, 817, 818, 819, 820, 821, 822, 823, 824, 825, 826, 827, 828, 829, 830, 831, 832, 833, 834, 835, 836, 837, 838] (by decide +kernel) (by decide +kernel)
set_option maxRecDepth 20000 in
theorem gL_law_X5_rate : GoodIn wsL_law (wsV RL 107 RX5 yX5_rate wsX5_rate) := goodIn_app (goodIn_of _ (by decide +kernel)) ggL_law_X5_rate
set_option maxRecDepth 20000 in
theorem ggL_law_X4_keep : GoodIn wsL_law wsX4_keep := goodIn_r _ [759, 26, 24, 28, 453, 118, 119, 2, 120, 614, 615, 616, 23, 617, 56, 57, 58, 59, 84, 85, 86, 87, 60, 61, 62, 63, 64, 65, 800, 801, 802, 803, 804, 805, 806, 807, 808, 809, 848, 849, 850, 851, 852, 853, 854, 855, 856, 857, 858] (by decide +kernel) (by decide +kernel)
set_option maxRecDepth 20000 in
theorem gL_law_X4_keep : GoodIn wsL_law (wsV RL 108 RX4 yX4_keep wsX4_keep) := goodIn_app (goodIn_of _ (by decide +kernel)) ggL_law_X4_keep
set_option maxRecDepth 20000 in
theorem ggL_law_X5_keep : GoodIn wsL_law wsX5_keep := goodIn_r _ [763, 130, 104, 102, 105, 133, 134, 5, 135, 810, 811, 812, 813, 814, 815, 816, 817, 818, 819, 820, 821, 822, 823, 824, 825, 826, 827, 828, 829, 830, 831, 832, 833, 834, 835, 836, 837, 838] (by decide +kernel) (by decide +kernel)
set_option maxRecDepth 20000 in
theorem gL_law_X5_keep : GoodIn wsL_law (wsV RL 111 RX5 yX5_keep wsX5_keep) := goodIn_app (goodIn_of _ (by decide +kernel)) ggL_law_X5_keep
