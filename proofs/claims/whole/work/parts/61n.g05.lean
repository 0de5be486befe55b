set_option maxRecDepth 20000 in
theorem ggL_law_X4_anew : GoodIn wsL_law wsX4_anew := goodIn_r _ [602, 24, 453, 34, 79, 80, 81, 23, 82, 56, 57, 58, 83, 59, 84, 85, 86, 87, 88, 60, 89, 65, 61, 62, 63, 64, 800, 801, 802, 803, 804, 805, 806, 807, 808, 809, 848, 849, 850, 851, 852, 853, 854, 855, 856, 857, 858, 859, 860, 861, 862, 863, 864, 865, 866, 867] (by decide +kernel) (by decide +kernel)
set_option maxRecDepth 20000 in
theorem gL_law_X4_anew : GoodIn wsL_law (wsV RL 75 RX4 yX4_anew wsX4_anew) := goodIn_app (goodIn_of _ (by decide +kernel)) ggL_law_X4_anew
set_option maxRecDepth 20000 in
theorem ggL_law_X5_anew : GoodIn wsL_law wsX5_anew := goodIn_r _ [606, 130, 102, 109, 110, 111, 5, 112, 100, 98, 97, 810, 811, 812, 813, 814, 815, 816, 817, 818, 819, 820, 821, 822, 823, 824, 825, 826, 827, 828, 829, 830, 831, 832, 833, 834, 835, 836, 837, 838] (by decide +kernel) (by decide +kernel)
set_option maxRecDepth 20000 in
theorem gL_law_X5_anew : GoodIn wsL_law (wsV RL 78 RX5 yX5_anew wsX5_anew) := goodIn_app (goodIn_of _ (by decide +kernel)) ggL_law_X5_anew
set_option maxRecDepth 20000 in
theorem ggL_law_X4_lacking : GoodIn wsL_law wsX4_lacking := goodIn_r _ [610, 34, 361, 25, 24, 454, 20, 587, 611, 612, 2, 613, 118, 119, 120, 614, 615, 616, 23, 617, 56, 57, 58, 59, 84, 85, 86, 87, 60, 61, 62, 63, 64, 65, 455, 456, 457, 458, 459, 460, 461, 462, 463, 464, 465, 466, 467, 468, 469, 470, 471, 472, 473, 474, 66, 399, 400, 401, 402, 403, 404, 405, 406, 407, 33, 408, 70, 475, 476, 477, 478, 479, 480, 481, 482, 483, 484, 410, 411, 412, 485, 486, 487, 488, 489, 490, 491, 275, 276, 492, 493, 494, 495, 496, 497, 498, 499, 500, 501, 502, 503, 504, 505, 506, 507, 508, 800, 801, 802, 803, 804, 805, 806, 807, 808, 809, 859, 860, 861, 862, 863, 864, 865, 866, 867, 848, 849, 850, 851, 852, 853, 854, 855, 856, 857, 858, 845, 846, 847] (by decide +kernel) (by decide +kernel)
set_option maxRecDepth 20000 in
theorem gL_law_X4_lacking : GoodIn wsL_law (wsV RL 79 RX4 yX4_lacking wsX4_lacking) := goodIn_app (goodIn_of _ (by decide +kernel)) ggL_law_X4_lacking
set_option maxRecDepth 20000 in
theorem ggL_law_X5_lacking : GoodIn wsL_law wsX5_lacking := goodIn_r _ [621, 130, 308, 622, 623, 624, 5, 625, 133, 134, 135, 626, 627, 628, 629, 103, 102, 630, 631, 632, 633, 513, 514, 515, 516, 309, 517, 518, 519, 520, 107, 106, 96, 421, 422, 423, 424, 425, 426, 427, 428, 99, 521, 522, 523, 524, 525, 526, 527, 528, 529, 530, 531, 532, 95, 101, 533, 534, 535, 536, 810, 811, 812, 813, 814, 815, 816, 817, 818, 819, 820, 821, 822, 823, 824, 825, 826, 827, 828, 829, 830, 831, 832, 833, 834, 835, 836, 837, 838] (by decide +kernel) (by decide +kernel)
set_option maxRecDepth 20000 in
theorem gL_law_X5_lacking : GoodIn wsL_law (wsV RL 82 RX5 yX5_lacking wsX5_lacking) := goodIn_app (goodIn_of _ (by decide +kernel)) ggL_law_X5_lacking
set_option maxRecDepth 20000 in
theorem ggL_law_X4_best : GoodIn wsL_law wsX4_best := goodIn_r _ [637, 34, 361, 30, 454, 611, 612, 2, 613, 118, 119, 120, 638, 639, 640, 641, 25, 24, 433, 642, 85, 86, 87, 20, 614, 615, 616, 23, 617, 56, 57, 58, 59, 84, 60, 61, 62, 63, 64, 65, 455, 456, 457, 458, 459, 460, 461, 462, 463, 464, 465, 466, 467, 468, 469, 470, 471, 472, 473, 474, 66, 399, 400, 401, 402, 403, 404, 405, 406, 407, 33, 408, 70, 475, 476, 477, 478, 479, 480, 481, 482, 483, 484, 410, 411, 412, 485, 486, 487, 488, 489, 490, 491, 275, 276, 492, 493, 494, 495, 496, 497, 498, 499, 500, 501, 502, 503, 504, 505, 506, 507, 508, 643, 644, 645, 646, 647, 648, 649, 650, 567, 568, 569, 800, 801, 802, 803, 804, 805, 806, 807, 808, 809, 859, 860, 861, 862, 863, 864, 865, 866, 867, 848, 849, 850, 851, 852, 853, 854, 855, 856, 857, 858, 845, 846, 847] (by decide +kernel) (by decide +kernel)
set_option maxRecDepth 20000 in
theorem gL_law_X4_best : GoodIn wsL_law (wsV RL 83 RX4 yX4_best wsX4_best) := goodIn_app (goodIn_of _ (by decide +kernel)) ggL_law_X4_best
set_option maxRecDepth 20000 in
theorem ggL_law_X5_best : GoodIn wsL_law wsX5_best := goodIn_r _ [654, 130, 308, 108, 102, 623, 624, 5, 625, 133, 134, 135, 626, 627, 628, 629, 103, 630, 631, 632, 633, 622, 513, 514, 515, 516, 309, 517, 518, 519, 520, 107, 106, 96, 421, 422, 423, 424, 425, 426, 427, 428, 99, 521, 522, 523, 524, 525, 526, 527, 528, 529, 530, 531, 532, 95, 101, 533, 534, 535, 536, 655, 656, 657, 658, 659, 660, 661, 662, 810, 811, 812, 813, 814, 815, 816, 817, 818, 819, 820, 821, 822, 823, 824, 825, 826, 827, 828, 829, 830, 831, 832, 833, 834, 835, 836, 837, 838] (by decide +kernel) (by decide +kernel)
set_option maxRecDepth 20000 in
theorem gL_law_X5_best : GoodIn wsL_law (wsV RL 86 RX5 yX5_best wsX5_best) := goodIn_app (goodIn_of _ (by decide +kernel)) ggL_law_X5_best
