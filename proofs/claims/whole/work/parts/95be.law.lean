/-! the law: rows of the print, the longest cut in pieces (gen95e.py) -/
theorem goodIn_td {big ws : List Cond} (n : Nat) (a : GoodIn big (ws.take n)) (b : GoodIn big (ws.drop n)) : GoodIn big ws := List.take_append_drop n ws ▸ goodIn_app a b
set_option maxRecDepth 20000 in
theorem ggL_law_X7_read_0 : GoodIn wsL_law ((wsX7_read).take 60) := goodIn_r _ [805, 40, 16, 360, 363, 364, 806, 807, 808, 809, 810, 39, 811, 812, 813, 87, 814, 815, 816, 817, 818, 819, 794, 91, 820, 142, 2, 143, 821, 822, 823, 824, 825, 826, 827, 828, 829, 830, 831, 832, 833, 834, 835, 836, 837, 838, 839, 840, 841, 842, 843, 844, 845, 846, 847, 848, 849, 850, 851, 852] (by decide +kernel) (by decide +kernel)
set_option maxRecDepth 20000 in
theorem ggL_law_X7_read_1 : GoodIn wsL_law (((wsX7_read).drop 60).take 60) := goodIn_r _ [853, 854, 855, 856, 857, 858, 859, 860, 861, 862, 863, 864, 865, 866, 867, 868, 869, 870, 871, 872, 873, 874, 875, 876, 877, 878, 879, 880, 881, 882, 883, 884, 885, 886, 887, 888, 889, 88, 890, 891, 892, 893, 894, 895, 896, 897, 89, 898, 899, 900, 901, 902, 903, 904, 905, 906, 907, 908, 909, 90] (by decide +kernel) (by decide +kernel)
set_option maxRecDepth 20000 in
theorem ggL_law_X7_read_2 : GoodIn wsL_law ((((wsX7_read).drop 60).drop 60).take 60) := goodIn_r _ [910, 911, 912, 913, 914, 915, 916, 917, 918, 919, 920, 24, 447, 235, 196, 197, 198, 199, 15, 200, 98, 390, 391, 392, 23, 393, 394, 64, 395, 396, 397, 398, 399, 280, 281, 282, 400, 401, 202, 203, 204, 96, 205, 206, 207, 208, 209, 210, 211, 402, 377, 378, 379, 403, 241, 242, 19, 243, 244, 57] (by decide +kernel) (by decide +kernel)
set_option maxRecDepth 20000 in
theorem ggL_law_X7_read_3 : GoodIn wsL_law (((((wsX7_read).drop 60).drop 60).drop 60).take 60) := goodIn_r _ [245, 246, 247, 248, 249, 250, 251, 252, 253, 254, 255, 256, 257, 258, 56, 259, 260, 261, 262, 59, 58, 263, 264, 265, 266, 55, 54, 267, 268, 269, 270, 271, 272, 273, 274, 404, 405, 448, 449, 450, 451, 452, 453, 454, 921, 193, 194, 195, 167, 168, 169, 170, 171, 201, 212, 213, 214, 215, 216, 217] (by decide +kernel) (by decide +kernel)
set_option maxRecDepth 20000 in
theorem ggL_law_X7_read_4 : GoodIn wsL_law (((((wsX7_read).drop 60).drop 60).drop 60).drop 60) := goodIn_r _ [218, 426, 427, 428, 429, 49, 430, 431, 432, 433, 434, 984, 985, 986, 987, 988, 989, 990, 991, 1033, 1034, 1035, 1036, 1037, 1038, 1039, 1040, 1063, 1064, 1065, 1066, 1067, 1068, 1069, 1070, 1071, 1072, 1073, 1074, 1047, 1048, 1049, 1050, 1051, 1052, 1053, 1041, 1042, 1043, 1044, 1045, 1046] (by decide +kernel) (by decide +kernel)
theorem ggL_law_X7_read : GoodIn wsL_law wsX7_read := goodIn_td 60 ggL_law_X7_read_0 (goodIn_td 60 ggL_law_X7_read_1 (goodIn_td 60 ggL_law_X7_read_2 (goodIn_td 60 ggL_law_X7_read_3 ggL_law_X7_read_4)))
set_option maxRecDepth 20000 in
theorem gL_law_X7_read : GoodIn wsL_law (wsV RL 119 RX7 yX7_read wsX7_read) := goodIn_app (goodIn_of _ (by decide +kernel)) ggL_law_X7_read
