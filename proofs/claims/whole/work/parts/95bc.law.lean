/-! the law: rows of the print -/
set_option maxRecDepth 20000 in
theorem ggL_law_X7_load : GoodIn wsL_law wsX7_load := goodIn_r _ [584, 28, 16, 167, 138, 585, 586, 587, 588, 27, 589, 575, 168, 169, 170, 15, 171, 96, 141, 142, 2, 143, 984, 985, 986, 987, 988, 989, 990, 991, 1054, 1055, 1056, 1057, 1033, 1034, 1035, 1036, 1037, 1038, 1039, 1040] (by decide +kernel) (by decide +kernel)
set_option maxRecDepth 20000 in
theorem gL_law_X7_load : GoodIn wsL_law (wsV RL 71 RX7 yX7_load wsX7_load) := goodIn_app (goodIn_of _ (by decide +kernel)) ggL_law_X7_load
set_option maxRecDepth 20000 in
theorem ggL_law_X8_load : GoodIn wsL_law wsX8_load := goodIn_r _ [593, 133, 186, 187, 159, 110, 160, 161, 5, 162, 188, 189, 190, 191, 131, 992, 993, 994, 995, 996, 997, 998, 999, 1000, 1001, 1002, 1003, 1004, 1005, 1006, 1007, 1008, 1009, 1010, 1011, 1012, 1013, 1014, 1015, 1016, 1017, 1018, 1019, 1020, 1021, 1022, 1023, 1024, 1025, 1026, 1027, 1028, 1029, 1030, 1031, 1032] (by decide +kernel) (by decide +kernel)
set_option maxRecDepth 20000 in
theorem gL_law_X8_load : GoodIn wsL_law (wsV RL 74 RX8 yX8_load wsX8_load) := goodIn_app (goodIn_of _ (by decide +kernel)) ggL_law_X8_load
set_option maxRecDepth 20000 in
theorem ggL_law_X7_leak : GoodIn wsL_law wsX7_leak := goodIn_r _ [597, 28, 334, 335, 20, 16, 337, 586, 587, 588, 27, 589, 575, 141, 142, 2, 143, 598, 599, 600, 601, 72, 602, 603, 236, 237, 238, 19, 239, 240, 241, 242, 243, 244, 57, 245, 246, 247, 248, 249, 15, 250, 96, 251, 252, 253, 254, 255, 256, 257, 258, 56, 259, 260, 261, 262, 59, 58, 263, 264, 265, 266, 55, 54, 267, 268, 269, 270, 271, 272, 273, 274, 604, 605, 606, 607, 375, 285, 286, 287, 279, 280, 281, 282, 284, 338, 339, 340, 341, 342, 343, 344, 345, 346, 984, 985, 986, 987, 988, 989, 990, 991, 1041, 1042, 1043, 1044, 1045, 1046, 1054, 1055, 1056, 1057, 1033, 1034, 1035, 1036, 1037, 1038, 1039, 1040] (by decide +kernel) (by decide +kernel)
set_option maxRecDepth 20000 in
theorem gL_law_X7_leak : GoodIn wsL_law (wsV RL 75 RX7 yX7_leak wsX7_leak) := goodIn_app (goodIn_of _ (by decide +kernel)) ggL_law_X7_leak
set_option maxRecDepth 20000 in
theorem ggL_law_X8_leak : GoodIn wsL_law wsX8_leak := goodIn_r _ [611, 612, 133, 351, 304, 352, 613, 614, 615, 160, 161, 5, 162, 616, 617, 618, 619, 131, 121, 106, 110, 620, 621, 622, 623, 309, 296, 297, 298, 299, 117, 108, 300, 301, 302, 303, 116, 132, 103, 104, 105, 305, 306, 307, 308, 115, 310, 311, 312, 313, 314, 315, 316, 317, 318, 319, 320, 321, 326, 327, 328, 329, 353, 354, 355, 992, 993, 994, 995, 996, 997, 998, 999, 1000, 1001, 1002, 1003, 1004, 1005, 1006, 1007, 1008, 1009, 1010, 1011, 1012, 1013, 1014, 1015, 1016, 1017, 1018, 1019, 1020, 1021, 1022, 1023, 1024, 1025, 1026, 1027, 1028, 1029, 1030, 1031, 1032] (by decide +kernel) (by decide +kernel)
set_option maxRecDepth 20000 in
theorem gL_law_X8_leak : GoodIn wsL_law (wsV RL 79 RX8 yX8_leak wsX8_leak) := goodIn_app (goodIn_of _ (by decide +kernel)) ggL_law_X8_leak
set_option maxRecDepth 20000 in
theorem ggL_law_X7_worst : GoodIn wsL_law wsX7_worst := goodIn_r _ [627, 28, 16, 20, 628, 629, 630, 27, 631, 575, 632, 599, 600, 601, 72, 602, 603, 587, 588, 589, 633, 237, 238, 19, 239, 240, 241, 242, 243, 244, 57, 245, 246, 247, 248, 249, 15, 250, 96, 251, 252, 253, 254, 255, 256, 257, 258, 56, 259, 260, 261, 262, 59, 58, 263, 264, 265, 266, 55, 54, 267, 268, 269, 270, 271, 272, 273, 274, 634, 635, 636, 637, 638, 639, 73, 640, 605, 606, 607, 375, 285, 286, 287, 279, 280, 281, 282, 641, 642, 2, 643, 644, 645, 646, 647, 984, 985, 986, 987, 988, 989, 990, 991, 1054, 1055, 1056, 1057, 1033, 1034, 1035, 1036, 1037, 1038, 1039, 1040, 1041, 1042, 1043, 1044, 1045, 1046] (by decide +kernel) (by decide +kernel)
set_option maxRecDepth 20000 in
theorem gL_law_X7_worst : GoodIn wsL_law (wsV RL 80 RX7 yX7_worst wsX7_worst) := goodIn_app (goodIn_of _ (by decide +kernel)) ggL_law_X7_worst
set_option maxRecDepth 20000 in
theorem ggL_law_X8_worst : GoodIn wsL_law wsX8_worst := goodIn_r _ [651, 613, 614, 133, 616, 617, 618, 5, 619, 131, 121, 106, 110, 620, 621, 622, 623, 615, 309, 296, 297, 298, 299, 117, 108, 300, 301, 302, 303, 116, 304, 132, 103, 104, 105, 305, 306, 307, 308, 115, 310, 311, 312, 313, 314, 315, 316, 317, 318, 319, 320, 321, 326, 327, 328, 329, 353, 354, 355, 652, 653, 654, 992, 993, 994, 995, 996, 997, 998, 999, 1000, 1001, 1002, 1003, 1004, 1005, 1006, 1007, 1008, 1009, 1010, 1011, 1012, 1013, 1014, 1015, 1016, 1017, 1018, 1019, 1020, 1021, 1022, 1023, 1024, 1025, 1026, 1027, 1028, 1029, 1030, 1031, 1032] (by decide +kernel) (by decide +kernel)
set_option maxRecDepth 20000 in
theorem gL_law_X8_worst : GoodIn wsL_law (wsV RL 83 RX8 yX8_worst wsX8_worst) := goodIn_app (goodIn_of _ (by decide +kernel)) ggL_law_X8_worst
set_option maxRecDepth 20000 in
theorem ggL_law_X7_weakest : GoodIn wsL_law wsX7_weakest := goodIn_r _ [658, 28, 16, 20, 659, 660, 661, 27, 662, 663, 602, 664, 202, 203, 15, 204, 96, 98, 205, 206, 207, 208, 209, 210, 211, 665, 198, 199, 200, 666, 213, 214, 215, 633, 237, 238, 19, 239, 240, 241, 242, 243, 244, 57, 245, 246, 247, 248, 249, 250, 251, 252, 253, 254, 255, 256, 257, 258, 56, 259, 260, 261, 262, 59, 58, 263, 264, 265, 266, 55, 54, 267, 268, 269, 270, 271, 272, 273, 274, 634, 635, 636, 637, 638, 639, 73, 640, 605, 606, 607, 375, 285, 286, 287, 279, 280, 281, 282, 641, 642, 2, 643, 644, 645, 646, 647, 984, 985, 986, 987, 988, 989, 990, 991, 1033, 1034, 1035, 1036, 1037, 1038, 1039, 1040, 1041, 1042, 1043, 1044, 1045, 1046, 1054, 1055, 1056, 1057] (by decide +kernel) (by decide +kernel)
set_option maxRecDepth 20000 in
theorem gL_law_X7_weakest : GoodIn wsL_law (wsV RL 84 RX7 yX7_weakest wsX7_weakest) := goodIn_app (goodIn_of _ (by decide +kernel)) ggL_law_X7_weakest
set_option maxRecDepth 20000 in
theorem ggL_law_X8_weakest : GoodIn wsL_law wsX8_weakest := goodIn_r _ [670, 131, 108, 613, 614, 224, 225, 226, 5, 227, 228, 229, 230, 620, 621, 622, 623, 615, 309, 296, 297, 298, 299, 117, 300, 301, 302, 303, 116, 304, 132, 103, 104, 105, 106, 305, 306, 307, 308, 115, 310, 311, 312, 313, 314, 315, 316, 317, 318, 319, 320, 321, 326, 327, 328, 329, 353, 354, 355, 652, 653, 654, 992, 993, 994, 995, 996, 997, 998, 999, 1000, 1001, 1002, 1003, 1004, 1005, 1006, 1007, 1008, 1009, 1010, 1011, 1012, 1013, 1014, 1015, 1016, 1017, 1018, 1019, 1020, 1021, 1022, 1023, 1024, 1025, 1026, 1027, 1028, 1029, 1030, 1031, 1032] (by decide +kernel) (by decide +kernel)
set_option maxRecDepth 20000 in
theorem gL_law_X8_weakest : GoodIn wsL_law (wsV RL 87 RX8 yX8_weakest wsX8_weakest) := goodIn_app (goodIn_of _ (by decide +kernel)) ggL_law_X8_weakest
set_option maxRecDepth 20000 in
theorem ggL_law_X7_weights : GoodIn wsL_law wsX7_weights := goodIn_r _ [674, 138, 32, 141, 142, 2, 143, 675, 149, 150, 31, 151, 77, 984, 985, 986, 987, 988, 989, 990, 991, 1058, 1059] (by decide +kernel) (by decide +kernel)
set_option maxRecDepth 20000 in
theorem gL_law_X7_weights : GoodIn wsL_law (wsV RL 88 RX7 yX7_weights wsX7_weights) := goodIn_app (goodIn_of _ (by decide +kernel)) ggL_law_X7_weights
set_option maxRecDepth 20000 in
theorem ggL_law_X8_weights : GoodIn wsL_law wsX8_weights := goodIn_r _ [679, 158, 159, 111, 160, 161, 5, 162, 992, 993, 994, 995, 996, 997, 998, 999, 1000, 1001, 1002, 1003, 1004, 1005, 1006, 1007, 1008, 1009, 1010, 1011, 1012, 1013, 1014, 1015, 1016, 1017, 1018, 1019, 1020, 1021, 1022, 1023, 1024, 1025, 1026, 1027, 1028, 1029, 1030, 1031, 1032] (by decide +kernel) (by decide +kernel)
set_option maxRecDepth 20000 in
theorem gL_law_X8_weights : GoodIn wsL_law (wsV RL 91 RX8 yX8_weights wsX8_weights) := goodIn_app (goodIn_of _ (by decide +kernel)) ggL_law_X8_weights
set_option maxRecDepth 20000 in
theorem ggL_law_X7_chance : GoodIn wsL_law wsX7_chance := goodIn_r _ [683, 335, 32, 16, 20, 141, 142, 2, 143, 684, 685, 686, 31, 687, 688, 78, 689, 472, 473, 474, 690, 202, 203, 15, 204, 96, 98, 205, 206, 207, 208, 209, 210, 211, 691, 692, 693, 694, 695, 77, 696, 697, 281, 698, 699, 198, 199, 200, 700, 701, 702, 703, 704, 237, 238, 19, 239, 240, 241, 242, 243, 244, 57, 245, 246, 247, 248, 249, 250, 251, 252, 253, 254, 255, 256, 257, 258, 56, 259, 260, 261, 262, 59, 58, 263, 264, 265, 266, 55, 54, 267, 268, 269, 270, 271, 272, 273, 274, 705, 706, 707, 708, 370, 276, 277, 278, 279, 280, 282, 283, 709, 710, 711, 712, 338, 339, 340, 341, 342, 343, 344, 345, 346, 984, 985, 986, 987, 988, 989, 990, 991, 1033, 1034, 1035, 1036, 1037, 1038, 1039, 1040, 1058, 1059, 1041, 1042, 1043, 1044, 1045, 1046] (by decide +kernel) (by decide +kernel)
set_option maxRecDepth 20000 in
theorem gL_law_X7_chance : GoodIn wsL_law (wsV RL 92 RX7 yX7_chance wsX7_chance) := goodIn_app (goodIn_of _ (by decide +kernel)) ggL_law_X7_chance
set_option maxRecDepth 20000 in
theorem ggL_law_X8_chance : GoodIn wsL_law wsX8_chance := goodIn_r _ [716, 352, 111, 160, 161, 5, 162, 494, 495, 496, 497, 131, 119, 105, 224, 225, 226, 227, 108, 228, 229, 230, 717, 718, 719, 720, 296, 297, 298, 299, 117, 300, 301, 302, 303, 116, 304, 132, 103, 104, 106, 305, 306, 307, 308, 309, 115, 310, 311, 312, 313, 314, 315, 316, 317, 318, 319, 320, 321, 721, 722, 723, 724, 322, 323, 324, 325, 507, 508, 509, 510, 353, 354, 355, 992, 993, 994, 995, 996, 997, 998, 999, 1000, 1001, 1002, 1003, 1004, 1005, 1006, 1007, 1008, 1009, 1010, 1011, 1012, 1013, 1014, 1015, 1016, 1017, 1018, 1019, 1020, 1021, 1022, 1023, 1024, 1025, 1026, 1027, 1028, 1029, 1030, 1031, 1032] (by decide +kernel) (by decide +kernel)
set_option maxRecDepth 20000 in
theorem gL_law_X8_chance : GoodIn wsL_law (wsV RL 95 RX8 yX8_chance wsX8_chance) := goodIn_app (goodIn_of _ (by decide +kernel)) ggL_law_X8_chance
set_option maxRecDepth 20000 in
theorem ggL_law_X7_reading : GoodIn wsL_law wsX7_reading := goodIn_r _ [728, 16, 167, 138, 36, 140, 168, 169, 170, 15, 171, 96, 141, 142, 2, 143, 729, 730, 731, 35, 732, 733, 82, 83, 365, 206, 207, 208, 209, 210, 211, 984, 985, 986, 987, 988, 989, 990, 991, 1060, 1061, 1062, 1033, 1034, 1035, 1036, 1037, 1038, 1039, 1040] (by decide +kernel) (by decide +kernel)
set_option maxRecDepth 20000 in
theorem gL_law_X7_reading : GoodIn wsL_law (wsV RL 96 RX7 yX7_reading wsX7_reading) := goodIn_app (goodIn_of _ (by decide +kernel)) ggL_law_X7_reading
set_option maxRecDepth 20000 in
theorem ggL_law_X8_reading : GoodIn wsL_law wsX8_reading := goodIn_r _ [737, 186, 159, 112, 113, 114, 188, 189, 190, 5, 191, 131, 160, 161, 162, 738, 381, 382, 383, 105, 133, 384, 385, 296, 297, 298, 299, 117, 108, 300, 301, 302, 303, 116, 304, 132, 103, 104, 106, 305, 306, 307, 308, 309, 115, 310, 311, 312, 313, 314, 315, 316, 317, 318, 319, 320, 321, 322, 323, 324, 325, 228, 229, 230, 326, 327, 328, 329, 224, 225, 226, 227, 992, 993, 994, 995, 996, 997, 998, 999, 1000, 1001, 1002, 1003, 1004, 1005, 1006, 1007, 1008, 1009, 1010, 1011, 1012, 1013, 1014, 1015, 1016, 1017, 1018, 1019, 1020, 1021, 1022, 1023, 1024, 1025, 1026, 1027, 1028, 1029, 1030, 1031, 1032] (by decide +kernel) (by decide +kernel)
set_option maxRecDepth 20000 in
theorem gL_law_X8_reading : GoodIn wsL_law (wsV RL 99 RX8 yX8_reading wsX8_reading) := goodIn_app (goodIn_of _ (by decide +kernel)) ggL_law_X8_reading
