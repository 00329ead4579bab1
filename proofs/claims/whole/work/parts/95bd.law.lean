/-! the law: rows of the print -/
set_option maxRecDepth 20000 in
theorem ggL_law_X7_forget : GoodIn wsL_law wsX7_forget := goodIn_r _ [742, 36, 140, 365, 206, 207, 208, 209, 210, 211, 984, 985, 986, 987, 988, 989, 990, 991, 1060, 1061, 1062] (by decide +kernel) (by decide +kernel)
set_option maxRecDepth 20000 in
theorem gL_law_X7_forget : GoodIn wsL_law (wsV RL 100 RX7 yX7_forget wsX7_forget) := goodIn_app (goodIn_of _ (by decide +kernel)) ggL_law_X7_forget
set_option maxRecDepth 20000 in
theorem ggL_law_X8_forget : GoodIn wsL_law wsX8_forget := goodIn_r _ [746, 131, 112, 738, 381, 382, 5, 383, 105, 133, 384, 385, 159, 296, 297, 298, 299, 117, 108, 300, 301, 302, 303, 116, 304, 132, 103, 104, 106, 305, 306, 307, 308, 309, 115, 310, 311, 312, 313, 314, 315, 316, 317, 318, 319, 320, 321, 322, 323, 324, 325, 228, 229, 230, 326, 327, 328, 329, 224, 225, 226, 227, 992, 993, 994, 995, 996, 997, 998, 999, 1000, 1001, 1002, 1003, 1004, 1005, 1006, 1007, 1008, 1009, 1010, 1011, 1012, 1013, 1014, 1015, 1016, 1017, 1018, 1019, 1020, 1021, 1022, 1023, 1024, 1025, 1026, 1027, 1028, 1029, 1030, 1031, 1032] (by decide +kernel) (by decide +kernel)
set_option maxRecDepth 20000 in
theorem gL_law_X8_forget : GoodIn wsL_law (wsV RL 103 RX8 yX8_forget wsX8_forget) := goodIn_app (goodIn_of _ (by decide +kernel)) ggL_law_X8_forget
set_option maxRecDepth 20000 in
theorem ggL_law_X7_fit : GoodIn wsL_law wsX7_fit := goodIn_r _ [750, 36, 16, 20, 751, 752, 753, 35, 754, 755, 756, 733, 82, 83, 757, 237, 238, 19, 239, 240, 241, 242, 243, 244, 57, 245, 246, 247, 248, 249, 15, 250, 96, 251, 252, 253, 254, 255, 256, 257, 258, 56, 259, 260, 261, 262, 59, 58, 263, 264, 265, 266, 55, 54, 267, 268, 269, 270, 271, 272, 273, 274, 758, 706, 707, 708, 370, 276, 277, 278, 279, 280, 281, 282, 283, 198, 199, 200, 98, 216, 217, 2, 218, 984, 985, 986, 987, 988, 989, 990, 991, 1033, 1034, 1035, 1036, 1037, 1038, 1039, 1040, 1060, 1061, 1062, 1041, 1042, 1043, 1044, 1045, 1046] (by decide +kernel) (by decide +kernel)
set_option maxRecDepth 20000 in
theorem gL_law_X7_fit : GoodIn wsL_law (wsV RL 104 RX7 yX7_fit wsX7_fit) := goodIn_app (goodIn_of _ (by decide +kernel)) ggL_law_X7_fit
set_option maxRecDepth 20000 in
theorem ggL_law_X8_fit : GoodIn wsL_law wsX8_fit := goodIn_r _ [762, 763, 764, 765, 5, 766, 131, 112, 113, 114, 296, 297, 298, 299, 117, 108, 300, 301, 302, 303, 116, 304, 132, 103, 104, 105, 106, 305, 306, 307, 308, 309, 115, 310, 311, 312, 313, 314, 315, 316, 317, 318, 319, 320, 321, 721, 722, 723, 724, 322, 323, 324, 325, 160, 161, 162, 228, 229, 230, 992, 993, 994, 995, 996, 997, 998, 999, 1000, 1001, 1002, 1003, 1004, 1005, 1006, 1007, 1008, 1009, 1010, 1011, 1012, 1013, 1014, 1015, 1016, 1017, 1018, 1019, 1020, 1021, 1022, 1023, 1024, 1025, 1026, 1027, 1028, 1029, 1030, 1031, 1032] (by decide +kernel) (by decide +kernel)
set_option maxRecDepth 20000 in
theorem gL_law_X8_fit : GoodIn wsL_law (wsV RL 107 RX8 yX8_fit wsX8_fit) := goodIn_app (goodIn_of _ (by decide +kernel)) ggL_law_X8_fit
set_option maxRecDepth 20000 in
theorem ggL_law_X7_suspect : GoodIn wsL_law wsX7_suspect := goodIn_r _ [770, 36, 16, 20, 771, 772, 773, 35, 774, 756, 775, 776, 777, 778, 779, 780, 198, 199, 15, 200, 98, 142, 2, 143, 781, 752, 753, 754, 755, 733, 82, 83, 757, 237, 238, 19, 239, 240, 241, 242, 243, 244, 57, 245, 246, 247, 248, 249, 250, 96, 251, 252, 253, 254, 255, 256, 257, 258, 56, 259, 260, 261, 262, 59, 58, 263, 264, 265, 266, 55, 54, 267, 268, 269, 270, 271, 272, 273, 274, 758, 706, 707, 708, 370, 276, 277, 278, 279, 280, 281, 282, 283, 984, 985, 986, 987, 988, 989, 990, 991, 1033, 1034, 1035, 1036, 1037, 1038, 1039, 1040, 1060, 1061, 1062, 1041, 1042, 1043, 1044, 1045, 1046] (by decide +kernel) (by decide +kernel)
set_option maxRecDepth 20000 in
theorem gL_law_X7_suspect : GoodIn wsL_law (wsV RL 108 RX7 yX7_suspect wsX7_suspect) := goodIn_app (goodIn_of _ (by decide +kernel)) ggL_law_X7_suspect
set_option maxRecDepth 20000 in
theorem ggL_law_X8_suspect : GoodIn wsL_law wsX8_suspect := goodIn_r _ [785, 131, 105, 108, 187, 160, 161, 5, 162, 763, 764, 765, 766, 112, 113, 114, 296, 297, 298, 299, 117, 300, 301, 302, 303, 116, 304, 132, 103, 104, 106, 305, 306, 307, 308, 309, 115, 310, 311, 312, 313, 314, 315, 316, 317, 318, 319, 320, 321, 721, 722, 723, 724, 322, 323, 324, 325, 992, 993, 994, 995, 996, 997, 998, 999, 1000, 1001, 1002, 1003, 1004, 1005, 1006, 1007, 1008, 1009, 1010, 1011, 1012, 1013, 1014, 1015, 1016, 1017, 1018, 1019, 1020, 1021, 1022, 1023, 1024, 1025, 1026, 1027, 1028, 1029, 1030, 1031, 1032] (by decide +kernel) (by decide +kernel)
set_option maxRecDepth 20000 in
theorem gL_law_X8_suspect : GoodIn wsL_law (wsV RL 111 RX8 yX8_suspect wsX8_suspect) := goodIn_app (goodIn_of _ (by decide +kernel)) ggL_law_X8_suspect
set_option maxRecDepth 20000 in
theorem ggL_law_X7_feed : GoodIn wsL_law wsX7_feed := goodIn_r _ [789, 138, 40, 363, 570, 141, 142, 2, 143, 790, 791, 792, 39, 793, 794, 91, 795, 984, 985, 986, 987, 988, 989, 990, 991, 1063, 1064, 1065, 1066, 1067, 1068, 1069, 1070, 1071, 1072, 1073, 1074] (by decide +kernel) (by decide +kernel)
set_option maxRecDepth 20000 in
theorem gL_law_X7_feed : GoodIn wsL_law (wsV RL 114 RX7 yX7_feed wsX7_feed) := goodIn_app (goodIn_of _ (by decide +kernel)) ggL_law_X7_feed
set_option maxRecDepth 20000 in
theorem ggL_law_X8_feed : GoodIn wsL_law wsX8_feed := goodIn_r _ [799, 800, 159, 384, 580, 122, 801, 160, 161, 5, 162, 992, 993, 994, 995, 996, 997, 998, 999, 1000, 1001, 1002, 1003, 1004, 1005, 1006, 1007, 1008, 1009, 1010, 1011, 1012, 1013, 1014, 1015, 1016, 1017, 1018, 1019, 1020, 1021, 1022, 1023, 1024, 1025, 1026, 1027, 1028, 1029, 1030, 1031, 1032] (by decide +kernel) (by decide +kernel)
set_option maxRecDepth 20000 in
theorem gL_law_X8_feed : GoodIn wsL_law (wsV RL 118 RX8 yX8_feed wsX8_feed) := goodIn_app (goodIn_of _ (by decide +kernel)) ggL_law_X8_feed
