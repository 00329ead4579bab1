/-! the law: rows of the print -/
set_option maxRecDepth 20000 in
theorem ggL_law_X7_init : GoodIn wsL_law wsX7_init := goodIn_r _ [9, 10, 11, 12, 13, 14, 15, 16, 17, 18, 19, 20, 21, 22, 23, 24, 25, 26, 27, 28, 29, 30, 31, 32, 33, 34, 35, 36, 37, 38, 39, 40, 41, 42, 43, 44, 45, 46, 47, 48, 49, 50, 51, 52, 53, 54, 55, 56, 57, 58, 59, 60, 61, 62, 63, 64, 65, 66, 67, 68, 69, 70, 71, 72, 73, 74, 75, 76, 77, 78, 79, 80, 81, 82, 83, 84, 85, 86, 87, 88, 89, 90, 91, 92, 93, 94, 95, 96, 97, 98, 1033, 1034, 1035, 1036, 1037, 1038, 1039, 1040, 984, 985, 986, 987, 988, 989, 990, 991, 1041, 1042, 1043, 1044, 1045, 1046, 1047, 1048, 1049, 1050, 1051, 1052, 1053, 1054, 1055, 1056, 1057, 1058, 1059, 1060, 1061, 1062, 1063, 1064, 1065, 1066, 1067, 1068, 1069, 1070, 1071, 1072, 1073, 1074] (by decide +kernel) (by decide +kernel)
set_option maxRecDepth 20000 in
theorem gL_law_X7_init : GoodIn wsL_law (wsX7_init) := ggL_law_X7_init
set_option maxRecDepth 20000 in
theorem ggL_law_X8_init : GoodIn wsL_law wsX8_init := goodIn_r _ [101, 102, 11, 12, 44, 103, 104, 105, 106, 107, 108, 109, 110, 111, 112, 113, 114, 53, 115, 116, 117, 118, 119, 120, 121, 122, 123, 124, 125, 126, 127, 128, 129, 5, 130, 131, 132, 133, 992, 993, 994, 995, 996, 997, 998, 999, 1000, 1001, 1002, 1003, 1004, 1005, 1006, 1007, 1008, 1009, 1010, 1011, 1012, 1013, 1014, 1015, 1016, 1017, 1018, 1019, 1020, 1021, 1022, 1023, 1024, 1025, 1026, 1027, 1028, 1029, 1030, 1031, 1032] (by decide +kernel) (by decide +kernel)
set_option maxRecDepth 20000 in
theorem gL_law_X8_init : GoodIn wsL_law (wsX8_init) := ggL_law_X8_init
set_option maxRecDepth 20000 in
theorem ggL_law_X7_joint : GoodIn wsL_law wsX7_joint := goodIn_r _ [137, 138, 16, 28, 139, 32, 36, 140, 141, 142, 2, 143, 92, 93, 94, 15, 95, 96, 97, 98, 45, 46, 47, 48, 49, 144, 145, 146, 31, 147, 148, 149, 150, 151, 77, 984, 985, 986, 987, 988, 989, 990, 991, 1054, 1055, 1056, 1057, 1060, 1061, 1062, 1033, 1034, 1035, 1036, 1037, 1038, 1039, 1040, 1058, 1059] (by decide +kernel) (by decide +kernel)
set_option maxRecDepth 20000 in
theorem gL_law_X7_joint : GoodIn wsL_law (wsV RL 13 RX7 yX7_joint wsX7_joint) := goodIn_app (goodIn_of _ (by decide +kernel)) ggL_law_X7_joint
set_option maxRecDepth 20000 in
theorem ggL_law_X8_joint : GoodIn wsL_law wsX8_joint := goodIn_r _ [155, 156, 157, 158, 159, 131, 160, 161, 5, 162, 127, 128, 129, 130, 132, 103, 104, 105, 106, 108, 109, 112, 133, 111, 992, 993, 994, 995, 996, 997, 998, 999, 1000, 1001, 1002, 1003, 1004, 1005, 1006, 1007, 1008, 1009, 1010, 1011, 1012, 1013, 1014, 1015, 1016, 1017, 1018, 1019, 1020, 1021, 1022, 1023, 1024, 1025, 1026, 1027, 1028, 1029, 1030, 1031, 1032] (by decide +kernel) (by decide +kernel)
set_option maxRecDepth 20000 in
theorem gL_law_X8_joint : GoodIn wsL_law (wsV RL 17 RX8 yX8_joint wsX8_joint) := goodIn_app (goodIn_of _ (by decide +kernel)) ggL_law_X8_joint
set_option maxRecDepth 20000 in
theorem ggL_law_X7_set : GoodIn wsL_law wsX7_set := goodIn_r _ [166, 16, 167, 138, 168, 169, 170, 15, 171, 96, 141, 142, 2, 143, 172, 173, 174, 175, 176, 177, 178, 179, 180, 181, 45, 46, 47, 48, 984, 985, 986, 987, 988, 989, 990, 991, 1033, 1034, 1035, 1036, 1037, 1038, 1039, 1040] (by decide +kernel) (by decide +kernel)
set_option maxRecDepth 20000 in
theorem gL_law_X7_set : GoodIn wsL_law (wsV RL 18 RX7 yX7_set wsX7_set) := goodIn_app (goodIn_of _ (by decide +kernel)) ggL_law_X7_set
set_option maxRecDepth 20000 in
theorem ggL_law_X8_set : GoodIn wsL_law wsX8_set := goodIn_r _ [185, 186, 156, 158, 187, 159, 103, 104, 105, 106, 188, 189, 190, 5, 191, 131, 160, 161, 162, 992, 993, 994, 995, 996, 997, 998, 999, 1000, 1001, 1002, 1003, 1004, 1005, 1006, 1007, 1008, 1009, 1010, 1011, 1012, 1013, 1014, 1015, 1016, 1017, 1018, 1019, 1020, 1021, 1022, 1023, 1024, 1025, 1026, 1027, 1028, 1029, 1030, 1031, 1032] (by decide +kernel) (by decide +kernel)
set_option maxRecDepth 20000 in
theorem gL_law_X8_set : GoodIn wsL_law (wsV RL 22 RX8 yX8_set wsX8_set) := goodIn_app (goodIn_of _ (by decide +kernel)) ggL_law_X8_set
set_option maxRecDepth 20000 in
theorem ggL_law_X7_broken : GoodIn wsL_law wsX7_broken := goodIn_r _ [195, 16, 167, 196, 168, 169, 170, 15, 171, 96, 197, 198, 199, 200, 98, 201, 202, 203, 204, 205, 206, 207, 208, 209, 210, 211, 212, 213, 214, 215, 216, 217, 2, 218, 984, 985, 986, 987, 988, 989, 990, 991, 1033, 1034, 1035, 1036, 1037, 1038, 1039, 1040] (by decide +kernel) (by decide +kernel)
set_option maxRecDepth 20000 in
theorem gL_law_X7_broken : GoodIn wsL_law (wsV RL 23 RX7 yX7_broken wsX7_broken) := goodIn_app (goodIn_of _ (by decide +kernel)) ggL_law_X7_broken
set_option maxRecDepth 20000 in
theorem ggL_law_X8_broken : GoodIn wsL_law wsX8_broken := goodIn_r _ [222, 186, 108, 223, 188, 189, 190, 5, 191, 131, 160, 161, 162, 224, 225, 226, 227, 228, 229, 230, 992, 993, 994, 995, 996, 997, 998, 999, 1000, 1001, 1002, 1003, 1004, 1005, 1006, 1007, 1008, 1009, 1010, 1011, 1012, 1013, 1014, 1015, 1016, 1017, 1018, 1019, 1020, 1021, 1022, 1023, 1024, 1025, 1026, 1027, 1028, 1029, 1030, 1031, 1032] (by decide +kernel) (by decide +kernel)
set_option maxRecDepth 20000 in
theorem gL_law_X8_broken : GoodIn wsL_law (wsV RL 27 RX8 yX8_broken wsX8_broken) := goodIn_app (goodIn_of _ (by decide +kernel)) ggL_law_X8_broken
set_option maxRecDepth 20000 in
theorem ggL_law_X7_told : GoodIn wsL_law wsX7_told := goodIn_r _ [234, 16, 167, 20, 235, 138, 168, 169, 170, 15, 171, 96, 178, 179, 180, 181, 45, 46, 47, 48, 197, 198, 199, 200, 98, 216, 217, 2, 218, 236, 237, 238, 19, 239, 240, 241, 242, 243, 244, 57, 245, 246, 247, 248, 249, 250, 251, 252, 253, 254, 255, 256, 257, 258, 56, 259, 260, 261, 262, 59, 58, 263, 264, 265, 266, 55, 54, 267, 268, 269, 270, 271, 272, 273, 274, 275, 276, 277, 278, 279, 280, 281, 282, 283, 284, 285, 286, 287, 288, 289, 290, 291, 49, 984, 985, 986, 987, 988, 989, 990, 991, 1033, 1034, 1035, 1036, 1037, 1038, 1039, 1040, 1041, 1042, 1043, 1044, 1045, 1046] (by decide +kernel) (by decide +kernel)
set_option maxRecDepth 20000 in
theorem gL_law_X7_told : GoodIn wsL_law (wsV RL 28 RX7 yX7_told wsX7_told) := goodIn_app (goodIn_of _ (by decide +kernel)) ggL_law_X7_told
set_option maxRecDepth 20000 in
theorem ggL_law_X8_told : GoodIn wsL_law wsX8_told := goodIn_r _ [295, 186, 109, 103, 104, 105, 106, 108, 159, 188, 189, 190, 5, 191, 131, 160, 161, 162, 296, 297, 298, 299, 117, 300, 301, 302, 303, 116, 304, 132, 305, 306, 307, 308, 309, 115, 310, 311, 312, 313, 314, 315, 316, 317, 318, 319, 320, 321, 228, 229, 230, 322, 323, 324, 325, 326, 327, 328, 329, 992, 993, 994, 995, 996, 997, 998, 999, 1000, 1001, 1002, 1003, 1004, 1005, 1006, 1007, 1008, 1009, 1010, 1011, 1012, 1013, 1014, 1015, 1016, 1017, 1018, 1019, 1020, 1021, 1022, 1023, 1024, 1025, 1026, 1027, 1028, 1029, 1030, 1031, 1032] (by decide +kernel) (by decide +kernel)
set_option maxRecDepth 20000 in
theorem gL_law_X8_told : GoodIn wsL_law (wsV RL 31 RX8 yX8_told wsX8_told) := goodIn_app (goodIn_of _ (by decide +kernel)) ggL_law_X8_told
set_option maxRecDepth 20000 in
theorem ggL_law_X7_force : GoodIn wsL_law wsX7_force := goodIn_r _ [333, 16, 334, 335, 20, 235, 336, 337, 168, 169, 170, 15, 171, 96, 141, 142, 2, 143, 236, 237, 238, 19, 239, 240, 241, 242, 243, 244, 57, 245, 246, 247, 248, 249, 250, 251, 252, 253, 254, 255, 256, 257, 258, 56, 259, 260, 261, 262, 59, 58, 263, 264, 265, 266, 55, 54, 267, 268, 269, 270, 271, 272, 273, 274, 275, 276, 277, 278, 279, 280, 281, 282, 283, 198, 199, 200, 98, 284, 285, 286, 287, 338, 339, 340, 341, 342, 343, 344, 345, 346, 984, 985, 986, 987, 988, 989, 990, 991, 1033, 1034, 1035, 1036, 1037, 1038, 1039, 1040, 1041, 1042, 1043, 1044, 1045, 1046] (by decide +kernel) (by decide +kernel)
set_option maxRecDepth 20000 in
theorem gL_law_X7_force : GoodIn wsL_law (wsV RL 32 RX7 yX7_force wsX7_force) := goodIn_app (goodIn_of _ (by decide +kernel)) ggL_law_X7_force
set_option maxRecDepth 20000 in
theorem ggL_law_X8_force : GoodIn wsL_law wsX8_force := goodIn_r _ [350, 351, 304, 352, 115, 309, 188, 189, 190, 5, 191, 131, 160, 161, 162, 296, 297, 298, 299, 117, 108, 300, 301, 302, 303, 116, 132, 103, 104, 105, 106, 305, 306, 307, 308, 310, 311, 312, 313, 314, 315, 316, 317, 318, 319, 320, 321, 322, 323, 324, 325, 326, 327, 328, 329, 353, 354, 355, 992, 993, 994, 995, 996, 997, 998, 999, 1000, 1001, 1002, 1003, 1004, 1005, 1006, 1007, 1008, 1009, 1010, 1011, 1012, 1013, 1014, 1015, 1016, 1017, 1018, 1019, 1020, 1021, 1022, 1023, 1024, 1025, 1026, 1027, 1028, 1029, 1030, 1031, 1032] (by decide +kernel) (by decide +kernel)
set_option maxRecDepth 20000 in
theorem gL_law_X8_force : GoodIn wsL_law (wsV RL 36 RX8 yX8_force wsX8_force) := goodIn_app (goodIn_of _ (by decide +kernel)) ggL_law_X8_force
set_option maxRecDepth 20000 in
theorem ggL_law_X7_count : GoodIn wsL_law wsX7_count := goodIn_r _ [359, 16, 360, 361, 20, 235, 362, 28, 139, 36, 140, 40, 363, 364, 138, 365, 206, 207, 208, 209, 210, 211, 236, 237, 238, 19, 239, 240, 241, 242, 243, 244, 57, 245, 246, 247, 248, 249, 15, 250, 96, 251, 252, 253, 254, 255, 256, 257, 258, 56, 259, 260, 261, 262, 59, 58, 263, 264, 265, 266, 55, 54, 267, 268, 269, 270, 271, 272, 273, 274, 366, 367, 368, 369, 370, 276, 277, 278, 279, 280, 281, 282, 283, 198, 199, 200, 98, 217, 2, 218, 371, 372, 373, 374, 375, 285, 286, 287, 376, 377, 378, 379, 984, 985, 986, 987, 988, 989, 990, 991, 1033, 1034, 1035, 1036, 1037, 1038, 1039, 1040, 1054, 1055, 1056, 1057, 1060, 1061, 1062, 1063, 1064, 1065, 1066, 1067, 1068, 1069, 1070, 1071, 1072, 1073, 1074, 1041, 1042, 1043, 1044, 1045, 1046] (by decide +kernel) (by decide +kernel)
set_option maxRecDepth 20000 in
theorem gL_law_X7_count : GoodIn wsL_law (wsV RL 37 RX7 yX7_count wsX7_count) := goodIn_app (goodIn_of _ (by decide +kernel)) ggL_law_X7_count
set_option maxRecDepth 20000 in
theorem ggL_law_X8_count : GoodIn wsL_law wsX8_count := goodIn_r _ [383, 131, 105, 112, 133, 384, 385, 159, 296, 297, 298, 5, 299, 117, 108, 300, 301, 302, 303, 116, 304, 132, 103, 104, 106, 305, 306, 307, 308, 309, 115, 310, 311, 312, 313, 314, 315, 316, 317, 318, 319, 320, 321, 322, 323, 324, 325, 228, 229, 230, 326, 327, 328, 329, 224, 225, 226, 227, 992, 993, 994, 995, 996, 997, 998, 999, 1000, 1001, 1002, 1003, 1004, 1005, 1006, 1007, 1008, 1009, 1010, 1011, 1012, 1013, 1014, 1015, 1016, 1017, 1018, 1019, 1020, 1021, 1022, 1023, 1024, 1025, 1026, 1027, 1028, 1029, 1030, 1031, 1032] (by decide +kernel) (by decide +kernel)
set_option maxRecDepth 20000 in
theorem gL_law_X8_count : GoodIn wsL_law (wsV RL 41 RX8 yX8_count wsX8_count) := goodIn_app (goodIn_of _ (by decide +kernel)) ggL_law_X8_count
