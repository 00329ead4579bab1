/-! the law: rows of the print -/
set_option maxRecDepth 20000 in
theorem ggL_law_X8_read_0 : GoodIn wsL_law ((wsX8_read).take 60) := goodIn_r _ [925, 926, 927, 123, 928, 384, 385, 929, 930, 931, 5, 932, 122, 933, 934, 935, 936, 937, 124, 125, 131, 126, 938, 939, 940, 941, 942, 943, 944, 160, 161, 162, 945, 946, 947, 948, 949, 950, 951, 952, 953, 954, 955, 956, 957, 958, 959, 960, 961, 962, 963, 964, 965, 966, 967, 968, 969, 970, 106, 108] (by decide +kernel) (by decide +kernel)
set_option maxRecDepth 20000 in
theorem ggL_law_X8_read_1 : GoodIn wsL_law (((wsX8_read).drop 60).take 60) := goodIn_r _ [971, 407, 408, 409, 186, 159, 223, 188, 189, 190, 191, 410, 411, 412, 413, 414, 415, 416, 417, 105, 418, 419, 420, 421, 309, 296, 297, 298, 299, 117, 300, 301, 302, 303, 116, 304, 132, 103, 104, 305, 306, 307, 308, 115, 310, 311, 312, 313, 314, 315, 316, 317, 318, 319, 320, 321, 322, 323, 324, 325] (by decide +kernel) (by decide +kernel)
set_option maxRecDepth 20000 in
theorem ggL_law_X8_read_2 : GoodIn wsL_law ((((wsX8_read).drop 60).drop 60).take 60) := goodIn_r _ [972, 456, 457, 458, 459, 460, 461, 462, 109, 973, 220, 221, 222, 224, 225, 226, 227, 228, 229, 230, 974, 436, 437, 438, 118, 439, 440, 441, 442, 992, 993, 994, 995, 996, 997, 998, 999, 1000, 1001, 1002, 1003, 1004, 1005, 1006, 1007, 1008, 1009, 1010, 1011, 1012, 1013, 1014, 1015, 1016, 1017, 1018, 1019, 1020, 1021, 1022] (by decide +kernel) (by decide +kernel)
set_option maxRecDepth 20000 in
theorem ggL_law_X8_read_3 : GoodIn wsL_law ((((wsX8_read).drop 60).drop 60).drop 60) := goodIn_r _ [1023, 1024, 1025, 1026, 1027, 1028, 1029, 1030, 1031, 1032] (by decide +kernel) (by decide +kernel)
theorem ggL_law_X8_read : GoodIn wsL_law wsX8_read := goodIn_td 60 ggL_law_X8_read_0 (goodIn_td 60 ggL_law_X8_read_1 (goodIn_td 60 ggL_law_X8_read_2 ggL_law_X8_read_3))
set_option maxRecDepth 20000 in
theorem gL_law_X8_read : GoodIn wsL_law (wsV RL 122 RX8 yX8_read wsX8_read) := goodIn_app (goodIn_of _ (by decide +kernel)) ggL_law_X8_read
set_option maxRecDepth 20000 in
theorem ggL_law_X7_fault : GoodIn wsL_law wsX7_fault := goodIn_r _ [978, 40, 979, 984, 985, 986, 987, 988, 989, 990, 991, 1063, 1064, 1065, 1066, 1067, 1068, 1069, 1070, 1071, 1072, 1073, 1074] (by decide +kernel) (by decide +kernel)
set_option maxRecDepth 20000 in
theorem gL_law_X7_fault : GoodIn wsL_law (wsV RL 123 RX7 yX7_fault wsX7_fault) := goodIn_app (goodIn_of _ (by decide +kernel)) ggL_law_X7_fault
set_option maxRecDepth 20000 in
theorem ggL_law_X8_fault : GoodIn wsL_law wsX8_fault := goodIn_r _ [983, 123, 992, 993, 994, 995, 996, 997, 998, 999, 1000, 1001, 1002, 1003, 1004, 1005, 1006, 1007, 1008, 1009, 1010, 1011, 1012, 1013, 1014, 1015, 1016, 1017, 1018, 1019, 1020, 1021, 1022, 1023, 1024, 1025, 1026, 1027, 1028, 1029, 1030, 1031, 1032] (by decide +kernel) (by decide +kernel)
set_option maxRecDepth 20000 in
theorem gL_law_X8_fault : GoodIn wsL_law (wsV RL 126 RX8 yX8_fault wsX8_fault) := goodIn_app (goodIn_of _ (by decide +kernel)) ggL_law_X8_fault
