/-! the law: rows of the print -/
set_option maxRecDepth 20000 in
theorem ggL_law_X7_init : GoodIn wsL_law wsX7_init := goodIn_r _ [9, 10, 11, 12, 13, 14, 15, 16, 17, 18, 19, 20, 21, 22, 23, 24, 25, 26, 27, 28, 29, 30, 31, 32, 33, 34, 35, 36, 37, 38, 39, 40, 41, 42, 43, 3, 44, 45, 46, 47, 48, 49, 50, 51, 52, 53, 54, 55, 56, 57, 58, 59, 60, 61, 62, 63, 64, 65, 66, 67, 68, 69, 70, 71, 72, 73, 74, 75, 76, 77, 78, 79, 80, 81, 82, 83, 84, 85, 86, 87, 88, 89, 90, 91, 92, 93, 94, 95, 96, 97, 364, 365, 366, 367, 368, 369, 370, 371, 356, 357, 358, 359, 360, 361, 362, 363, 372, 373, 374, 375, 376, 377, 378, 379, 380, 381, 382, 383, 384, 385, 386, 387, 388, 389, 390, 391, 392, 393, 394, 395, 396, 397, 398, 399, 400, 401, 402, 403, 404, 405] (by decide +kernel) (by decide +kernel)
set_option maxRecDepth 20000 in
theorem gL_law_X7_init : GoodIn wsL_law (wsX7_init) := ggL_law_X7_init
set_option maxRecDepth 20000 in
theorem ggL_law_L_cell : GoodIn wsL_law wsL_cell := goodIn_r _ [101, 102] (by decide +kernel) (by decide +kernel)
set_option maxRecDepth 20000 in
theorem gL_law_L_cell : GoodIn wsL_law (va_wsS RL 9 yL_cell wsL_cell) := goodIn_app (goodIn_of _ (by decide +kernel)) ggL_law_L_cell
set_option maxRecDepth 20000 in
theorem ggL_law_L_low : GoodIn wsL_law wsL_low := goodIn_r _ [105, 106] (by decide +kernel) (by decide +kernel)
set_option maxRecDepth 20000 in
theorem gL_law_L_low : GoodIn wsL_law (va_wsS RL 15 yL_low wsL_low) := goodIn_app (goodIn_of _ (by decide +kernel)) ggL_law_L_low
set_option maxRecDepth 20000 in
theorem ggL_law_L_make : GoodIn wsL_law wsL_make := goodIn_r _ [109, 98, 99, 100, 101, 102, 103, 104, 105, 106, 110, 111, 112, 2, 113, 114, 16, 28, 115, 32, 36, 116, 117, 118, 119, 91, 92, 93, 15, 94, 95, 96, 97, 44, 45, 46, 47, 48, 120, 121, 122, 31, 123, 124, 125, 126, 127, 76, 128, 129, 130, 131, 132, 133, 134, 135, 136, 137, 138, 139, 140, 141, 142, 143, 144, 145, 146, 147, 148, 149, 150, 151, 152, 153, 154, 155, 156, 157, 158, 159, 160, 161, 162, 163, 164, 165, 166, 167, 168, 169, 170, 171, 172, 173, 356, 357, 358, 359, 360, 361, 362, 363, 385, 386, 387, 388, 391, 392, 393, 364, 365, 366, 367, 368, 369, 370, 371, 389, 390] (by decide +kernel) (by decide +kernel)
set_option maxRecDepth 20000 in
theorem gL_law_L_make : GoodIn wsL_law (va_wsS RL 33 yL_make wsL_make) := goodIn_app (goodIn_of _ (by decide +kernel)) ggL_law_L_make
set_option maxRecDepth 20000 in
theorem ggL_law_X7_told : GoodIn wsL_law wsX7_told := goodIn_r _ [177, 16, 132, 20, 178, 114, 133, 134, 135, 15, 136, 95, 143, 144, 145, 146, 44, 45, 46, 47, 152, 153, 154, 155, 97, 171, 172, 2, 173, 179, 180, 181, 19, 182, 183, 184, 185, 186, 187, 56, 188, 189, 190, 191, 192, 193, 194, 195, 196, 197, 198, 199, 200, 201, 55, 202, 203, 204, 205, 58, 57, 206, 207, 208, 209, 54, 53, 210, 211, 212, 213, 214, 215, 216, 217, 218, 219, 220, 221, 222, 223, 224, 225, 226, 227, 228, 229, 230, 231, 232, 233, 234, 48, 356, 357, 358, 359, 360, 361, 362, 363, 364, 365, 366, 367, 368, 369, 370, 371, 372, 373, 374, 375, 376, 377] (by decide +kernel) (by decide +kernel)
set_option maxRecDepth 20000 in
theorem gL_law_X7_told : GoodIn wsL_law (wsV RL 37 RX7 yX7_told wsX7_told) := goodIn_app (goodIn_of _ (by decide +kernel)) ggL_law_X7_told
set_option maxRecDepth 20000 in
theorem ggL_law_X7_row : GoodIn wsL_law wsX7_row := goodIn_r _ [238, 16, 114, 239, 240, 241, 15, 242, 95, 48, 243, 244, 245, 246, 247, 191, 192, 193, 356, 357, 358, 359, 360, 361, 362, 363, 364, 365, 366, 367, 368, 369, 370, 371] (by decide +kernel) (by decide +kernel)
set_option maxRecDepth 20000 in
theorem gL_law_X7_row : GoodIn wsL_law (wsV RL 40 RX7 yX7_row wsX7_row) := goodIn_app (goodIn_of _ (by decide +kernel)) ggL_law_X7_row
set_option maxRecDepth 20000 in
theorem ggL_law_X7_passes : GoodIn wsL_law wsX7_passes := goodIn_r _ [251, 114, 24, 16, 252, 151, 117, 118, 2, 119, 253, 254, 255, 23, 256, 257, 64, 258, 259, 260, 261, 262, 263, 264, 265, 266, 267, 268, 269, 63, 270, 271, 272, 273, 180, 181, 19, 182, 183, 184, 185, 186, 187, 56, 188, 189, 190, 191, 192, 15, 193, 95, 194, 195, 196, 197, 198, 199, 200, 201, 55, 202, 203, 204, 205, 58, 57, 206, 207, 208, 209, 54, 53, 210, 211, 212, 213, 214, 215, 216, 217, 274, 153, 154, 155, 97, 275, 219, 220, 221, 222, 223, 224, 225, 226, 276, 277, 278, 279, 280, 281, 282, 283, 284, 285, 286, 287, 288, 157, 158, 159, 160, 161, 162, 163, 164, 165, 166, 289, 290, 291, 292, 293, 294, 295, 296, 297, 298, 299, 356, 357, 358, 359, 360, 361, 362, 363, 364, 365, 366, 367, 368, 369, 370, 371, 378, 379, 380, 381, 382, 383, 384, 372, 373, 374, 375, 376, 377] (by decide +kernel) (by decide +kernel)
set_option maxRecDepth 20000 in
theorem gL_law_X7_passes : GoodIn wsL_law (wsV RL 44 RX7 yX7_passes wsX7_passes) := goodIn_app (goodIn_of _ (by decide +kernel)) ggL_law_X7_passes
set_option maxRecDepth 20000 in
theorem ggL_law_X7_count : GoodIn wsL_law wsX7_count := goodIn_r _ [303, 16, 304, 305, 20, 178, 306, 28, 115, 36, 116, 40, 307, 308, 114, 309, 161, 162, 163, 164, 165, 166, 179, 180, 181, 19, 182, 183, 184, 185, 186, 187, 56, 188, 189, 190, 191, 192, 15, 193, 95, 194, 195, 196, 197, 198, 199, 200, 201, 55, 202, 203, 204, 205, 58, 57, 206, 207, 208, 209, 54, 53, 210, 211, 212, 213, 214, 215, 216, 217, 310, 311, 312, 313, 314, 219, 220, 221, 222, 223, 224, 225, 226, 153, 154, 155, 97, 172, 2, 173, 315, 316, 317, 318, 319, 228, 229, 230, 320, 290, 291, 292, 356, 357, 358, 359, 360, 361, 362, 363, 364, 365, 366, 367, 368, 369, 370, 371, 385, 386, 387, 388, 391, 392, 393, 394, 395, 396, 397, 398, 399, 400, 401, 402, 403, 404, 405, 372, 373, 374, 375, 376, 377] (by decide +kernel) (by decide +kernel)
set_option maxRecDepth 20000 in
theorem gL_law_X7_count : GoodIn wsL_law (wsV RL 47 RX7 yX7_count wsX7_count) := goodIn_app (goodIn_of _ (by decide +kernel)) ggL_law_X7_count
set_option maxRecDepth 20000 in
theorem ggL_law_X7_best : GoodIn wsL_law wsX7_best := goodIn_r _ [324, 114, 16, 304, 325, 24, 326, 151, 327, 328, 117, 118, 2, 119, 329, 330, 331, 23, 332, 257, 66, 65, 258, 259, 260, 261, 333, 334, 271, 335, 336, 254, 255, 256, 64, 289, 290, 291, 15, 292, 95, 337, 263, 264, 265, 266, 267, 268, 269, 63, 270, 272, 273, 180, 181, 19, 182, 183, 184, 185, 186, 187, 56, 188, 189, 190, 191, 192, 193, 194, 195, 196, 197, 198, 199, 200, 201, 55, 202, 203, 204, 205, 58, 57, 206, 207, 208, 209, 54, 53, 210, 211, 212, 213, 214, 215, 216, 217, 274, 153, 154, 155, 97, 275, 219, 220, 221, 222, 223, 224, 225, 226, 276, 277, 278, 279, 280, 281, 282, 283, 284, 285, 286, 287, 288, 157, 158, 159, 160, 161, 162, 163, 164, 165, 166, 293, 294, 295, 338, 297, 298, 299, 339, 340, 341, 342, 343, 344, 345, 346, 347, 356, 357, 358, 359, 360, 361, 362, 363, 364, 365, 366, 367, 368, 369, 370, 371, 378, 379, 380, 381, 382, 383, 384, 372, 373, 374, 375, 376, 377] (by decide +kernel) (by decide +kernel)
set_option maxRecDepth 20000 in
theorem gL_law_X7_best : GoodIn wsL_law (wsV RL 50 RX7 yX7_best wsX7_best) := goodIn_app (goodIn_of _ (by decide +kernel)) ggL_law_X7_best
set_option maxRecDepth 20000 in
theorem ggL_law_X7_even : GoodIn wsL_law wsX7_even := goodIn_r _ [351, 16, 132, 114, 24, 306, 151, 133, 134, 135, 15, 136, 95, 117, 118, 2, 119, 253, 254, 255, 23, 256, 257, 64, 258, 259, 260, 261, 352, 353, 354, 355, 271, 66, 274, 153, 154, 155, 97, 276, 277, 278, 279, 280, 281, 282, 283, 270, 63, 284, 285, 272, 286, 223, 224, 225, 287, 288, 157, 158, 159, 160, 161, 162, 163, 164, 165, 166, 289, 290, 291, 292, 293, 184, 185, 19, 186, 187, 56, 188, 189, 190, 191, 192, 193, 194, 195, 196, 197, 198, 199, 200, 201, 55, 202, 203, 204, 205, 58, 57, 206, 207, 208, 209, 54, 53, 210, 211, 212, 213, 214, 215, 216, 217, 294, 295, 320, 296, 297, 298, 299, 356, 357, 358, 359, 360, 361, 362, 363, 364, 365, 366, 367, 368, 369, 370, 371, 378, 379, 380, 381, 382, 383, 384, 372, 373, 374, 375, 376, 377] (by decide +kernel) (by decide +kernel)
set_option maxRecDepth 20000 in
theorem gL_law_X7_even : GoodIn wsL_law (wsV RL 54 RX7 yX7_even wsX7_even) := goodIn_app (goodIn_of _ (by decide +kernel)) ggL_law_X7_even
set_option maxRecDepth 20000 in
theorem ggL_law_X7_set : GoodIn wsL_law wsX7_set := goodIn_r _ [131, 16, 132, 114, 133, 134, 135, 15, 136, 95, 117, 118, 2, 119, 137, 138, 139, 140, 141, 142, 143, 144, 145, 146, 44, 45, 46, 47, 356, 357, 358, 359, 360, 361, 362, 363, 364, 365, 366, 367, 368, 369, 370, 371] (by decide +kernel) (by decide +kernel)
set_option maxRecDepth 20000 in
theorem gL_law_X7_set : GoodIn wsL_law (wsV RL 24 RX7 yX7_set wsX7_set) := goodIn_app (goodIn_of _ (by decide +kernel)) ggL_law_X7_set
set_option maxRecDepth 20000 in
theorem ggL_law_X7_joint : GoodIn wsL_law wsX7_joint := goodIn_r _ [113, 114, 16, 28, 115, 32, 36, 116, 117, 118, 2, 119, 91, 92, 93, 15, 94, 95, 96, 97, 44, 45, 46, 47, 48, 120, 121, 122, 31, 123, 124, 125, 126, 127, 76, 356, 357, 358, 359, 360, 361, 362, 363, 385, 386, 387, 388, 391, 392, 393, 364, 365, 366, 367, 368, 369, 370, 371, 389, 390] (by decide +kernel) (by decide +kernel)
set_option maxRecDepth 20000 in
theorem gL_law_X7_joint : GoodIn wsL_law (wsV RL 19 RX7 yX7_joint wsX7_joint) := goodIn_app (goodIn_of _ (by decide +kernel)) ggL_law_X7_joint
