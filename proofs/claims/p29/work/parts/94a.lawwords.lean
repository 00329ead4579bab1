/-! the law's words lie in the tables (written by wip/p29/gen94.py) -/
theorem o_mem {big ws : List Cond} (ps : List Nat) (h : ws = ps.filterMap (fun i => big[i]?)) : ∀ w ∈ ws, w ∈ big := by
  rw [h]
  intro w hw
  obtain ⟨i, _, hi⟩ := List.mem_filterMap.mp hw
  exact List.mem_of_getElem? hi
set_option maxRecDepth 20000 in
theorem wsL_r1_in : ∀ w ∈ wsL_law_r1, w ∈ lw_tbl := o_mem [19, 20, 8, 73, 479, 480, 481, 21, 22, 23, 24, 25, 26, 27, 28, 9, 225, 74, 75, 10, 226, 102, 103, 11] (by decide +kernel)
set_option maxRecDepth 20000 in
theorem wsL_r2_in : ∀ w ∈ wsL_law_r2, w ∈ lw_tbl := o_mem [227, 135, 136, 12, 228, 155, 156, 13, 229, 168, 169, 14, 230, 184, 185, 15, 231, 30, 31, 32, 42, 45, 47, 51] (by decide +kernel)
set_option maxRecDepth 20000 in
theorem wsL_r3_in : ∀ w ∈ wsL_law_r3, w ∈ lw_tbl := o_mem [54, 77, 78, 79, 101, 80, 82, 84, 85, 86, 87, 105, 106, 107, 108, 116, 117, 118, 119, 138, 139, 140, 141, 144] (by decide +kernel)
set_option maxRecDepth 20000 in
theorem wsL_r4_in : ∀ w ∈ wsL_law_r4, w ∈ lw_tbl := o_mem [145, 158, 159, 160, 161, 162, 171, 172, 173, 175, 176, 187, 188, 189, 191, 192, 193, 194, 195, 221, 222, 223, 224, 33] (by decide +kernel)
set_option maxRecDepth 20000 in
theorem wsL_r5_in : ∀ w ∈ wsL_law_r5, w ∈ lw_tbl := o_mem [37, 39, 459, 460, 7, 461, 462, 463, 464, 465, 466, 467, 468, 469, 250, 251, 252, 253, 257, 143, 174, 254, 255, 256] (by decide +kernel)
set_option maxRecDepth 20000 in
theorem wsL_r6_in : ∀ w ∈ wsL_law_r6, w ∈ lw_tbl := o_mem [258, 259, 260, 261, 262, 263, 264, 265, 266, 267, 268, 269, 274, 270, 271, 272, 273, 275, 276, 277, 278, 279, 280, 281] (by decide +kernel)
set_option maxRecDepth 20000 in
theorem wsL_r7_in : ∀ w ∈ wsL_law_r7, w ∈ lw_tbl := o_mem [282, 283, 284, 470, 471, 472, 473, 429, 289, 290, 291, 292, 474, 414, 415, 416, 417, 350, 16, 351, 352, 353, 354, 475] (by decide +kernel)
set_option maxRecDepth 20000 in
theorem wsL_r8_in : ∀ w ∈ wsL_law_r8, w ∈ lw_tbl := o_mem [476, 477, 478, 293, 294, 295, 285, 286, 287, 288, 53, 296, 297, 298, 299, 300, 301, 302, 303, 40, 34, 38, 304, 305] (by decide +kernel)
set_option maxRecDepth 20000 in
theorem wsL_r9_in : ∀ w ∈ wsL_law_r9, w ∈ lw_tbl := o_mem [306, 307, 308, 310, 0, 311, 312, 44, 49, 46, 313, 315, 1, 316, 317, 319, 2, 320, 321, 323, 3, 324, 325, 327] (by decide +kernel)
set_option maxRecDepth 20000 in
theorem wsL_r10_in : ∀ w ∈ wsL_law_r10, w ∈ lw_tbl := o_mem [4, 328, 329, 330, 331, 332, 334, 335, 17, 336, 333, 337, 338, 339, 340, 341, 342, 343, 344, 370, 371, 372, 373, 374] (by decide +kernel)
set_option maxRecDepth 20000 in
theorem wsL_r11_in : ∀ w ∈ wsL_law_r11, w ∈ lw_tbl := o_mem [375, 376, 377, 378, 380, 5, 381, 382, 383, 384, 385, 386, 55, 387, 388, 389, 390, 48, 391, 393, 392, 18, 394, 395] (by decide +kernel)
set_option maxRecDepth 20000 in
theorem wsL_r12_in : ∀ w ∈ wsL_law_r12, w ∈ lw_tbl := o_mem [396, 397, 398, 400, 6, 401, 52, 35, 83, 402, 403, 404, 405, 406, 407, 408, 409, 410, 411, 412, 43, 81, 423, 424] (by decide +kernel)
set_option maxRecDepth 20000 in
theorem wsL_r13_in : ∀ w ∈ wsL_law_r13, w ∈ lw_tbl := o_mem [413, 418, 367, 368, 369, 419, 421, 422, 425, 426, 427, 428, 345, 346, 347, 348, 36, 41, 50, 190, 232, 349, 355, 356] (by decide +kernel)
set_option maxRecDepth 20000 in
theorem wsL_r14_in : ∀ w ∈ wsL_law_r14, w ∈ lw_tbl := o_mem [357, 358, 359, 361, 362, 363, 364, 365, 366, 430, 431, 432, 433, 434, 111, 115, 113, 435, 436, 437, 438, 110, 112, 114] (by decide +kernel)
set_option maxRecDepth 20000 in
theorem wsL_r15_in : ∀ w ∈ wsL_law_r15, w ∈ lw_tbl := o_mem [439, 440, 441, 442, 443, 444, 445, 446, 447, 448, 449, 450, 451, 452, 453, 454, 455, 456, 457, 458] (by decide +kernel)
set_option maxRecDepth 20000 in
theorem inX0 : ∀ w ∈ wsX00, w ∈ lw_tbl := o_mem [146, 148, 150, 152] (by decide +kernel)
set_option maxRecDepth 20000 in
theorem inX1 : ∀ w ∈ wsX10, w ∈ lw_tbl := o_mem [120, 122, 124, 126, 128, 130, 132] (by decide +kernel)
set_option maxRecDepth 20000 in
theorem inX2 : ∀ w ∈ wsX20, w ∈ lw_tbl := o_mem [56, 58, 60, 62, 64, 66, 68, 70] (by decide +kernel)
set_option maxRecDepth 20000 in
theorem inX3 : ∀ w ∈ wsX30, w ∈ lw_tbl := o_mem [88, 90, 92, 94, 96, 98] (by decide +kernel)
set_option maxRecDepth 20000 in
theorem inX4 : ∀ w ∈ wsX40, w ∈ lw_tbl := o_mem [163, 165] (by decide +kernel)
set_option maxRecDepth 20000 in
theorem inX5 : ∀ w ∈ wsX50, w ∈ lw_tbl := o_mem [196, 198, 200, 202, 204, 206, 208, 210, 212, 214, 216, 218] (by decide +kernel)
set_option maxRecDepth 20000 in
theorem inX6 : ∀ w ∈ wsX60, w ∈ lw_tbl := o_mem [177, 179, 181] (by decide +kernel)
set_option maxRecDepth 20000 in
theorem inX7 : ∀ w ∈ wsX70, w ∈ lw_tbl := o_mem [233, 235, 237, 239, 241, 243, 245, 247] (by decide +kernel)
theorem wsL_law_in : ∀ w ∈ wsL_law, w ∈ lw_tbl := List.forall_mem_append.mpr ⟨List.forall_mem_append.mpr ⟨List.forall_mem_append.mpr ⟨List.forall_mem_append.mpr ⟨List.forall_mem_append.mpr ⟨List.forall_mem_append.mpr ⟨List.forall_mem_append.mpr ⟨List.forall_mem_append.mpr ⟨List.forall_mem_append.mpr ⟨List.forall_mem_append.mpr ⟨wsL_r1_in, List.forall_mem_append.mpr ⟨wsL_r2_in, List.forall_mem_append.mpr ⟨wsL_r3_in, List.forall_mem_append.mpr ⟨wsL_r4_in, List.forall_mem_append.mpr ⟨wsL_r5_in, List.forall_mem_append.mpr ⟨wsL_r6_in, List.forall_mem_append.mpr ⟨wsL_r7_in, List.forall_mem_append.mpr ⟨wsL_r8_in, List.forall_mem_append.mpr ⟨wsL_r9_in, List.forall_mem_append.mpr ⟨wsL_r10_in, List.forall_mem_append.mpr ⟨wsL_r11_in, List.forall_mem_append.mpr ⟨wsL_r12_in, List.forall_mem_append.mpr ⟨wsL_r13_in, List.forall_mem_append.mpr ⟨wsL_r14_in, wsL_r15_in⟩⟩⟩⟩⟩⟩⟩⟩⟩⟩⟩⟩⟩⟩, inX7⟩, inX2⟩, inX3⟩, inX1⟩, inX0⟩, inX4⟩, inX6⟩, inX5⟩, fun _ h => absurd h List.not_mem_nil⟩
theorem inlX0 : ∀ w ∈ wsX00, w ∈ wsL_law := fun _ h => List.mem_append_left _ (List.mem_append_left _ (List.mem_append_left _ (List.mem_append_left _ (List.mem_append_right _ h))))
theorem inlX1 : ∀ w ∈ wsX10, w ∈ wsL_law := fun _ h => List.mem_append_left _ (List.mem_append_left _ (List.mem_append_left _ (List.mem_append_left _ (List.mem_append_left _ (List.mem_append_right _ h)))))
theorem inlX2 : ∀ w ∈ wsX20, w ∈ wsL_law := fun _ h => List.mem_append_left _ (List.mem_append_left _ (List.mem_append_left _ (List.mem_append_left _ (List.mem_append_left _ (List.mem_append_left _ (List.mem_append_left _ (List.mem_append_right _ h)))))))
theorem inlX3 : ∀ w ∈ wsX30, w ∈ wsL_law := fun _ h => List.mem_append_left _ (List.mem_append_left _ (List.mem_append_left _ (List.mem_append_left _ (List.mem_append_left _ (List.mem_append_left _ (List.mem_append_right _ h))))))
theorem inlX4 : ∀ w ∈ wsX40, w ∈ wsL_law := fun _ h => List.mem_append_left _ (List.mem_append_left _ (List.mem_append_left _ (List.mem_append_right _ h)))
theorem inlX5 : ∀ w ∈ wsX50, w ∈ wsL_law := fun _ h => List.mem_append_left _ (List.mem_append_right _ h)
theorem inlX6 : ∀ w ∈ wsX60, w ∈ wsL_law := fun _ h => List.mem_append_left _ (List.mem_append_left _ (List.mem_append_right _ h))
theorem inlX7 : ∀ w ∈ wsX70, w ∈ wsL_law := fun _ h => List.mem_append_left _ (List.mem_append_left _ (List.mem_append_left _ (List.mem_append_left _ (List.mem_append_left _ (List.mem_append_left _ (List.mem_append_left _ (List.mem_append_left _ (List.mem_append_right _ h))))))))
