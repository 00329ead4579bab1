theorem dL_cell_0 : decode cL_cell 0 = .ok (.iload_n 1, 1) := by decide +kernel
theorem dL_cell_1 : decode cL_cell 1 = .ok (.aload_n 0, 1) := by decide +kernel
theorem dL_cell_2 : decode cL_cell 2 = .ok (.arraylength, 1) := by decide +kernel
theorem dL_cell_3 : decode cL_cell 3 = .ok (.if_icmp .ge 9, 3) := by decide +kernel
theorem dL_cell_6 : decode cL_cell 6 = .ok (.aload_n 0, 1) := by decide +kernel
theorem dL_cell_7 : decode cL_cell 7 = .ok (.iload_n 1, 1) := by decide +kernel
theorem dL_cell_8 : decode cL_cell 8 = .ok (.iaload, 1) := by decide +kernel
theorem dL_cell_9 : decode cL_cell 9 = .ok (.goto 9, 3) := by decide +kernel
theorem dL_cell_12 : decode cL_cell 12 = .ok (.ldc 7, 2) := by decide +kernel
theorem dL_cell_14 : decode cL_cell 14 = .ok (.iload_n 1, 1) := by decide +kernel
theorem dL_cell_15 : decode cL_cell 15 = .ok (.iconst 1, 1) := by decide +kernel
theorem dL_cell_16 : decode cL_cell 16 = .ok (.iadd, 1) := by decide +kernel
theorem dL_cell_17 : decode cL_cell 17 = .ok (.imul, 1) := by decide +kernel
theorem dL_cell_18 : decode cL_cell 18 = .ok (.ireturn, 1) := by decide +kernel
theorem dL_low_0 : decode cL_low 0 = .ok (.iload_n 0, 1) := by decide +kernel
theorem dL_low_1 : decode cL_low 1 = .ok (.ldc 8, 2) := by decide +kernel
theorem dL_low_3 : decode cL_low 3 = .ok (.iand, 1) := by decide +kernel
theorem dL_low_4 : decode cL_low 4 = .ok (.iload_n 1, 1) := by decide +kernel
theorem dL_low_5 : decode cL_low 5 = .ok (.irem, 1) := by decide +kernel
theorem dL_low_6 : decode cL_low 6 = .ok (.ireturn, 1) := by decide +kernel
set_option maxRecDepth 20000 in
theorem ggL_make_L_cell : GoodIn wsL_make wsL_cell := goodIn_r _ [4, 5] (by decide +kernel) (by decide +kernel)
set_option maxRecDepth 20000 in
theorem gL_make_L_cell : GoodIn wsL_make (va_wsS RL 9 yL_cell wsL_cell) := goodIn_app (goodIn_of _ (by decide +kernel)) ggL_make_L_cell
set_option maxRecDepth 20000 in
theorem ggL_make_L_low : GoodIn wsL_make wsL_low := goodIn_r _ [8, 9] (by decide +kernel) (by decide +kernel)
set_option maxRecDepth 20000 in
theorem gL_make_L_low : GoodIn wsL_make (va_wsS RL 15 yL_low wsL_low) := goodIn_app (goodIn_of _ (by decide +kernel)) ggL_make_L_low
set_option maxRecDepth 20000 in
theorem ggL_make_X7_joint : GoodIn wsL_make wsX7_joint := goodIn_r _ [14, 15, 16, 17, 18, 19, 20, 21, 22, 23, 13, 24, 25, 26, 27, 28, 29, 30, 31, 32, 33, 34, 35, 36, 37, 38, 39, 40, 41, 42, 43, 44, 45, 46, 47, 94, 95, 96, 97, 98, 99, 100, 101, 102, 103, 104, 105, 106, 107, 108, 109, 110, 111, 112, 113, 114, 115, 116, 117, 118] (by decide +kernel) (by decide +kernel)
set_option maxRecDepth 20000 in
theorem gL_make_X7_joint : GoodIn wsL_make (wsV RL 19 RX7 yX7_joint wsX7_joint) := goodIn_app (goodIn_of _ (by decide +kernel)) ggL_make_X7_joint
set_option maxRecDepth 20000 in
theorem ggL_make_X7_set : GoodIn wsL_make wsX7_set := goodIn_r _ [51, 16, 52, 15, 53, 54, 55, 28, 56, 30, 22, 23, 13, 24, 57, 58, 59, 60, 61, 62, 63, 64, 65, 66, 33, 34, 35, 36, 94, 95, 96, 97, 98, 99, 100, 101, 109, 110, 111, 112, 113, 114, 115, 116] (by decide +kernel) (by decide +kernel)
set_option maxRecDepth 20000 in
theorem gL_make_X7_set : GoodIn wsL_make (wsV RL 24 RX7 yX7_set wsX7_set) := goodIn_app (goodIn_of _ (by decide +kernel)) ggL_make_X7_set
set_option maxRecDepth 20000 in
theorem ggL_make_X7_broken : GoodIn wsL_make wsX7_broken := goodIn_r _ [70, 16, 52, 71, 53, 54, 55, 28, 56, 30, 72, 73, 74, 75, 32, 76, 77, 78, 79, 80, 81, 82, 83, 84, 85, 86, 87, 88, 89, 90, 91, 92, 13, 93, 94, 95, 96, 97, 98, 99, 100, 101, 109, 110, 111, 112, 113, 114, 115, 116] (by decide +kernel) (by decide +kernel)
set_option maxRecDepth 20000 in
theorem gL_make_X7_broken : GoodIn wsL_make (wsV RL 28 RX7 yX7_broken wsX7_broken) := goodIn_app (goodIn_of _ (by decide +kernel)) ggL_make_X7_broken
theorem dL_make_0 : decode cL_make 0 = .ok (.aload_n 0, 1) := by decide +kernel
theorem dL_make_1 : decode cL_make 1 = .ok (.iload_n 2, 1) := by decide +kernel
theorem dL_make_2 : decode cL_make 2 = .ok (.iconst 1, 1) := by decide +kernel
theorem dL_make_3 : decode cL_make 3 = .ok (.aload_n 1, 1) := by decide +kernel
theorem dL_make_4 : decode cL_make 4 = .ok (.iconst 1, 1) := by decide +kernel
theorem dL_make_5 : decode cL_make 5 = .ok (.invokestatic 9, 3) := by decide +kernel
theorem dL_make_8 : decode cL_make 8 = .ok (.bipush 9, 2) := by decide +kernel
theorem dL_make_10 : decode cL_make 10 = .ok (.invokestatic 15, 3) := by decide +kernel
theorem dL_make_13 : decode cL_make 13 = .ok (.iadd, 1) := by decide +kernel
theorem dL_make_14 : decode cL_make 14 = .ok (.invokevirtual 19, 3) := by decide +kernel
theorem dL_make_17 : decode cL_make 17 = .ok (.iload_n 2, 1) := by decide +kernel
theorem dL_make_18 : decode cL_make 18 = .ok (.if_icmp .eq 5, 3) := by decide +kernel
theorem dL_make_21 : decode cL_make 21 = .ok (.iconst 0, 1) := by decide +kernel
theorem dL_make_22 : decode cL_make 22 = .ok (.ireturn, 1) := by decide +kernel
theorem dL_make_23 : decode cL_make 23 = .ok (.iconst 0, 1) := by decide +kernel
theorem dL_make_24 : decode cL_make 24 = .ok (.istore_n 3, 1) := by decide +kernel
theorem dL_make_25 : decode cL_make 25 = .ok (.iload_n 3, 1) := by decide +kernel
theorem dL_make_26 : decode cL_make 26 = .ok (.iload_n 2, 1) := by decide +kernel
theorem dL_make_27 : decode cL_make 27 = .ok (.if_icmp .ge 172, 3) := by decide +kernel
theorem dL_make_30 : decode cL_make 30 = .ok (.aload_n 0, 1) := by decide +kernel
theorem dL_make_31 : decode cL_make 31 = .ok (.iload_n 3, 1) := by decide +kernel
theorem dL_make_32 : decode cL_make 32 = .ok (.iconst 0, 1) := by decide +kernel
theorem dL_make_33 : decode cL_make 33 = .ok (.iconst 1, 1) := by decide +kernel
theorem dL_make_34 : decode cL_make 34 = .ok (.aload_n 1, 1) := by decide +kernel
theorem dL_make_35 : decode cL_make 35 = .ok (.iconst 2, 1) := by decide +kernel
theorem dL_make_36 : decode cL_make 36 = .ok (.iload_n 3, 1) := by decide +kernel
theorem dL_make_37 : decode cL_make 37 = .ok (.iadd, 1) := by decide +kernel
theorem dL_make_38 : decode cL_make 38 = .ok (.invokestatic 9, 3) := by decide +kernel
theorem dL_make_41 : decode cL_make 41 = .ok (.bipush 9, 2) := by decide +kernel
theorem dL_make_43 : decode cL_make 43 = .ok (.invokestatic 15, 3) := by decide +kernel
theorem dL_make_46 : decode cL_make 46 = .ok (.iadd, 1) := by decide +kernel
theorem dL_make_47 : decode cL_make 47 = .ok (.invokevirtual 24, 3) := by decide +kernel
theorem dL_make_50 : decode cL_make 50 = .ok (.iconst 5, 1) := by decide +kernel
theorem dL_make_51 : decode cL_make 51 = .ok (.if_icmp .ne 110, 3) := by decide +kernel
theorem dL_make_54 : decode cL_make 54 = .ok (.aload_n 0, 1) := by decide +kernel
theorem dL_make_55 : decode cL_make 55 = .ok (.iload_n 3, 1) := by decide +kernel
theorem dL_make_56 : decode cL_make 56 = .ok (.iconst 1, 1) := by decide +kernel
theorem dL_make_57 : decode cL_make 57 = .ok (.iconst 1, 1) := by decide +kernel
theorem dL_make_58 : decode cL_make 58 = .ok (.aload_n 1, 1) := by decide +kernel
theorem dL_make_59 : decode cL_make 59 = .ok (.bipush 10, 2) := by decide +kernel
theorem dL_make_61 : decode cL_make 61 = .ok (.iload_n 3, 1) := by decide +kernel
theorem dL_make_62 : decode cL_make 62 = .ok (.iadd, 1) := by decide +kernel
theorem dL_make_63 : decode cL_make 63 = .ok (.invokestatic 9, 3) := by decide +kernel
theorem dL_make_66 : decode cL_make 66 = .ok (.bipush 9, 2) := by decide +kernel
theorem dL_make_68 : decode cL_make 68 = .ok (.invokestatic 15, 3) := by decide +kernel
theorem dL_make_71 : decode cL_make 71 = .ok (.iadd, 1) := by decide +kernel
theorem dL_make_72 : decode cL_make 72 = .ok (.invokevirtual 24, 3) := by decide +kernel
theorem dL_make_75 : decode cL_make 75 = .ok (.iconst 3, 1) := by decide +kernel
theorem dL_make_76 : decode cL_make 76 = .ok (.if_icmp .ne 85, 3) := by decide +kernel
theorem dL_make_79 : decode cL_make 79 = .ok (.aload_n 0, 1) := by decide +kernel
theorem dL_make_80 : decode cL_make 80 = .ok (.iload_n 3, 1) := by decide +kernel
theorem dL_make_81 : decode cL_make 81 = .ok (.iconst 2, 1) := by decide +kernel
theorem dL_make_82 : decode cL_make 82 = .ok (.aload_n 1, 1) := by decide +kernel
theorem dL_make_83 : decode cL_make 83 = .ok (.bipush 20, 2) := by decide +kernel
theorem dL_make_85 : decode cL_make 85 = .ok (.iload_n 3, 1) := by decide +kernel
theorem dL_make_86 : decode cL_make 86 = .ok (.iadd, 1) := by decide +kernel
theorem dL_make_87 : decode cL_make 87 = .ok (.invokestatic 9, 3) := by decide +kernel
theorem dL_make_90 : decode cL_make 90 = .ok (.aload_n 1, 1) := by decide +kernel
theorem dL_make_91 : decode cL_make 91 = .ok (.bipush 26, 2) := by decide +kernel
theorem dL_make_93 : decode cL_make 93 = .ok (.invokestatic 9, 3) := by decide +kernel
theorem dL_make_96 : decode cL_make 96 = .ok (.iconst 2, 1) := by decide +kernel
theorem dL_make_97 : decode cL_make 97 = .ok (.invokestatic 15, 3) := by decide +kernel
theorem dL_make_100 : decode cL_make 100 = .ok (.ifCond .ne 9, 3) := by decide +kernel
theorem dL_make_103 : decode cL_make 103 = .ok (.sipush 201, 3) := by decide +kernel
theorem dL_make_106 : decode cL_make 106 = .ok (.goto 5, 3) := by decide +kernel
theorem dL_make_109 : decode cL_make 109 = .ok (.bipush 20, 2) := by decide +kernel
theorem dL_make_111 : decode cL_make 111 = .ok (.invokestatic 15, 3) := by decide +kernel
theorem dL_make_114 : decode cL_make 114 = .ok (.invokevirtual 24, 3) := by decide +kernel
theorem dL_make_117 : decode cL_make 117 = .ok (.ifCond .ne 44, 3) := by decide +kernel
theorem dL_make_120 : decode cL_make 120 = .ok (.aload_n 0, 1) := by decide +kernel
theorem dL_make_121 : decode cL_make 121 = .ok (.iload_n 3, 1) := by decide +kernel
theorem dL_make_122 : decode cL_make 122 = .ok (.iconst 3, 1) := by decide +kernel
theorem dL_make_123 : decode cL_make 123 = .ok (.aload_n 1, 1) := by decide +kernel
theorem dL_make_124 : decode cL_make 124 = .ok (.bipush 30, 2) := by decide +kernel
theorem dL_make_126 : decode cL_make 126 = .ok (.iload_n 3, 1) := by decide +kernel
theorem dL_make_127 : decode cL_make 127 = .ok (.iadd, 1) := by decide +kernel
theorem dL_make_128 : decode cL_make 128 = .ok (.invokestatic 9, 3) := by decide +kernel
theorem dL_make_131 : decode cL_make 131 = .ok (.aload_n 1, 1) := by decide +kernel
theorem dL_make_132 : decode cL_make 132 = .ok (.bipush 27, 2) := by decide +kernel
theorem dL_make_134 : decode cL_make 134 = .ok (.invokestatic 9, 3) := by decide +kernel
theorem dL_make_137 : decode cL_make 137 = .ok (.iconst 2, 1) := by decide +kernel
theorem dL_make_138 : decode cL_make 138 = .ok (.invokestatic 15, 3) := by decide +kernel
theorem dL_make_141 : decode cL_make 141 = .ok (.ifCond .ne 9, 3) := by decide +kernel
theorem dL_make_144 : decode cL_make 144 = .ok (.sipush 201, 3) := by decide +kernel
theorem dL_make_147 : decode cL_make 147 = .ok (.goto 5, 3) := by decide +kernel
theorem dL_make_150 : decode cL_make 150 = .ok (.bipush 10, 2) := by decide +kernel
theorem dL_make_152 : decode cL_make 152 = .ok (.invokestatic 15, 3) := by decide +kernel
theorem dL_make_155 : decode cL_make 155 = .ok (.invokevirtual 24, 3) := by decide +kernel
theorem dL_make_158 : decode cL_make 158 = .ok (.ifCond .eq 5, 3) := by decide +kernel
theorem dL_make_161 : decode cL_make 161 = .ok (.iconst 0, 1) := by decide +kernel
theorem dL_make_162 : decode cL_make 162 = .ok (.ireturn, 1) := by decide +kernel
theorem dL_make_163 : decode cL_make 163 = .ok (.iload_n 3, 1) := by decide +kernel
theorem dL_make_164 : decode cL_make 164 = .ok (.ifCond .le 29, 3) := by decide +kernel
theorem dL_make_167 : decode cL_make 167 = .ok (.aload_n 1, 1) := by decide +kernel
theorem dL_make_168 : decode cL_make 168 = .ok (.bipush 40, 2) := by decide +kernel
theorem dL_make_170 : decode cL_make 170 = .ok (.iload_n 3, 1) := by decide +kernel
theorem dL_make_171 : decode cL_make 171 = .ok (.iadd, 1) := by decide +kernel
theorem dL_make_172 : decode cL_make 172 = .ok (.invokestatic 9, 3) := by decide +kernel
theorem dL_make_175 : decode cL_make 175 = .ok (.iconst 5, 1) := by decide +kernel
theorem dL_make_176 : decode cL_make 176 = .ok (.invokestatic 15, 3) := by decide +kernel
theorem dL_make_179 : decode cL_make 179 = .ok (.ifCond .ne 14, 3) := by decide +kernel
theorem dL_make_182 : decode cL_make 182 = .ok (.aload_n 0, 1) := by decide +kernel
theorem dL_make_183 : decode cL_make 183 = .ok (.iload_n 3, 1) := by decide +kernel
theorem dL_make_184 : decode cL_make 184 = .ok (.iconst 1, 1) := by decide +kernel
theorem dL_make_185 : decode cL_make 185 = .ok (.invokevirtual 28, 3) := by decide +kernel
theorem dL_make_188 : decode cL_make 188 = .ok (.ifCond .eq 5, 3) := by decide +kernel
theorem dL_make_191 : decode cL_make 191 = .ok (.iconst 0, 1) := by decide +kernel
theorem dL_make_192 : decode cL_make 192 = .ok (.ireturn, 1) := by decide +kernel
theorem dL_make_193 : decode cL_make 193 = .ok (.iinc 3 1, 3) := by decide +kernel
theorem dL_make_196 : decode cL_make 196 = .ok (.goto (-171), 3) := by decide +kernel
theorem dL_make_199 : decode cL_make 199 = .ok (.iconst 1, 1) := by decide +kernel
theorem dL_make_200 : decode cL_make 200 = .ok (.ireturn, 1) := by decide +kernel
