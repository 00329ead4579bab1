theorem dX7_force_1 : decode cX7_force 1 = .ok (.getfield 10, 3) := by decide +kernel
theorem dX7_force_4 : decode cX7_force 4 = .ok (.iload_n 1, 1) := by decide +kernel
theorem dX7_force_5 : decode cX7_force 5 = .ok (.invokevirtual 76, 3) := by decide +kernel
theorem dX7_force_8 : decode cX7_force 8 = .ok (.ifCond .ne 7, 3) := by decide +kernel
theorem dX7_force_11 : decode cX7_force 11 = .ok (.ldc2_w 126, 3) := by decide +kernel
theorem dX7_force_14 : decode cX7_force 14 = .ok (.lreturn, 1) := by decide +kernel
theorem dX7_force_15 : decode cX7_force 15 = .ok (.iload_n 2, 1) := by decide +kernel
theorem dX7_force_16 : decode cX7_force 16 = .ok (.iconst 0, 1) := by decide +kernel
theorem dX7_force_17 : decode cX7_force 17 = .ok (.iconst 2, 1) := by decide +kernel
theorem dX7_force_18 : decode cX7_force 18 = .ok (.invokestatic 62, 3) := by decide +kernel
theorem dX7_force_21 : decode cX7_force 21 = .ok (.ifCond .eq 12, 3) := by decide +kernel
theorem dX7_force_24 : decode cX7_force 24 = .ok (.iload_n 3, 1) := by decide +kernel
theorem dX7_force_25 : decode cX7_force 25 = .ok (.iconst 0, 1) := by decide +kernel
theorem dX7_force_26 : decode cX7_force 26 = .ok (.iconst 1, 1) := by decide +kernel
theorem dX7_force_27 : decode cX7_force 27 = .ok (.invokestatic 62, 3) := by decide +kernel
theorem dX7_force_30 : decode cX7_force 30 = .ok (.ifCond .ne 7, 3) := by decide +kernel
theorem dX7_force_33 : decode cX7_force 33 = .ok (.ldc2_w 128, 3) := by decide +kernel
theorem dX7_force_36 : decode cX7_force 36 = .ok (.lreturn, 1) := by decide +kernel
theorem dX7_force_37 : decode cX7_force 37 = .ok (.aload_n 0, 1) := by decide +kernel
theorem dX7_force_38 : decode cX7_force 38 = .ok (.getfield 19, 3) := by decide +kernel
theorem dX7_force_41 : decode cX7_force 41 = .ok (.aload_n 0, 1) := by decide +kernel
theorem dX7_force_42 : decode cX7_force 42 = .ok (.getfield 10, 3) := by decide +kernel
theorem dX7_force_45 : decode cX7_force 45 = .ok (.aload_n 0, 1) := by decide +kernel
theorem dX7_force_46 : decode cX7_force 46 = .ok (.getfield 10, 3) := by decide +kernel
theorem dX7_force_49 : decode cX7_force 49 = .ok (.getfield 108, 3) := by decide +kernel
theorem dX7_force_52 : decode cX7_force 52 = .ok (.invokevirtual 112, 3) := by decide +kernel
theorem dX7_force_55 : decode cX7_force 55 = .ok (.aload_n 0, 1) := by decide +kernel
theorem dX7_force_56 : decode cX7_force 56 = .ok (.getfield 19, 3) := by decide +kernel
theorem dX7_force_59 : decode cX7_force 59 = .ok (.getfield 130, 3) := by decide +kernel
theorem dX7_force_62 : decode cX7_force 62 = .ok (.iload_n 1, 1) := by decide +kernel
theorem dX7_force_63 : decode cX7_force 63 = .ok (.laload, 1) := by decide +kernel
theorem dX7_force_64 : decode cX7_force 64 = .ok (.lstore 4, 2) := by decide +kernel
theorem dX7_force_66 : decode cX7_force 66 = .ok (.iload_n 2, 1) := by decide +kernel
theorem dX7_force_67 : decode cX7_force 67 = .ok (.ifCond .ne 20, 3) := by decide +kernel
theorem dX7_force_70 : decode cX7_force 70 = .ok (.aload_n 0, 1) := by decide +kernel
theorem dX7_force_71 : decode cX7_force 71 = .ok (.getfield 19, 3) := by decide +kernel
theorem dX7_force_74 : decode cX7_force 74 = .ok (.aload_n 0, 1) := by decide +kernel
theorem dX7_force_75 : decode cX7_force 75 = .ok (.getfield 10, 3) := by decide +kernel
theorem dX7_force_78 : decode cX7_force 78 = .ok (.iload_n 1, 1) := by decide +kernel
theorem dX7_force_79 : decode cX7_force 79 = .ok (.invokevirtual 116, 3) := by decide +kernel
theorem dX7_force_82 : decode cX7_force 82 = .ok (.lstore 4, 2) := by decide +kernel
theorem dX7_force_84 : decode cX7_force 84 = .ok (.goto 22, 3) := by decide +kernel
theorem dX7_force_87 : decode cX7_force 87 = .ok (.iload_n 2, 1) := by decide +kernel
theorem dX7_force_88 : decode cX7_force 88 = .ok (.iconst 1, 1) := by decide +kernel
theorem dX7_force_89 : decode cX7_force 89 = .ok (.if_icmp .ne 17, 3) := by decide +kernel
theorem dX7_force_92 : decode cX7_force 92 = .ok (.aload_n 0, 1) := by decide +kernel
theorem dX7_force_93 : decode cX7_force 93 = .ok (.getfield 19, 3) := by decide +kernel
theorem dX7_force_96 : decode cX7_force 96 = .ok (.aload_n 0, 1) := by decide +kernel
theorem dX7_force_97 : decode cX7_force 97 = .ok (.getfield 10, 3) := by decide +kernel
theorem dX7_force_100 : decode cX7_force 100 = .ok (.iload_n 1, 1) := by decide +kernel
theorem dX7_force_101 : decode cX7_force 101 = .ok (.invokevirtual 120, 3) := by decide +kernel
theorem dX7_force_104 : decode cX7_force 104 = .ok (.lstore 4, 2) := by decide +kernel
theorem dX7_force_106 : decode cX7_force 106 = .ok (.lload 4, 2) := by decide +kernel
theorem dX7_force_108 : decode cX7_force 108 = .ok (.aload_n 0, 1) := by decide +kernel
theorem dX7_force_109 : decode cX7_force 109 = .ok (.getfield 19, 3) := by decide +kernel
theorem dX7_force_112 : decode cX7_force 112 = .ok (.getfield 134, 3) := by decide +kernel
theorem dX7_force_115 : decode cX7_force 115 = .ok (.iload_n 3, 1) := by decide +kernel
theorem dX7_force_116 : decode cX7_force 116 = .ok (.invokestatic 138, 3) := by decide +kernel
theorem dX7_force_119 : decode cX7_force 119 = .ok (.lreturn, 1) := by decide +kernel
set_option maxRecDepth 20000 in
theorem ggX7_count_J6_bitCount_0f7a4 : GoodIn wsX7_count wsJ6_bitCount_0f7a4 := goodIn_r _ [18, 19, 20, 21] (by decide +kernel) (by decide +kernel)
set_option maxRecDepth 20000 in
theorem gX7_count_J6_bitCount_0f7a4 : GoodIn wsX7_count (va_wsS RX7 148 yJ6_bitCount_0f7a4 wsJ6_bitCount_0f7a4) := goodIn_app (goodIn_of _ (by decide +kernel)) ggX7_count_J6_bitCount_0f7a4
set_option maxRecDepth 20000 in
theorem ggX7_count_X3_settle : GoodIn wsX7_count wsX3_settle := goodIn_r _ [26, 27, 28, 29, 25, 30, 31, 32, 33, 34, 35, 36, 37, 38, 39, 40, 41, 42, 43, 44, 45, 46, 47, 48, 49, 50, 51, 52, 53, 54, 55, 56, 57, 58, 59, 60, 61, 62, 63, 64, 65, 66, 67, 68, 69, 110, 111, 112, 113, 114, 115, 116, 117, 137, 138, 139, 140, 141, 142] (by decide +kernel) (by decide +kernel)
set_option maxRecDepth 20000 in
theorem gX7_count_X3_settle : GoodIn wsX7_count (wsV RX7 112 RX3 yX3_settle wsX3_settle) := goodIn_app (goodIn_of _ (by decide +kernel)) ggX7_count_X3_settle
set_option maxRecDepth 20000 in
theorem ggX7_count_X3_slackCount : GoodIn wsX7_count wsX3_slackCount := goodIn_r _ [73, 33, 74, 75, 76, 25, 77, 46, 60, 47, 61, 78, 79, 80, 81, 82, 83, 84, 38, 85, 86, 87, 88, 89, 110, 111, 112, 113, 114, 115, 116, 117, 137, 138, 139, 140, 141, 142] (by decide +kernel) (by decide +kernel)
set_option maxRecDepth 20000 in
theorem gX7_count_X3_slackCount : GoodIn wsX7_count (wsV RX7 153 RX3 yX3_slackCount wsX3_slackCount) := goodIn_app (goodIn_of _ (by decide +kernel)) ggX7_count_X3_slackCount
set_option maxRecDepth 20000 in
theorem ggX7_count_X3_openCount : GoodIn wsX7_count wsX3_openCount := goodIn_r _ [93, 33, 94, 95, 96, 25, 97, 48, 61, 78, 79, 80, 81, 87, 88, 89, 110, 111, 112, 113, 114, 115, 116, 117, 137, 138, 139, 140, 141, 142] (by decide +kernel) (by decide +kernel)
set_option maxRecDepth 20000 in
theorem gX7_count_X3_openCount : GoodIn wsX7_count (wsV RX7 157 RX3 yX3_openCount wsX3_openCount) := goodIn_app (goodIn_of _ (by decide +kernel)) ggX7_count_X3_openCount
set_option maxRecDepth 20000 in
theorem ggX7_count_X2_sumOf : GoodIn wsX7_count wsX2_sumOf := goodIn_r _ [101, 40, 110, 111, 112, 113, 114, 115, 116, 117] (by decide +kernel) (by decide +kernel)
set_option maxRecDepth 20000 in
theorem gX7_count_X2_sumOf : GoodIn wsX7_count (wsV RX7 163 RX2 yX2_sumOf wsX2_sumOf) := goodIn_app (goodIn_of _ (by decide +kernel)) ggX7_count_X2_sumOf
theorem dX7_count_0 : decode cX7_count 0 = .ok (.iload_n 1, 1) := by decide +kernel
theorem dX7_count_1 : decode cX7_count 1 = .ok (.tableswitch 177 0 8 #[51, 59, 70, 100, 130, 145, 153, 164, 172], 51) := by decide +kernel
theorem dX7_count_52 : decode cX7_count 52 = .ok (.aload_n 0, 1) := by decide +kernel
theorem dX7_count_53 : decode cX7_count 53 = .ok (.getfield 10, 3) := by decide +kernel
theorem dX7_count_56 : decode cX7_count 56 = .ok (.getfield 142, 3) := by decide +kernel
theorem dX7_count_59 : decode cX7_count 59 = .ok (.ireturn, 1) := by decide +kernel
theorem dX7_count_60 : decode cX7_count 60 = .ok (.aload_n 0, 1) := by decide +kernel
theorem dX7_count_61 : decode cX7_count 61 = .ok (.getfield 10, 3) := by decide +kernel
theorem dX7_count_64 : decode cX7_count 64 = .ok (.getfield 145, 3) := by decide +kernel
theorem dX7_count_67 : decode cX7_count 67 = .ok (.invokestatic 148, 3) := by decide +kernel
theorem dX7_count_70 : decode cX7_count 70 = .ok (.ireturn, 1) := by decide +kernel
theorem dX7_count_71 : decode cX7_count 71 = .ok (.aload_n 0, 1) := by decide +kernel
theorem dX7_count_72 : decode cX7_count 72 = .ok (.getfield 19, 3) := by decide +kernel
theorem dX7_count_75 : decode cX7_count 75 = .ok (.aload_n 0, 1) := by decide +kernel
theorem dX7_count_76 : decode cX7_count 76 = .ok (.getfield 10, 3) := by decide +kernel
theorem dX7_count_79 : decode cX7_count 79 = .ok (.aload_n 0, 1) := by decide +kernel
theorem dX7_count_80 : decode cX7_count 80 = .ok (.getfield 10, 3) := by decide +kernel
theorem dX7_count_83 : decode cX7_count 83 = .ok (.getfield 108, 3) := by decide +kernel
theorem dX7_count_86 : decode cX7_count 86 = .ok (.invokevirtual 112, 3) := by decide +kernel
theorem dX7_count_89 : decode cX7_count 89 = .ok (.aload_n 0, 1) := by decide +kernel
theorem dX7_count_90 : decode cX7_count 90 = .ok (.getfield 19, 3) := by decide +kernel
theorem dX7_count_93 : decode cX7_count 93 = .ok (.aload_n 0, 1) := by decide +kernel
theorem dX7_count_94 : decode cX7_count 94 = .ok (.getfield 10, 3) := by decide +kernel
theorem dX7_count_97 : decode cX7_count 97 = .ok (.invokevirtual 153, 3) := by decide +kernel
theorem dX7_count_100 : decode cX7_count 100 = .ok (.ireturn, 1) := by decide +kernel
theorem dX7_count_101 : decode cX7_count 101 = .ok (.aload_n 0, 1) := by decide +kernel
theorem dX7_count_102 : decode cX7_count 102 = .ok (.getfield 19, 3) := by decide +kernel
theorem dX7_count_105 : decode cX7_count 105 = .ok (.aload_n 0, 1) := by decide +kernel
theorem dX7_count_106 : decode cX7_count 106 = .ok (.getfield 10, 3) := by decide +kernel
theorem dX7_count_109 : decode cX7_count 109 = .ok (.aload_n 0, 1) := by decide +kernel
theorem dX7_count_110 : decode cX7_count 110 = .ok (.getfield 10, 3) := by decide +kernel
theorem dX7_count_113 : decode cX7_count 113 = .ok (.getfield 108, 3) := by decide +kernel
theorem dX7_count_116 : decode cX7_count 116 = .ok (.invokevirtual 112, 3) := by decide +kernel
theorem dX7_count_119 : decode cX7_count 119 = .ok (.aload_n 0, 1) := by decide +kernel
theorem dX7_count_120 : decode cX7_count 120 = .ok (.getfield 19, 3) := by decide +kernel
theorem dX7_count_123 : decode cX7_count 123 = .ok (.aload_n 0, 1) := by decide +kernel
theorem dX7_count_124 : decode cX7_count 124 = .ok (.getfield 10, 3) := by decide +kernel
theorem dX7_count_127 : decode cX7_count 127 = .ok (.invokevirtual 157, 3) := by decide +kernel
theorem dX7_count_130 : decode cX7_count 130 = .ok (.ireturn, 1) := by decide +kernel
theorem dX7_count_131 : decode cX7_count 131 = .ok (.aload_n 0, 1) := by decide +kernel
theorem dX7_count_132 : decode cX7_count 132 = .ok (.getfield 10, 3) := by decide +kernel
theorem dX7_count_135 : decode cX7_count 135 = .ok (.aload_n 0, 1) := by decide +kernel
theorem dX7_count_136 : decode cX7_count 136 = .ok (.getfield 10, 3) := by decide +kernel
theorem dX7_count_139 : decode cX7_count 139 = .ok (.getfield 160, 3) := by decide +kernel
theorem dX7_count_142 : decode cX7_count 142 = .ok (.invokevirtual 163, 3) := by decide +kernel
theorem dX7_count_145 : decode cX7_count 145 = .ok (.ireturn, 1) := by decide +kernel
theorem dX7_count_146 : decode cX7_count 146 = .ok (.aload_n 0, 1) := by decide +kernel
theorem dX7_count_147 : decode cX7_count 147 = .ok (.getfield 33, 3) := by decide +kernel
theorem dX7_count_150 : decode cX7_count 150 = .ok (.getfield 67, 3) := by decide +kernel
theorem dX7_count_153 : decode cX7_count 153 = .ok (.ireturn, 1) := by decide +kernel
theorem dX7_count_154 : decode cX7_count 154 = .ok (.aload_n 0, 1) := by decide +kernel
theorem dX7_count_155 : decode cX7_count 155 = .ok (.getfield 47, 3) := by decide +kernel
theorem dX7_count_158 : decode cX7_count 158 = .ok (.getfield 73, 3) := by decide +kernel
theorem dX7_count_161 : decode cX7_count 161 = .ok (.invokestatic 148, 3) := by decide +kernel
theorem dX7_count_164 : decode cX7_count 164 = .ok (.ireturn, 1) := by decide +kernel
theorem dX7_count_165 : decode cX7_count 165 = .ok (.aload_n 0, 1) := by decide +kernel
theorem dX7_count_166 : decode cX7_count 166 = .ok (.getfield 54, 3) := by decide +kernel
theorem dX7_count_169 : decode cX7_count 169 = .ok (.getfield 167, 3) := by decide +kernel
theorem dX7_count_172 : decode cX7_count 172 = .ok (.ireturn, 1) := by decide +kernel
theorem dX7_count_173 : decode cX7_count 173 = .ok (.aload_n 0, 1) := by decide +kernel
theorem dX7_count_174 : decode cX7_count 174 = .ok (.getfield 170, 3) := by decide +kernel
theorem dX7_count_177 : decode cX7_count 177 = .ok (.ireturn, 1) := by decide +kernel
theorem dX7_count_178 : decode cX7_count 178 = .ok (.ldc 66, 2) := by decide +kernel
theorem dX7_count_180 : decode cX7_count 180 = .ok (.ireturn, 1) := by decide +kernel
set_option maxRecDepth 20000 in
theorem ggX7_draw_X2_has : GoodIn wsX7_draw wsX2_has := goodIn_r _ [10, 11, 104, 105, 106, 107, 108, 109, 110, 111] (by decide +kernel) (by decide +kernel)
set_option maxRecDepth 20000 in
theorem gX7_draw_X2_has : GoodIn wsX7_draw (wsV RX7 76 RX2 yX2_has wsX2_has) := goodIn_app (goodIn_of _ (by decide +kernel)) ggX7_draw_X2_has
set_option maxRecDepth 20000 in
theorem ggX7_draw_X7_within : GoodIn wsX7_draw wsX7_within := goodIn_r _ [15] (by decide +kernel) (by decide +kernel)
set_option maxRecDepth 20000 in
theorem gX7_draw_X7_within : GoodIn wsX7_draw (va_wsS RX7 62 yX7_within wsX7_within) := goodIn_app (goodIn_of _ (by decide +kernel)) ggX7_draw_X7_within
set_option maxRecDepth 20000 in
theorem ggX7_draw_X2_isBroken : GoodIn wsX7_draw wsX2_isBroken := goodIn_r _ [19, 20, 104, 105, 106, 107, 108, 109, 110, 111] (by decide +kernel) (by decide +kernel)
set_option maxRecDepth 20000 in
theorem gX7_draw_X2_isBroken : GoodIn wsX7_draw (wsV RX7 92 RX2 yX2_isBroken wsX2_isBroken) := goodIn_app (goodIn_of _ (by decide +kernel)) ggX7_draw_X2_isBroken
set_option maxRecDepth 20000 in
theorem ggX7_draw_X1_drawBolt : GoodIn wsX7_draw wsX1_drawBolt := goodIn_r _ [25, 26, 27, 28, 29, 30, 31, 32, 33, 34, 35, 36, 37, 38, 39, 9, 40, 11, 20, 41, 42, 43, 44, 45, 46, 47, 48, 49, 50, 51, 52, 53, 54, 55, 56, 57, 58, 59, 60, 61, 62, 63, 64, 65, 66, 67, 68, 69, 70, 71, 72, 73, 74, 75, 76, 77, 78, 79, 80, 81, 82, 83, 84, 85, 86, 87, 88, 89, 90, 91, 92, 93, 94, 14, 95, 104, 105, 106, 107, 108, 109, 110, 111, 112, 113, 114, 115, 116, 117, 118, 119, 120, 121, 122, 123, 124] (by decide +kernel) (by decide +kernel)
set_option maxRecDepth 20000 in
theorem gX7_draw_X1_drawBolt : GoodIn wsX7_draw (wsV RX7 173 RX1 yX1_drawBolt wsX1_drawBolt) := goodIn_app (goodIn_of _ (by decide +kernel)) ggX7_draw_X1_drawBolt
theorem dX7_draw_0 : decode cX7_draw 0 = .ok (.aload_n 0, 1) := by decide +kernel
theorem dX7_draw_1 : decode cX7_draw 1 = .ok (.getfield 10, 3) := by decide +kernel
theorem dX7_draw_4 : decode cX7_draw 4 = .ok (.iload_n 1, 1) := by decide +kernel
theorem dX7_draw_5 : decode cX7_draw 5 = .ok (.invokevirtual 76, 3) := by decide +kernel
theorem dX7_draw_8 : decode cX7_draw 8 = .ok (.ifCond .ne 6, 3) := by decide +kernel
theorem dX7_draw_11 : decode cX7_draw 11 = .ok (.ldc 80, 2) := by decide +kernel
theorem dX7_draw_13 : decode cX7_draw 13 = .ok (.ireturn, 1) := by decide +kernel
theorem dX7_draw_14 : decode cX7_draw 14 = .ok (.iload_n 2, 1) := by decide +kernel
theorem dX7_draw_15 : decode cX7_draw 15 = .ok (.iconst 1, 1) := by decide +kernel
theorem dX7_draw_16 : decode cX7_draw 16 = .ok (.sipush 900, 3) := by decide +kernel
theorem dX7_draw_19 : decode cX7_draw 19 = .ok (.invokestatic 62, 3) := by decide +kernel
theorem dX7_draw_22 : decode cX7_draw 22 = .ok (.ifCond .ne 6, 3) := by decide +kernel
theorem dX7_draw_25 : decode cX7_draw 25 = .ok (.ldc 66, 2) := by decide +kernel
theorem dX7_draw_27 : decode cX7_draw 27 = .ok (.ireturn, 1) := by decide +kernel
theorem dX7_draw_28 : decode cX7_draw 28 = .ok (.aload_n 0, 1) := by decide +kernel
theorem dX7_draw_29 : decode cX7_draw 29 = .ok (.getfield 10, 3) := by decide +kernel
theorem dX7_draw_32 : decode cX7_draw 32 = .ok (.iload_n 1, 1) := by decide +kernel
theorem dX7_draw_33 : decode cX7_draw 33 = .ok (.invokevirtual 92, 3) := by decide +kernel
theorem dX7_draw_36 : decode cX7_draw 36 = .ok (.ifCond .eq 7, 3) := by decide +kernel
theorem dX7_draw_39 : decode cX7_draw 39 = .ok (.iconst (-1), 1) := by decide +kernel
theorem dX7_draw_40 : decode cX7_draw 40 = .ok (.goto 16, 3) := by decide +kernel
theorem dX7_draw_43 : decode cX7_draw 43 = .ok (.aload_n 0, 1) := by decide +kernel
theorem dX7_draw_44 : decode cX7_draw 44 = .ok (.getfield 26, 3) := by decide +kernel
theorem dX7_draw_47 : decode cX7_draw 47 = .ok (.aload_n 0, 1) := by decide +kernel
theorem dX7_draw_48 : decode cX7_draw 48 = .ok (.getfield 10, 3) := by decide +kernel
theorem dX7_draw_51 : decode cX7_draw 51 = .ok (.iload_n 1, 1) := by decide +kernel
theorem dX7_draw_52 : decode cX7_draw 52 = .ok (.iload_n 2, 1) := by decide +kernel
theorem dX7_draw_53 : decode cX7_draw 53 = .ok (.invokevirtual 173, 3) := by decide +kernel
theorem dX7_draw_56 : decode cX7_draw 56 = .ok (.istore_n 3, 1) := by decide +kernel
theorem dX7_draw_57 : decode cX7_draw 57 = .ok (.iload_n 3, 1) := by decide +kernel
theorem dX7_draw_58 : decode cX7_draw 58 = .ok (.iconst (-1), 1) := by decide +kernel
theorem dX7_draw_59 : decode cX7_draw 59 = .ok (.if_icmp .ne 8, 3) := by decide +kernel
theorem dX7_draw_62 : decode cX7_draw 62 = .ok (.ldc 99, 2) := by decide +kernel
theorem dX7_draw_64 : decode cX7_draw 64 = .ok (.goto 4, 3) := by decide +kernel
theorem dX7_draw_67 : decode cX7_draw 67 = .ok (.iload_n 3, 1) := by decide +kernel
theorem dX7_draw_68 : decode cX7_draw 68 = .ok (.ireturn, 1) := by decide +kernel
set_option maxRecDepth 20000 in
theorem ggX7_row_X2_takeRow : GoodIn wsX7_row wsX2_takeRow := goodIn_r _ [7, 8, 9, 10, 11, 12, 6, 13, 14, 15, 16, 17, 26, 27, 28, 29, 30, 31, 32, 33] (by decide +kernel) (by decide +kernel)
set_option maxRecDepth 20000 in
theorem gX7_row_X2_takeRow : GoodIn wsX7_row (wsV RX7 177 RX2 yX2_takeRow wsX2_takeRow) := goodIn_app (goodIn_of _ (by decide +kernel)) ggX7_row_X2_takeRow
theorem dX7_row_0 : decode cX7_row 0 = .ok (.aload_n 0, 1) := by decide +kernel
theorem dX7_row_1 : decode cX7_row 1 = .ok (.getfield 10, 3) := by decide +kernel
theorem dX7_row_4 : decode cX7_row 4 = .ok (.iload_n 1, 1) := by decide +kernel
theorem dX7_row_5 : decode cX7_row 5 = .ok (.invokevirtual 177, 3) := by decide +kernel
theorem dX7_row_8 : decode cX7_row 8 = .ok (.ifCond .eq 7, 3) := by decide +kernel
theorem dX7_row_11 : decode cX7_row 11 = .ok (.iconst 1, 1) := by decide +kernel
theorem dX7_row_12 : decode cX7_row 12 = .ok (.goto 5, 3) := by decide +kernel
theorem dX7_row_15 : decode cX7_row 15 = .ok (.ldc 66, 2) := by decide +kernel
theorem dX7_row_17 : decode cX7_row 17 = .ok (.ireturn, 1) := by decide +kernel
set_option maxRecDepth 20000 in
theorem ggX7_pass_X7_within : GoodIn wsX7_pass wsX7_within := goodIn_r _ [9] (by decide +kernel) (by decide +kernel)
set_option maxRecDepth 20000 in
theorem gX7_pass_X7_within : GoodIn wsX7_pass (va_wsS RX7 62 yX7_within wsX7_within) := goodIn_app (goodIn_of _ (by decide +kernel)) ggX7_pass_X7_within
set_option maxRecDepth 20000 in
theorem ggX7_pass_X1_goRound : GoodIn wsX7_pass wsX1_goRound := goodIn_r _ [14, 15, 16, 17, 18, 19, 20, 21, 22, 23, 24, 13, 25, 26, 27, 28, 29, 30, 31, 32, 33, 34, 35, 36, 37, 38, 39, 40, 41, 42, 43, 44, 45, 46, 47, 48, 49, 50, 51, 52, 53, 54, 55, 56, 57, 58, 59, 60, 61, 62, 63, 64, 65, 66, 67, 68, 69, 70, 71, 72, 73, 74, 75, 76, 77, 78, 79, 80, 81, 82, 83, 84, 85, 86, 87, 88, 89, 90, 91, 92, 93, 94, 95, 8, 96, 105, 106, 107, 108, 109, 110, 111, 112, 113, 114, 115, 116, 117, 118, 119, 120, 121, 122, 123, 124, 125] (by decide +kernel) (by decide +kernel)
set_option maxRecDepth 20000 in
theorem gX7_pass_X1_goRound : GoodIn wsX7_pass (wsV RX7 183 RX1 yX1_goRound wsX1_goRound) := goodIn_app (goodIn_of _ (by decide +kernel)) ggX7_pass_X1_goRound
theorem dX7_pass_0 : decode cX7_pass 0 = .ok (.iload_n 1, 1) := by decide +kernel
theorem dX7_pass_1 : decode cX7_pass 1 = .ok (.iconst 1, 1) := by decide +kernel
theorem dX7_pass_2 : decode cX7_pass 2 = .ok (.sipush 900, 3) := by decide +kernel
theorem dX7_pass_5 : decode cX7_pass 5 = .ok (.invokestatic 62, 3) := by decide +kernel
theorem dX7_pass_8 : decode cX7_pass 8 = .ok (.ifCond .ne 6, 3) := by decide +kernel
theorem dX7_pass_11 : decode cX7_pass 11 = .ok (.ldc 66, 2) := by decide +kernel
theorem dX7_pass_13 : decode cX7_pass 13 = .ok (.ireturn, 1) := by decide +kernel
theorem dX7_pass_14 : decode cX7_pass 14 = .ok (.aload_n 0, 1) := by decide +kernel
theorem dX7_pass_15 : decode cX7_pass 15 = .ok (.getfield 26, 3) := by decide +kernel
theorem dX7_pass_18 : decode cX7_pass 18 = .ok (.aload_n 0, 1) := by decide +kernel
theorem dX7_pass_19 : decode cX7_pass 19 = .ok (.getfield 10, 3) := by decide +kernel
theorem dX7_pass_22 : decode cX7_pass 22 = .ok (.aload_n 0, 1) := by decide +kernel
theorem dX7_pass_23 : decode cX7_pass 23 = .ok (.getfield 10, 3) := by decide +kernel
theorem dX7_pass_26 : decode cX7_pass 26 = .ok (.getfield 180, 3) := by decide +kernel
theorem dX7_pass_29 : decode cX7_pass 29 = .ok (.iload_n 1, 1) := by decide +kernel
theorem dX7_pass_30 : decode cX7_pass 30 = .ok (.invokevirtual 183, 3) := by decide +kernel
theorem dX7_pass_33 : decode cX7_pass 33 = .ok (.istore_n 2, 1) := by decide +kernel
theorem dX7_pass_34 : decode cX7_pass 34 = .ok (.iload_n 2, 1) := by decide +kernel
theorem dX7_pass_35 : decode cX7_pass 35 = .ok (.iconst (-1), 1) := by decide +kernel
theorem dX7_pass_36 : decode cX7_pass 36 = .ok (.if_icmp .ne 8, 3) := by decide +kernel
theorem dX7_pass_39 : decode cX7_pass 39 = .ok (.ldc 99, 2) := by decide +kernel
theorem dX7_pass_41 : decode cX7_pass 41 = .ok (.goto 4, 3) := by decide +kernel
theorem dX7_pass_44 : decode cX7_pass 44 = .ok (.iload_n 2, 1) := by decide +kernel
theorem dX7_pass_45 : decode cX7_pass 45 = .ok (.ireturn, 1) := by decide +kernel
set_option maxRecDepth 20000 in
theorem ggX7_passes_X7_within : GoodIn wsX7_passes wsX7_within := goodIn_r _ [9] (by decide +kernel) (by decide +kernel)
set_option maxRecDepth 20000 in
theorem gX7_passes_X7_within : GoodIn wsX7_passes (va_wsS RX7 62 yX7_within wsX7_within) := goodIn_app (goodIn_of _ (by decide +kernel)) ggX7_passes_X7_within
set_option maxRecDepth 20000 in
theorem ggX7_passes_X1_keepTurns : GoodIn wsX7_passes wsX1_keepTurns := goodIn_r _ [14, 15, 16, 17, 18, 19, 20, 137, 138, 139, 140, 141, 142, 143, 144, 145, 146, 147, 148, 149, 150, 151] (by decide +kernel) (by decide +kernel)
set_option maxRecDepth 20000 in
theorem gX7_passes_X1_keepTurns : GoodIn wsX7_passes (wsV RX7 187 RX1 yX1_keepTurns wsX1_keepTurns) := goodIn_app (goodIn_of _ (by decide +kernel)) ggX7_passes_X1_keepTurns
set_option maxRecDepth 20000 in
theorem ggX7_passes_X1_goRounds : GoodIn wsX7_passes wsX1_goRounds := goodIn_r _ [24, 25, 26, 27, 13, 28, 29, 30, 31, 32, 33, 34, 35, 36, 37, 38, 39, 40, 41, 42, 43, 44, 45, 46, 47, 48, 49, 50, 51, 52, 53, 54, 55, 56, 57, 58, 59, 60, 61, 62, 63, 64, 65, 66, 67, 68, 69, 70, 71, 72, 73, 74, 75, 76, 77, 78, 79, 80, 81, 82, 83, 84, 85, 86, 87, 88, 89, 90, 91, 92, 93, 94, 95, 96, 97, 98, 99, 100, 101, 102, 103, 104, 15, 105, 106, 107, 108, 109, 110, 111, 112, 113, 114, 115, 116, 117, 118, 119, 120, 121, 122, 123, 8, 124, 145, 146, 147, 148, 149, 150, 151, 137, 138, 139, 140, 141, 142, 143, 144, 152, 153, 154, 155, 156, 157] (by decide +kernel) (by decide +kernel)
set_option maxRecDepth 20000 in
theorem gX7_passes_X1_goRounds : GoodIn wsX7_passes (wsV RX7 191 RX1 yX1_goRounds wsX1_goRounds) := goodIn_app (goodIn_of _ (by decide +kernel)) ggX7_passes_X1_goRounds
set_option maxRecDepth 20000 in
theorem ggX7_passes_X1_putTurnsBack : GoodIn wsX7_passes wsX1_putTurnsBack := goodIn_r _ [128, 16, 15, 17, 18, 19, 20, 145, 146, 147, 148, 149, 150, 151, 137, 138, 139, 140, 141, 142, 143, 144] (by decide +kernel) (by decide +kernel)
set_option maxRecDepth 20000 in
theorem gX7_passes_X1_putTurnsBack : GoodIn wsX7_passes (wsV RX7 195 RX1 yX1_putTurnsBack wsX1_putTurnsBack) := goodIn_app (goodIn_of _ (by decide +kernel)) ggX7_passes_X1_putTurnsBack
theorem dX7_passes_0 : decode cX7_passes 0 = .ok (.iload_n 1, 1) := by decide +kernel
theorem dX7_passes_1 : decode cX7_passes 1 = .ok (.iconst 1, 1) := by decide +kernel
theorem dX7_passes_2 : decode cX7_passes 2 = .ok (.sipush 900, 3) := by decide +kernel
theorem dX7_passes_5 : decode cX7_passes 5 = .ok (.invokestatic 62, 3) := by decide +kernel
theorem dX7_passes_8 : decode cX7_passes 8 = .ok (.ifCond .ne 6, 3) := by decide +kernel
theorem dX7_passes_11 : decode cX7_passes 11 = .ok (.ldc 66, 2) := by decide +kernel
theorem dX7_passes_13 : decode cX7_passes 13 = .ok (.ireturn, 1) := by decide +kernel
theorem dX7_passes_14 : decode cX7_passes 14 = .ok (.aload_n 0, 1) := by decide +kernel
theorem dX7_passes_15 : decode cX7_passes 15 = .ok (.getfield 26, 3) := by decide +kernel
theorem dX7_passes_18 : decode cX7_passes 18 = .ok (.aload_n 0, 1) := by decide +kernel
theorem dX7_passes_19 : decode cX7_passes 19 = .ok (.getfield 10, 3) := by decide +kernel
theorem dX7_passes_22 : decode cX7_passes 22 = .ok (.invokevirtual 187, 3) := by decide +kernel
theorem dX7_passes_25 : decode cX7_passes 25 = .ok (.aload_n 0, 1) := by decide +kernel
theorem dX7_passes_26 : decode cX7_passes 26 = .ok (.getfield 26, 3) := by decide +kernel
theorem dX7_passes_29 : decode cX7_passes 29 = .ok (.aload_n 0, 1) := by decide +kernel
theorem dX7_passes_30 : decode cX7_passes 30 = .ok (.getfield 10, 3) := by decide +kernel
theorem dX7_passes_33 : decode cX7_passes 33 = .ok (.aload_n 0, 1) := by decide +kernel
theorem dX7_passes_34 : decode cX7_passes 34 = .ok (.getfield 10, 3) := by decide +kernel
theorem dX7_passes_37 : decode cX7_passes 37 = .ok (.getfield 180, 3) := by decide +kernel
theorem dX7_passes_40 : decode cX7_passes 40 = .ok (.iload_n 1, 1) := by decide +kernel
theorem dX7_passes_41 : decode cX7_passes 41 = .ok (.bipush 20, 2) := by decide +kernel
theorem dX7_passes_43 : decode cX7_passes 43 = .ok (.invokevirtual 191, 3) := by decide +kernel
theorem dX7_passes_46 : decode cX7_passes 46 = .ok (.istore_n 2, 1) := by decide +kernel
theorem dX7_passes_47 : decode cX7_passes 47 = .ok (.iload_n 2, 1) := by decide +kernel
theorem dX7_passes_48 : decode cX7_passes 48 = .ok (.iconst (-1), 1) := by decide +kernel
theorem dX7_passes_49 : decode cX7_passes 49 = .ok (.if_icmp .ne 17, 3) := by decide +kernel
theorem dX7_passes_52 : decode cX7_passes 52 = .ok (.aload_n 0, 1) := by decide +kernel
theorem dX7_passes_53 : decode cX7_passes 53 = .ok (.getfield 26, 3) := by decide +kernel
theorem dX7_passes_56 : decode cX7_passes 56 = .ok (.aload_n 0, 1) := by decide +kernel
theorem dX7_passes_57 : decode cX7_passes 57 = .ok (.getfield 10, 3) := by decide +kernel
theorem dX7_passes_60 : decode cX7_passes 60 = .ok (.invokevirtual 195, 3) := by decide +kernel
theorem dX7_passes_63 : decode cX7_passes 63 = .ok (.ldc 99, 2) := by decide +kernel
theorem dX7_passes_65 : decode cX7_passes 65 = .ok (.ireturn, 1) := by decide +kernel
theorem dX7_passes_66 : decode cX7_passes 66 = .ok (.iload_n 2, 1) := by decide +kernel
theorem dX7_passes_67 : decode cX7_passes 67 = .ok (.ireturn, 1) := by decide +kernel
set_option maxRecDepth 20000 in
theorem ggX7_best_X7_within : GoodIn wsX7_best wsX7_within := goodIn_r _ [13] (by decide +kernel) (by decide +kernel)
set_option maxRecDepth 20000 in
theorem gX7_best_X7_within : GoodIn wsX7_best (va_wsS RX7 62 yX7_within wsX7_within) := goodIn_app (goodIn_of _ (by decide +kernel)) ggX7_best_X7_within
set_option maxRecDepth 20000 in
theorem ggX7_best_X1_findBestRow : GoodIn wsX7_best wsX1_findBestRow := goodIn_r _ [18, 19, 20, 21, 22, 23, 24, 25, 26, 27, 28, 29, 30, 31, 32, 17, 33, 34, 35, 36, 37, 38, 39, 40, 41, 42, 43, 44, 45, 46, 47, 48, 49, 50, 51, 52, 53, 54, 55, 56, 57, 58, 59, 60, 61, 62, 63, 64, 65, 66, 67, 68, 69, 70, 71, 72, 73, 74, 75, 76, 77, 78, 79, 80, 81, 82, 83, 84, 85, 86, 87, 88, 89, 90, 91, 92, 93, 94, 95, 96, 97, 98, 99, 100, 101, 102, 103, 104, 105, 106, 107, 108, 109, 110, 111, 112, 113, 114, 115, 116, 117, 118, 119, 120, 121, 122, 123, 124, 125, 126, 127, 128, 129, 130, 131, 132, 133, 134, 135, 136, 12, 137, 138, 139, 140, 141, 142, 143, 144, 145, 146, 147, 148, 149, 150, 159, 160, 161, 162, 163, 164, 165, 166, 167, 168, 169, 170, 171, 172, 173, 174, 175, 176, 177, 178, 179] (by decide +kernel) (by decide +kernel)
set_option maxRecDepth 20000 in
theorem gX7_best_X1_findBestRow : GoodIn wsX7_best (wsV RX7 199 RX1 yX1_findBestRow wsX1_findBestRow) := goodIn_app (goodIn_of _ (by decide +kernel)) ggX7_best_X1_findBestRow
theorem dX7_best_0 : decode cX7_best 0 = .ok (.iload_n 1, 1) := by decide +kernel
theorem dX7_best_1 : decode cX7_best 1 = .ok (.iconst 1, 1) := by decide +kernel
theorem dX7_best_2 : decode cX7_best 2 = .ok (.sipush 900, 3) := by decide +kernel
theorem dX7_best_5 : decode cX7_best 5 = .ok (.invokestatic 62, 3) := by decide +kernel
theorem dX7_best_8 : decode cX7_best 8 = .ok (.ifCond .eq 12, 3) := by decide +kernel
theorem dX7_best_11 : decode cX7_best 11 = .ok (.iload_n 2, 1) := by decide +kernel
theorem dX7_best_12 : decode cX7_best 12 = .ok (.iconst 0, 1) := by decide +kernel
theorem dX7_best_13 : decode cX7_best 13 = .ok (.iconst 2, 1) := by decide +kernel
theorem dX7_best_14 : decode cX7_best 14 = .ok (.invokestatic 62, 3) := by decide +kernel
theorem dX7_best_17 : decode cX7_best 17 = .ok (.ifCond .ne 6, 3) := by decide +kernel
theorem dX7_best_20 : decode cX7_best 20 = .ok (.ldc 66, 2) := by decide +kernel
theorem dX7_best_22 : decode cX7_best 22 = .ok (.ireturn, 1) := by decide +kernel
theorem dX7_best_23 : decode cX7_best 23 = .ok (.aload_n 0, 1) := by decide +kernel
theorem dX7_best_24 : decode cX7_best 24 = .ok (.getfield 10, 3) := by decide +kernel
theorem dX7_best_27 : decode cX7_best 27 = .ok (.getfield 142, 3) := by decide +kernel
theorem dX7_best_30 : decode cX7_best 30 = .ok (.bipush 6, 2) := by decide +kernel
theorem dX7_best_32 : decode cX7_best 32 = .ok (.if_icmp .ne 6, 3) := by decide +kernel
theorem dX7_best_35 : decode cX7_best 35 = .ok (.ldc 198, 2) := by decide +kernel
theorem dX7_best_37 : decode cX7_best 37 = .ok (.ireturn, 1) := by decide +kernel
theorem dX7_best_38 : decode cX7_best 38 = .ok (.aload_n 0, 1) := by decide +kernel
theorem dX7_best_39 : decode cX7_best 39 = .ok (.getfield 26, 3) := by decide +kernel
theorem dX7_best_42 : decode cX7_best 42 = .ok (.aload_n 0, 1) := by decide +kernel
theorem dX7_best_43 : decode cX7_best 43 = .ok (.getfield 10, 3) := by decide +kernel
theorem dX7_best_46 : decode cX7_best 46 = .ok (.iload_n 1, 1) := by decide +kernel
theorem dX7_best_47 : decode cX7_best 47 = .ok (.invokevirtual 199, 3) := by decide +kernel
theorem dX7_best_50 : decode cX7_best 50 = .ok (.aload_n 0, 1) := by decide +kernel
theorem dX7_best_51 : decode cX7_best 51 = .ok (.getfield 26, 3) := by decide +kernel
theorem dX7_best_54 : decode cX7_best 54 = .ok (.getfield 203, 3) := by decide +kernel
theorem dX7_best_57 : decode cX7_best 57 = .ok (.iconst (-1), 1) := by decide +kernel
theorem dX7_best_58 : decode cX7_best 58 = .ok (.if_icmp .ne 6, 3) := by decide +kernel
theorem dX7_best_61 : decode cX7_best 61 = .ok (.ldc 99, 2) := by decide +kernel
theorem dX7_best_63 : decode cX7_best 63 = .ok (.ireturn, 1) := by decide +kernel
theorem dX7_best_64 : decode cX7_best 64 = .ok (.iload_n 2, 1) := by decide +kernel
theorem dX7_best_65 : decode cX7_best 65 = .ok (.ifCond .ne 11, 3) := by decide +kernel
theorem dX7_best_68 : decode cX7_best 68 = .ok (.aload_n 0, 1) := by decide +kernel
theorem dX7_best_69 : decode cX7_best 69 = .ok (.getfield 26, 3) := by decide +kernel
theorem dX7_best_72 : decode cX7_best 72 = .ok (.getfield 206, 3) := by decide +kernel
theorem dX7_best_75 : decode cX7_best 75 = .ok (.ireturn, 1) := by decide +kernel
theorem dX7_best_76 : decode cX7_best 76 = .ok (.iload_n 2, 1) := by decide +kernel
theorem dX7_best_77 : decode cX7_best 77 = .ok (.iconst 1, 1) := by decide +kernel
theorem dX7_best_78 : decode cX7_best 78 = .ok (.if_icmp .ne 13, 3) := by decide +kernel
theorem dX7_best_81 : decode cX7_best 81 = .ok (.aload_n 0, 1) := by decide +kernel
theorem dX7_best_82 : decode cX7_best 82 = .ok (.getfield 26, 3) := by decide +kernel
theorem dX7_best_85 : decode cX7_best 85 = .ok (.getfield 203, 3) := by decide +kernel
theorem dX7_best_88 : decode cX7_best 88 = .ok (.goto 10, 3) := by decide +kernel
theorem dX7_best_91 : decode cX7_best 91 = .ok (.aload_n 0, 1) := by decide +kernel
theorem dX7_best_92 : decode cX7_best 92 = .ok (.getfield 26, 3) := by decide +kernel
theorem dX7_best_95 : decode cX7_best 95 = .ok (.getfield 209, 3) := by decide +kernel
theorem dX7_best_98 : decode cX7_best 98 = .ok (.ireturn, 1) := by decide +kernel
set_option maxRecDepth 20000 in
theorem ggX7_even_X2_has : GoodIn wsX7_even wsX2_has := goodIn_r _ [11, 12, 129, 130, 131, 132, 133, 134, 135, 136] (by decide +kernel) (by decide +kernel)
set_option maxRecDepth 20000 in
theorem gX7_even_X2_has : GoodIn wsX7_even (wsV RX7 76 RX2 yX2_has wsX2_has) := goodIn_app (goodIn_of _ (by decide +kernel)) ggX7_even_X2_has
set_option maxRecDepth 20000 in
theorem ggX7_even_X7_within : GoodIn wsX7_even wsX7_within := goodIn_r _ [16] (by decide +kernel) (by decide +kernel)
set_option maxRecDepth 20000 in
theorem gX7_even_X7_within : GoodIn wsX7_even (va_wsS RX7 62 yX7_within wsX7_within) := goodIn_app (goodIn_of _ (by decide +kernel)) ggX7_even_X7_within
set_option maxRecDepth 20000 in
theorem ggX7_even_X1_keepTurns : GoodIn wsX7_even wsX1_keepTurns := goodIn_r _ [21, 22, 23, 24, 25, 26, 27, 129, 130, 131, 132, 133, 134, 135, 136, 137, 138, 139, 140, 141, 142, 143] (by decide +kernel) (by decide +kernel)
set_option maxRecDepth 20000 in
theorem gX7_even_X1_keepTurns : GoodIn wsX7_even (wsV RX7 187 RX1 yX1_keepTurns wsX1_keepTurns) := goodIn_app (goodIn_of _ (by decide +kernel)) ggX7_even_X1_keepTurns
set_option maxRecDepth 20000 in
theorem ggX7_even_X1_drawEvenFromNothing : GoodIn wsX7_even wsX1_drawEvenFromNothing := goodIn_r _ [31, 32, 22, 33, 34, 35, 36, 10, 37, 38, 39, 40, 41, 20, 42, 43, 44, 45, 46, 47, 48, 49, 50, 51, 52, 53, 54, 55, 56, 57, 58, 59, 60, 12, 61, 62, 63, 64, 65, 66, 67, 68, 69, 70, 71, 72, 73, 74, 75, 76, 77, 78, 79, 80, 81, 82, 83, 84, 85, 86, 87, 88, 89, 90, 91, 92, 93, 94, 95, 96, 97, 98, 99, 100, 101, 102, 103, 104, 105, 106, 107, 108, 109, 110, 111, 112, 113, 114, 15, 115, 129, 130, 131, 132, 133, 134, 135, 136, 137, 138, 139, 140, 141, 142, 143, 144, 145, 146, 147, 148, 149] (by decide +kernel) (by decide +kernel)
set_option maxRecDepth 20000 in
theorem gX7_even_X1_drawEvenFromNothing : GoodIn wsX7_even (wsV RX7 212 RX1 yX1_drawEvenFromNothing wsX1_drawEvenFromNothing) := goodIn_app (goodIn_of _ (by decide +kernel)) ggX7_even_X1_drawEvenFromNothing
set_option maxRecDepth 20000 in
theorem ggX7_even_X2_sumOf : GoodIn wsX7_even wsX2_sumOf := goodIn_r _ [71, 12, 129, 130, 131, 132, 133, 134, 135, 136] (by decide +kernel) (by decide +kernel)
set_option maxRecDepth 20000 in
theorem gX7_even_X2_sumOf : GoodIn wsX7_even (wsV RX7 163 RX2 yX2_sumOf wsX2_sumOf) := goodIn_app (goodIn_of _ (by decide +kernel)) ggX7_even_X2_sumOf
set_option maxRecDepth 20000 in
theorem ggX7_even_X1_putTurnsBack : GoodIn wsX7_even wsX1_putTurnsBack := goodIn_r _ [120, 23, 22, 24, 25, 26, 27, 137, 138, 139, 140, 141, 142, 143, 129, 130, 131, 132, 133, 134, 135, 136] (by decide +kernel) (by decide +kernel)
set_option maxRecDepth 20000 in
theorem gX7_even_X1_putTurnsBack : GoodIn wsX7_even (wsV RX7 195 RX1 yX1_putTurnsBack wsX1_putTurnsBack) := goodIn_app (goodIn_of _ (by decide +kernel)) ggX7_even_X1_putTurnsBack
theorem dX7_even_0 : decode cX7_even 0 = .ok (.iload_n 2, 1) := by decide +kernel
theorem dX7_even_1 : decode cX7_even 1 = .ok (.iconst (-1), 1) := by decide +kernel
theorem dX7_even_2 : decode cX7_even 2 = .ok (.if_icmp .eq 17, 3) := by decide +kernel
theorem dX7_even_5 : decode cX7_even 5 = .ok (.aload_n 0, 1) := by decide +kernel
theorem dX7_even_6 : decode cX7_even 6 = .ok (.getfield 10, 3) := by decide +kernel
theorem dX7_even_9 : decode cX7_even 9 = .ok (.iload_n 2, 1) := by decide +kernel
theorem dX7_even_10 : decode cX7_even 10 = .ok (.invokevirtual 76, 3) := by decide +kernel
theorem dX7_even_13 : decode cX7_even 13 = .ok (.ifCond .ne 6, 3) := by decide +kernel
theorem dX7_even_16 : decode cX7_even 16 = .ok (.ldc 80, 2) := by decide +kernel
theorem dX7_even_18 : decode cX7_even 18 = .ok (.ireturn, 1) := by decide +kernel
theorem dX7_even_19 : decode cX7_even 19 = .ok (.iload_n 1, 1) := by decide +kernel
theorem dX7_even_20 : decode cX7_even 20 = .ok (.iconst 1, 1) := by decide +kernel
theorem dX7_even_21 : decode cX7_even 21 = .ok (.sipush 900, 3) := by decide +kernel
theorem dX7_even_24 : decode cX7_even 24 = .ok (.invokestatic 62, 3) := by decide +kernel
theorem dX7_even_27 : decode cX7_even 27 = .ok (.ifCond .ne 6, 3) := by decide +kernel
theorem dX7_even_30 : decode cX7_even 30 = .ok (.ldc 66, 2) := by decide +kernel
theorem dX7_even_32 : decode cX7_even 32 = .ok (.ireturn, 1) := by decide +kernel
theorem dX7_even_33 : decode cX7_even 33 = .ok (.aload_n 0, 1) := by decide +kernel
theorem dX7_even_34 : decode cX7_even 34 = .ok (.getfield 26, 3) := by decide +kernel
theorem dX7_even_37 : decode cX7_even 37 = .ok (.aload_n 0, 1) := by decide +kernel
theorem dX7_even_38 : decode cX7_even 38 = .ok (.getfield 10, 3) := by decide +kernel
theorem dX7_even_41 : decode cX7_even 41 = .ok (.invokevirtual 187, 3) := by decide +kernel
theorem dX7_even_44 : decode cX7_even 44 = .ok (.aload_n 0, 1) := by decide +kernel
theorem dX7_even_45 : decode cX7_even 45 = .ok (.getfield 26, 3) := by decide +kernel
theorem dX7_even_48 : decode cX7_even 48 = .ok (.aload_n 0, 1) := by decide +kernel
theorem dX7_even_49 : decode cX7_even 49 = .ok (.getfield 10, 3) := by decide +kernel
theorem dX7_even_52 : decode cX7_even 52 = .ok (.iload_n 1, 1) := by decide +kernel
theorem dX7_even_53 : decode cX7_even 53 = .ok (.invokevirtual 212, 3) := by decide +kernel
theorem dX7_even_56 : decode cX7_even 56 = .ok (.istore_n 3, 1) := by decide +kernel
theorem dX7_even_57 : decode cX7_even 57 = .ok (.iload_n 2, 1) := by decide +kernel
theorem dX7_even_58 : decode cX7_even 58 = .ok (.iconst (-1), 1) := by decide +kernel
theorem dX7_even_59 : decode cX7_even 59 = .ok (.if_icmp .ne 20, 3) := by decide +kernel
theorem dX7_even_62 : decode cX7_even 62 = .ok (.aload_n 0, 1) := by decide +kernel
theorem dX7_even_63 : decode cX7_even 63 = .ok (.getfield 10, 3) := by decide +kernel
theorem dX7_even_66 : decode cX7_even 66 = .ok (.aload_n 0, 1) := by decide +kernel
theorem dX7_even_67 : decode cX7_even 67 = .ok (.getfield 10, 3) := by decide +kernel
theorem dX7_even_70 : decode cX7_even 70 = .ok (.getfield 160, 3) := by decide +kernel
theorem dX7_even_73 : decode cX7_even 73 = .ok (.invokevirtual 163, 3) := by decide +kernel
theorem dX7_even_76 : decode cX7_even 76 = .ok (.goto 12, 3) := by decide +kernel
theorem dX7_even_79 : decode cX7_even 79 = .ok (.aload_n 0, 1) := by decide +kernel
theorem dX7_even_80 : decode cX7_even 80 = .ok (.getfield 10, 3) := by decide +kernel
theorem dX7_even_83 : decode cX7_even 83 = .ok (.getfield 160, 3) := by decide +kernel
theorem dX7_even_86 : decode cX7_even 86 = .ok (.iload_n 2, 1) := by decide +kernel
theorem dX7_even_87 : decode cX7_even 87 = .ok (.iaload, 1) := by decide +kernel
theorem dX7_even_88 : decode cX7_even 88 = .ok (.istore 4, 2) := by decide +kernel
theorem dX7_even_90 : decode cX7_even 90 = .ok (.aload_n 0, 1) := by decide +kernel
theorem dX7_even_91 : decode cX7_even 91 = .ok (.getfield 26, 3) := by decide +kernel
theorem dX7_even_94 : decode cX7_even 94 = .ok (.aload_n 0, 1) := by decide +kernel
theorem dX7_even_95 : decode cX7_even 95 = .ok (.getfield 10, 3) := by decide +kernel
theorem dX7_even_98 : decode cX7_even 98 = .ok (.invokevirtual 195, 3) := by decide +kernel
theorem dX7_even_101 : decode cX7_even 101 = .ok (.iload_n 3, 1) := by decide +kernel
theorem dX7_even_102 : decode cX7_even 102 = .ok (.ifCond .eq 8, 3) := by decide +kernel
theorem dX7_even_105 : decode cX7_even 105 = .ok (.iload 4, 2) := by decide +kernel
theorem dX7_even_107 : decode cX7_even 107 = .ok (.goto 5, 3) := by decide +kernel
theorem dX7_even_110 : decode cX7_even 110 = .ok (.ldc 99, 2) := by decide +kernel
theorem dX7_even_112 : decode cX7_even 112 = .ok (.ireturn, 1) := by decide +kernel
set_option maxRecDepth 20000 in
theorem ggX7_newCase_X0_open : GoodIn wsX7_newCase wsX0_open := goodIn_r _ [8, 9, 10, 19, 20, 21, 22] (by decide +kernel) (by decide +kernel)
set_option maxRecDepth 20000 in
theorem gX7_newCase_X0_open : GoodIn wsX7_newCase (wsV RX7 217 RX0 yX0_open wsX0_open) := goodIn_app (goodIn_of _ (by decide +kernel)) ggX7_newCase_X0_open
theorem dX7_newCase_0 : decode cX7_newCase 0 = .ok (.aload_n 0, 1) := by decide +kernel
theorem dX7_newCase_1 : decode cX7_newCase 1 = .ok (.getfield 33, 3) := by decide +kernel
theorem dX7_newCase_4 : decode cX7_newCase 4 = .ok (.getfield 67, 3) := by decide +kernel
theorem dX7_newCase_7 : decode cX7_newCase 7 = .ok (.bipush 6, 2) := by decide +kernel
theorem dX7_newCase_9 : decode cX7_newCase 9 = .ok (.if_icmp .ne 8, 3) := by decide +kernel
theorem dX7_newCase_12 : decode cX7_newCase 12 = .ok (.ldc 216, 2) := by decide +kernel
theorem dX7_newCase_14 : decode cX7_newCase 14 = .ok (.goto 10, 3) := by decide +kernel
theorem dX7_newCase_17 : decode cX7_newCase 17 = .ok (.aload_n 0, 1) := by decide +kernel
theorem dX7_newCase_18 : decode cX7_newCase 18 = .ok (.getfield 33, 3) := by decide +kernel
theorem dX7_newCase_21 : decode cX7_newCase 21 = .ok (.invokevirtual 217, 3) := by decide +kernel
theorem dX7_newCase_24 : decode cX7_newCase 24 = .ok (.ireturn, 1) := by decide +kernel
set_option maxRecDepth 20000 in
theorem ggX7_load_X0_has : GoodIn wsX7_load wsX0_has := goodIn_r _ [10, 11, 30, 31, 32, 33] (by decide +kernel) (by decide +kernel)
set_option maxRecDepth 20000 in
theorem gX7_load_X0_has : GoodIn wsX7_load (wsV RX7 220 RX0 yX0_has wsX0_has) := goodIn_app (goodIn_of _ (by decide +kernel)) ggX7_load_X0_has
set_option maxRecDepth 20000 in
theorem ggX7_load_X2_has : GoodIn wsX7_load wsX2_has := goodIn_r _ [16, 17, 34, 35, 36, 37, 38, 39, 40, 41] (by decide +kernel) (by decide +kernel)
set_option maxRecDepth 20000 in
theorem gX7_load_X2_has : GoodIn wsX7_load (wsV RX7 76 RX2 yX2_has wsX2_has) := goodIn_app (goodIn_of _ (by decide +kernel)) ggX7_load_X2_has
set_option maxRecDepth 20000 in
theorem ggX7_load_X7_within : GoodIn wsX7_load wsX7_within := goodIn_r _ [21] (by decide +kernel) (by decide +kernel)
set_option maxRecDepth 20000 in
theorem gX7_load_X7_within : GoodIn wsX7_load (va_wsS RX7 62 yX7_within wsX7_within) := goodIn_app (goodIn_of _ (by decide +kernel)) ggX7_load_X7_within
theorem dX7_load_0 : decode cX7_load 0 = .ok (.aload_n 0, 1) := by decide +kernel
theorem dX7_load_1 : decode cX7_load 1 = .ok (.getfield 33, 3) := by decide +kernel
theorem dX7_load_4 : decode cX7_load 4 = .ok (.iload_n 1, 1) := by decide +kernel
theorem dX7_load_5 : decode cX7_load 5 = .ok (.invokevirtual 220, 3) := by decide +kernel
theorem dX7_load_8 : decode cX7_load 8 = .ok (.ifCond .eq 14, 3) := by decide +kernel
theorem dX7_load_11 : decode cX7_load 11 = .ok (.aload_n 0, 1) := by decide +kernel
theorem dX7_load_12 : decode cX7_load 12 = .ok (.getfield 10, 3) := by decide +kernel
theorem dX7_load_15 : decode cX7_load 15 = .ok (.iload_n 2, 1) := by decide +kernel
theorem dX7_load_16 : decode cX7_load 16 = .ok (.invokevirtual 76, 3) := by decide +kernel
theorem dX7_load_19 : decode cX7_load 19 = .ok (.ifCond .ne 6, 3) := by decide +kernel
theorem dX7_load_22 : decode cX7_load 22 = .ok (.ldc 80, 2) := by decide +kernel
theorem dX7_load_24 : decode cX7_load 24 = .ok (.ireturn, 1) := by decide +kernel
theorem dX7_load_25 : decode cX7_load 25 = .ok (.iload_n 3, 1) := by decide +kernel
theorem dX7_load_26 : decode cX7_load 26 = .ok (.iconst 0, 1) := by decide +kernel
theorem dX7_load_27 : decode cX7_load 27 = .ok (.sipush 200, 3) := by decide +kernel
theorem dX7_load_30 : decode cX7_load 30 = .ok (.invokestatic 62, 3) := by decide +kernel
theorem dX7_load_33 : decode cX7_load 33 = .ok (.ifCond .ne 6, 3) := by decide +kernel
theorem dX7_load_36 : decode cX7_load 36 = .ok (.ldc 66, 2) := by decide +kernel
theorem dX7_load_38 : decode cX7_load 38 = .ok (.ireturn, 1) := by decide +kernel
theorem dX7_load_39 : decode cX7_load 39 = .ok (.aload_n 0, 1) := by decide +kernel
theorem dX7_load_40 : decode cX7_load 40 = .ok (.getfield 33, 3) := by decide +kernel
theorem dX7_load_43 : decode cX7_load 43 = .ok (.getfield 221, 3) := by decide +kernel
theorem dX7_load_46 : decode cX7_load 46 = .ok (.iload_n 1, 1) := by decide +kernel
theorem dX7_load_47 : decode cX7_load 47 = .ok (.aaload, 1) := by decide +kernel
theorem dX7_load_48 : decode cX7_load 48 = .ok (.astore 4, 2) := by decide +kernel
theorem dX7_load_50 : decode cX7_load 50 = .ok (.aload 4, 2) := by decide +kernel
theorem dX7_load_52 : decode cX7_load 52 = .ok (.iload_n 2, 1) := by decide +kernel
theorem dX7_load_53 : decode cX7_load 53 = .ok (.iaload, 1) := by decide +kernel
theorem dX7_load_54 : decode cX7_load 54 = .ok (.istore 5, 2) := by decide +kernel
theorem dX7_load_56 : decode cX7_load 56 = .ok (.aload 4, 2) := by decide +kernel
theorem dX7_load_58 : decode cX7_load 58 = .ok (.iload_n 2, 1) := by decide +kernel
theorem dX7_load_59 : decode cX7_load 59 = .ok (.iload_n 3, 1) := by decide +kernel
theorem dX7_load_60 : decode cX7_load 60 = .ok (.iastore, 1) := by decide +kernel
theorem dX7_load_61 : decode cX7_load 61 = .ok (.iload 5, 2) := by decide +kernel
theorem dX7_load_63 : decode cX7_load 63 = .ok (.ireturn, 1) := by decide +kernel
set_option maxRecDepth 20000 in
theorem ggX7_leak_X0_has : GoodIn wsX7_leak wsX0_has := goodIn_r _ [11, 12, 108, 109, 110, 111] (by decide +kernel) (by decide +kernel)
set_option maxRecDepth 20000 in
theorem gX7_leak_X0_has : GoodIn wsX7_leak (wsV RX7 220 RX0 yX0_has wsX0_has) := goodIn_app (goodIn_of _ (by decide +kernel)) ggX7_leak_X0_has
set_option maxRecDepth 20000 in
theorem ggX7_leak_X7_within : GoodIn wsX7_leak wsX7_within := goodIn_r _ [16] (by decide +kernel) (by decide +kernel)
set_option maxRecDepth 20000 in
theorem gX7_leak_X7_within : GoodIn wsX7_leak (va_wsS RX7 62 yX7_within wsX7_within) := goodIn_app (goodIn_of _ (by decide +kernel)) ggX7_leak_X7_within
set_option maxRecDepth 20000 in
theorem ggX7_leak_X0_loadsOf : GoodIn wsX7_leak wsX0_loadsOf := goodIn_r _ [20, 21, 22, 23, 8, 9, 10, 11, 12, 108, 109, 110, 111, 112, 113, 114, 115, 116, 117, 118, 119] (by decide +kernel) (by decide +kernel)
set_option maxRecDepth 20000 in
theorem gX7_leak_X0_loadsOf : GoodIn wsX7_leak (wsV RX7 224 RX0 yX0_loadsOf wsX0_loadsOf) := goodIn_app (goodIn_of _ (by decide +kernel)) ggX7_leak_X0_loadsOf
set_option maxRecDepth 20000 in
theorem ggX7_leak_X3_settle : GoodIn wsX7_leak wsX3_settle := goodIn_r _ [28, 29, 30, 31, 27, 32, 33, 34, 35, 36, 37, 38, 39, 40, 41, 42, 43, 44, 45, 46, 47, 48, 49, 50, 51, 52, 53, 54, 55, 56, 57, 58, 59, 60, 61, 62, 63, 64, 65, 66, 67, 68, 69, 70, 71, 112, 113, 114, 115, 116, 117, 118, 119, 102, 103, 104, 105, 106, 107] (by decide +kernel) (by decide +kernel)
set_option maxRecDepth 20000 in
theorem gX7_leak_X3_settle : GoodIn wsX7_leak (wsV RX7 112 RX3 yX3_settle wsX3_settle) := goodIn_app (goodIn_of _ (by decide +kernel)) ggX7_leak_X3_settle
set_option maxRecDepth 20000 in
theorem ggX7_leak_X3_leakPlace : GoodIn wsX7_leak wsX3_leakPlace := goodIn_r _ [75, 35, 76, 77, 78, 27, 79, 50, 63, 80, 81, 82, 83, 112, 113, 114, 115, 116, 117, 118, 119, 102, 103, 104, 105, 106, 107] (by decide +kernel) (by decide +kernel)
set_option maxRecDepth 20000 in
theorem gX7_leak_X3_leakPlace : GoodIn wsX7_leak (wsV RX7 228 RX3 yX3_leakPlace wsX3_leakPlace) := goodIn_app (goodIn_of _ (by decide +kernel)) ggX7_leak_X3_leakPlace
set_option maxRecDepth 20000 in
theorem ggX7_leak_X3_pressUpper : GoodIn wsX7_leak wsX3_pressUpper := goodIn_r _ [79, 50, 63, 80, 81, 82, 83, 112, 113, 114, 115, 116, 117, 118, 119, 102, 103, 104, 105, 106, 107] (by decide +kernel) (by decide +kernel)
set_option maxRecDepth 20000 in
theorem gX7_leak_X3_pressUpper : GoodIn wsX7_leak (wsV RX7 120 RX3 yX3_pressUpper wsX3_pressUpper) := goodIn_app (goodIn_of _ (by decide +kernel)) ggX7_leak_X3_pressUpper
set_option maxRecDepth 20000 in
theorem ggX7_leak_X7_leastTerm : GoodIn wsX7_leak wsX7_leastTerm := goodIn_r _ [87, 88, 89, 82, 90, 91, 92, 15, 93] (by decide +kernel) (by decide +kernel)
set_option maxRecDepth 20000 in
theorem gX7_leak_X7_leastTerm : GoodIn wsX7_leak (va_wsS RX7 138 yX7_leastTerm wsX7_leastTerm) := goodIn_app (goodIn_of _ (by decide +kernel)) ggX7_leak_X7_leastTerm
theorem dX7_leak_0 : decode cX7_leak 0 = .ok (.iload_n 1, 1) := by decide +kernel
theorem dX7_leak_1 : decode cX7_leak 1 = .ok (.iconst (-1), 1) := by decide +kernel
theorem dX7_leak_2 : decode cX7_leak 2 = .ok (.if_icmp .eq 18, 3) := by decide +kernel
theorem dX7_leak_5 : decode cX7_leak 5 = .ok (.aload_n 0, 1) := by decide +kernel
theorem dX7_leak_6 : decode cX7_leak 6 = .ok (.getfield 33, 3) := by decide +kernel
theorem dX7_leak_9 : decode cX7_leak 9 = .ok (.iload_n 1, 1) := by decide +kernel
theorem dX7_leak_10 : decode cX7_leak 10 = .ok (.invokevirtual 220, 3) := by decide +kernel
theorem dX7_leak_13 : decode cX7_leak 13 = .ok (.ifCond .ne 7, 3) := by decide +kernel
theorem dX7_leak_16 : decode cX7_leak 16 = .ok (.ldc2_w 126, 3) := by decide +kernel
theorem dX7_leak_19 : decode cX7_leak 19 = .ok (.lreturn, 1) := by decide +kernel
theorem dX7_leak_20 : decode cX7_leak 20 = .ok (.iload_n 2, 1) := by decide +kernel
theorem dX7_leak_21 : decode cX7_leak 21 = .ok (.iconst 0, 1) := by decide +kernel
theorem dX7_leak_22 : decode cX7_leak 22 = .ok (.iconst 2, 1) := by decide +kernel
theorem dX7_leak_23 : decode cX7_leak 23 = .ok (.invokestatic 62, 3) := by decide +kernel
theorem dX7_leak_26 : decode cX7_leak 26 = .ok (.ifCond .ne 7, 3) := by decide +kernel
theorem dX7_leak_29 : decode cX7_leak 29 = .ok (.ldc2_w 128, 3) := by decide +kernel
theorem dX7_leak_32 : decode cX7_leak 32 = .ok (.lreturn, 1) := by decide +kernel
theorem dX7_leak_33 : decode cX7_leak 33 = .ok (.aload_n 0, 1) := by decide +kernel
theorem dX7_leak_34 : decode cX7_leak 34 = .ok (.getfield 19, 3) := by decide +kernel
theorem dX7_leak_37 : decode cX7_leak 37 = .ok (.aload_n 0, 1) := by decide +kernel
theorem dX7_leak_38 : decode cX7_leak 38 = .ok (.getfield 10, 3) := by decide +kernel
theorem dX7_leak_41 : decode cX7_leak 41 = .ok (.aload_n 0, 1) := by decide +kernel
theorem dX7_leak_42 : decode cX7_leak 42 = .ok (.getfield 33, 3) := by decide +kernel
theorem dX7_leak_45 : decode cX7_leak 45 = .ok (.iload_n 1, 1) := by decide +kernel
theorem dX7_leak_46 : decode cX7_leak 46 = .ok (.aload_n 0, 1) := by decide +kernel
theorem dX7_leak_47 : decode cX7_leak 47 = .ok (.getfield 10, 3) := by decide +kernel
theorem dX7_leak_50 : decode cX7_leak 50 = .ok (.invokevirtual 224, 3) := by decide +kernel
theorem dX7_leak_53 : decode cX7_leak 53 = .ok (.invokevirtual 112, 3) := by decide +kernel
theorem dX7_leak_56 : decode cX7_leak 56 = .ok (.aload_n 0, 1) := by decide +kernel
theorem dX7_leak_57 : decode cX7_leak 57 = .ok (.getfield 19, 3) := by decide +kernel
theorem dX7_leak_60 : decode cX7_leak 60 = .ok (.aload_n 0, 1) := by decide +kernel
theorem dX7_leak_61 : decode cX7_leak 61 = .ok (.getfield 10, 3) := by decide +kernel
theorem dX7_leak_64 : decode cX7_leak 64 = .ok (.invokevirtual 228, 3) := by decide +kernel
theorem dX7_leak_67 : decode cX7_leak 67 = .ok (.istore_n 3, 1) := by decide +kernel
theorem dX7_leak_68 : decode cX7_leak 68 = .ok (.iload_n 2, 1) := by decide +kernel
theorem dX7_leak_69 : decode cX7_leak 69 = .ok (.iconst 2, 1) := by decide +kernel
theorem dX7_leak_70 : decode cX7_leak 70 = .ok (.if_icmp .ne 8, 3) := by decide +kernel
theorem dX7_leak_73 : decode cX7_leak 73 = .ok (.iload_n 3, 1) := by decide +kernel
theorem dX7_leak_74 : decode cX7_leak 74 = .ok (.i2l, 1) := by decide +kernel
theorem dX7_leak_75 : decode cX7_leak 75 = .ok (.goto 26, 3) := by decide +kernel
theorem dX7_leak_78 : decode cX7_leak 78 = .ok (.aload_n 0, 1) := by decide +kernel
theorem dX7_leak_79 : decode cX7_leak 79 = .ok (.getfield 19, 3) := by decide +kernel
theorem dX7_leak_82 : decode cX7_leak 82 = .ok (.aload_n 0, 1) := by decide +kernel
theorem dX7_leak_83 : decode cX7_leak 83 = .ok (.getfield 10, 3) := by decide +kernel
theorem dX7_leak_86 : decode cX7_leak 86 = .ok (.iload_n 3, 1) := by decide +kernel
theorem dX7_leak_87 : decode cX7_leak 87 = .ok (.invokevirtual 120, 3) := by decide +kernel
theorem dX7_leak_90 : decode cX7_leak 90 = .ok (.aload_n 0, 1) := by decide +kernel
theorem dX7_leak_91 : decode cX7_leak 91 = .ok (.getfield 19, 3) := by decide +kernel
theorem dX7_leak_94 : decode cX7_leak 94 = .ok (.getfield 134, 3) := by decide +kernel
theorem dX7_leak_97 : decode cX7_leak 97 = .ok (.iload_n 2, 1) := by decide +kernel
theorem dX7_leak_98 : decode cX7_leak 98 = .ok (.invokestatic 138, 3) := by decide +kernel
theorem dX7_leak_101 : decode cX7_leak 101 = .ok (.lreturn, 1) := by decide +kernel
set_option maxRecDepth 20000 in
theorem ggX7_worst_X0_findWorst : GoodIn wsX7_worst wsX0_findWorst := goodIn_r _ [8, 9, 10, 11, 12, 7, 13, 14, 15, 16, 17, 18, 19, 20, 21, 22, 23, 24, 25, 26, 27, 28, 29, 30, 31, 32, 33, 34, 35, 36, 37, 38, 39, 40, 41, 42, 43, 44, 45, 46, 47, 48, 49, 50, 51, 52, 53, 54, 55, 56, 57, 58, 59, 60, 61, 62, 63, 64, 65, 66, 67, 68, 69, 70, 71, 72, 73, 74, 75, 76, 77, 78, 79, 80, 81, 82, 83, 84, 85, 86, 87, 88, 89, 90, 91, 92, 93, 94, 103, 104, 105, 106, 107, 108, 109, 110, 111, 112, 113, 114, 115, 116, 117, 118, 119, 120] (by decide +kernel) (by decide +kernel)
set_option maxRecDepth 20000 in
theorem gX7_worst_X0_findWorst : GoodIn wsX7_worst (wsV RX7 231 RX0 yX0_findWorst wsX0_findWorst) := goodIn_app (goodIn_of _ (by decide +kernel)) ggX7_worst_X0_findWorst
theorem dX7_worst_0 : decode cX7_worst 0 = .ok (.aload_n 0, 1) := by decide +kernel
theorem dX7_worst_1 : decode cX7_worst 1 = .ok (.getfield 33, 3) := by decide +kernel
theorem dX7_worst_4 : decode cX7_worst 4 = .ok (.aload_n 0, 1) := by decide +kernel
theorem dX7_worst_5 : decode cX7_worst 5 = .ok (.getfield 10, 3) := by decide +kernel
theorem dX7_worst_8 : decode cX7_worst 8 = .ok (.aload_n 0, 1) := by decide +kernel
theorem dX7_worst_9 : decode cX7_worst 9 = .ok (.getfield 19, 3) := by decide +kernel
theorem dX7_worst_12 : decode cX7_worst 12 = .ok (.invokevirtual 231, 3) := by decide +kernel
theorem dX7_worst_15 : decode cX7_worst 15 = .ok (.ireturn, 1) := by decide +kernel
set_option maxRecDepth 20000 in
theorem ggX7_weakest_X0_findWeakest : GoodIn wsX7_weakest wsX0_findWeakest := goodIn_r _ [8, 9, 10, 11, 12, 13, 14, 15, 16, 17, 18, 19, 20, 21, 22, 23, 24, 25, 26, 27, 28, 29, 30, 31, 32, 33, 34, 35, 36, 37, 38, 39, 40, 41, 42, 43, 44, 45, 46, 47, 48, 49, 50, 51, 52, 53, 54, 55, 56, 57, 58, 59, 60, 61, 62, 63, 64, 65, 66, 67, 68, 69, 70, 71, 72, 73, 74, 75, 76, 77, 78, 79, 80, 81, 7, 82, 83, 84, 85, 86, 87, 88, 89, 90, 91, 92, 93, 94, 95, 96, 97, 98, 99, 100, 101, 102, 103, 104, 105, 114, 115, 116, 117, 118, 119, 120, 121, 122, 123, 124, 125, 126, 127, 128, 129, 130, 131] (by decide +kernel) (by decide +kernel)
set_option maxRecDepth 20000 in
theorem gX7_weakest_X0_findWeakest : GoodIn wsX7_weakest (wsV RX7 235 RX0 yX0_findWeakest wsX0_findWeakest) := goodIn_app (goodIn_of _ (by decide +kernel)) ggX7_weakest_X0_findWeakest
theorem dX7_weakest_0 : decode cX7_weakest 0 = .ok (.aload_n 0, 1) := by decide +kernel
theorem dX7_weakest_1 : decode cX7_weakest 1 = .ok (.getfield 33, 3) := by decide +kernel
theorem dX7_weakest_4 : decode cX7_weakest 4 = .ok (.aload_n 0, 1) := by decide +kernel
theorem dX7_weakest_5 : decode cX7_weakest 5 = .ok (.getfield 10, 3) := by decide +kernel
theorem dX7_weakest_8 : decode cX7_weakest 8 = .ok (.aload_n 0, 1) := by decide +kernel
theorem dX7_weakest_9 : decode cX7_weakest 9 = .ok (.getfield 19, 3) := by decide +kernel
theorem dX7_weakest_12 : decode cX7_weakest 12 = .ok (.invokevirtual 235, 3) := by decide +kernel
theorem dX7_weakest_15 : decode cX7_weakest 15 = .ok (.ireturn, 1) := by decide +kernel
set_option maxRecDepth 20000 in
theorem ggX7_weights_X7_within : GoodIn wsX7_weights wsX7_within := goodIn_r _ [6] (by decide +kernel) (by decide +kernel)
set_option maxRecDepth 20000 in
theorem gX7_weights_X7_within : GoodIn wsX7_weights (va_wsS RX7 62 yX7_within wsX7_within) := goodIn_app (goodIn_of _ (by decide +kernel)) ggX7_weights_X7_within
set_option maxRecDepth 20000 in
theorem ggX7_weights_X4_weigh : GoodIn wsX7_weights wsX4_weigh := goodIn_r _ [11, 12, 21, 22] (by decide +kernel) (by decide +kernel)
set_option maxRecDepth 20000 in
theorem gX7_weights_X4_weigh : GoodIn wsX7_weights (wsV RX7 238 RX4 yX4_weigh wsX4_weigh) := goodIn_app (goodIn_of _ (by decide +kernel)) ggX7_weights_X4_weigh
theorem dX7_weights_0 : decode cX7_weights 0 = .ok (.iload_n 1, 1) := by decide +kernel
theorem dX7_weights_1 : decode cX7_weights 1 = .ok (.iconst 0, 1) := by decide +kernel
theorem dX7_weights_2 : decode cX7_weights 2 = .ok (.bipush 9, 2) := by decide +kernel
theorem dX7_weights_4 : decode cX7_weights 4 = .ok (.invokestatic 62, 3) := by decide +kernel
theorem dX7_weights_7 : decode cX7_weights 7 = .ok (.ifCond .eq 31, 3) := by decide +kernel
theorem dX7_weights_10 : decode cX7_weights 10 = .ok (.iload_n 2, 1) := by decide +kernel
theorem dX7_weights_11 : decode cX7_weights 11 = .ok (.iconst 0, 1) := by decide +kernel
theorem dX7_weights_12 : decode cX7_weights 12 = .ok (.bipush 9, 2) := by decide +kernel
theorem dX7_weights_14 : decode cX7_weights 14 = .ok (.invokestatic 62, 3) := by decide +kernel
theorem dX7_weights_17 : decode cX7_weights 17 = .ok (.ifCond .eq 21, 3) := by decide +kernel
theorem dX7_weights_20 : decode cX7_weights 20 = .ok (.iload_n 3, 1) := by decide +kernel
theorem dX7_weights_21 : decode cX7_weights 21 = .ok (.iconst 0, 1) := by decide +kernel
theorem dX7_weights_22 : decode cX7_weights 22 = .ok (.bipush 9, 2) := by decide +kernel
theorem dX7_weights_24 : decode cX7_weights 24 = .ok (.invokestatic 62, 3) := by decide +kernel
theorem dX7_weights_27 : decode cX7_weights 27 = .ok (.ifCond .eq 11, 3) := by decide +kernel
theorem dX7_weights_30 : decode cX7_weights 30 = .ok (.iload_n 1, 1) := by decide +kernel
theorem dX7_weights_31 : decode cX7_weights 31 = .ok (.iload_n 2, 1) := by decide +kernel
theorem dX7_weights_32 : decode cX7_weights 32 = .ok (.iadd, 1) := by decide +kernel
theorem dX7_weights_33 : decode cX7_weights 33 = .ok (.iload_n 3, 1) := by decide +kernel
theorem dX7_weights_34 : decode cX7_weights 34 = .ok (.iadd, 1) := by decide +kernel
theorem dX7_weights_35 : decode cX7_weights 35 = .ok (.ifCond .ne 6, 3) := by decide +kernel
theorem dX7_weights_38 : decode cX7_weights 38 = .ok (.ldc 66, 2) := by decide +kernel
theorem dX7_weights_40 : decode cX7_weights 40 = .ok (.ireturn, 1) := by decide +kernel
theorem dX7_weights_41 : decode cX7_weights 41 = .ok (.aload_n 0, 1) := by decide +kernel
theorem dX7_weights_42 : decode cX7_weights 42 = .ok (.getfield 40, 3) := by decide +kernel
theorem dX7_weights_45 : decode cX7_weights 45 = .ok (.iload_n 1, 1) := by decide +kernel
theorem dX7_weights_46 : decode cX7_weights 46 = .ok (.iload_n 2, 1) := by decide +kernel
theorem dX7_weights_47 : decode cX7_weights 47 = .ok (.iload_n 3, 1) := by decide +kernel
theorem dX7_weights_48 : decode cX7_weights 48 = .ok (.invokevirtual 238, 3) := by decide +kernel
theorem dX7_weights_51 : decode cX7_weights 51 = .ok (.iconst 1, 1) := by decide +kernel
theorem dX7_weights_52 : decode cX7_weights 52 = .ok (.ireturn, 1) := by decide +kernel
set_option maxRecDepth 20000 in
theorem ggX7_chance_X7_within : GoodIn wsX7_chance wsX7_within := goodIn_r _ [8] (by decide +kernel) (by decide +kernel)
set_option maxRecDepth 20000 in
theorem gX7_chance_X7_within : GoodIn wsX7_chance (va_wsS RX7 62 yX7_within wsX7_within) := goodIn_app (goodIn_of _ (by decide +kernel)) ggX7_chance_X7_within
set_option maxRecDepth 20000 in
theorem ggX7_chance_X4_favourable : GoodIn wsX7_chance wsX4_favourable := goodIn_r _ [13, 14, 15, 16, 17, 18, 19, 20, 21, 22, 23, 24, 25, 26, 27, 28, 29, 30, 31, 32, 33, 34, 35, 36, 12, 37, 38, 39, 40, 41, 42, 43, 44, 45, 46, 47, 48, 49, 50, 51, 52, 53, 54, 55, 56, 57, 58, 59, 60, 61, 62, 63, 64, 65, 66, 67, 68, 69, 70, 71, 72, 73, 74, 75, 76, 77, 78, 79, 80, 81, 82, 83, 84, 85, 86, 87, 88, 89, 90, 91, 92, 93, 94, 95, 96, 97, 98, 99, 100, 101, 102, 103, 104, 105, 106, 107, 108, 109, 131, 132, 133, 134, 135, 136, 137, 138, 139, 140, 141, 142, 143, 144, 145, 146] (by decide +kernel) (by decide +kernel)
set_option maxRecDepth 20000 in
theorem gX7_chance_X4_favourable : GoodIn wsX7_chance (wsV RX7 242 RX4 yX4_favourable wsX4_favourable) := goodIn_app (goodIn_of _ (by decide +kernel)) ggX7_chance_X4_favourable
set_option maxRecDepth 20000 in
theorem ggX7_chance_X4_all : GoodIn wsX7_chance wsX4_all := goodIn_r _ [113, 39, 20, 21, 22, 23, 24, 25, 26, 27, 28, 29, 30, 31, 32, 33, 139, 140, 131, 132, 133, 134, 135, 136, 137, 138] (by decide +kernel) (by decide +kernel)
set_option maxRecDepth 20000 in
theorem gX7_chance_X4_all : GoodIn wsX7_chance (wsV RX7 246 RX4 yX4_all wsX4_all) := goodIn_app (goodIn_of _ (by decide +kernel)) ggX7_chance_X4_all
set_option maxRecDepth 20000 in
theorem ggX7_chance_X7_leastTerm : GoodIn wsX7_chance wsX7_leastTerm := goodIn_r _ [116, 117, 118, 42, 119, 120, 121, 7, 122] (by decide +kernel) (by decide +kernel)
set_option maxRecDepth 20000 in
theorem gX7_chance_X7_leastTerm : GoodIn wsX7_chance (va_wsS RX7 138 yX7_leastTerm wsX7_leastTerm) := goodIn_app (goodIn_of _ (by decide +kernel)) ggX7_chance_X7_leastTerm
theorem dX7_chance_0 : decode cX7_chance 0 = .ok (.iload_n 2, 1) := by decide +kernel
theorem dX7_chance_1 : decode cX7_chance 1 = .ok (.iconst 0, 1) := by decide +kernel
theorem dX7_chance_2 : decode cX7_chance 2 = .ok (.sipush 2000, 3) := by decide +kernel
theorem dX7_chance_5 : decode cX7_chance 5 = .ok (.invokestatic 62, 3) := by decide +kernel
theorem dX7_chance_8 : decode cX7_chance 8 = .ok (.ifCond .eq 21, 3) := by decide +kernel
theorem dX7_chance_11 : decode cX7_chance 11 = .ok (.iload_n 1, 1) := by decide +kernel
theorem dX7_chance_12 : decode cX7_chance 12 = .ok (.iconst 0, 1) := by decide +kernel
theorem dX7_chance_13 : decode cX7_chance 13 = .ok (.iload_n 2, 1) := by decide +kernel
theorem dX7_chance_14 : decode cX7_chance 14 = .ok (.invokestatic 62, 3) := by decide +kernel
theorem dX7_chance_17 : decode cX7_chance 17 = .ok (.ifCond .eq 12, 3) := by decide +kernel
theorem dX7_chance_20 : decode cX7_chance 20 = .ok (.iload_n 3, 1) := by decide +kernel
theorem dX7_chance_21 : decode cX7_chance 21 = .ok (.iconst 0, 1) := by decide +kernel
theorem dX7_chance_22 : decode cX7_chance 22 = .ok (.iconst 1, 1) := by decide +kernel
theorem dX7_chance_23 : decode cX7_chance 23 = .ok (.invokestatic 62, 3) := by decide +kernel
theorem dX7_chance_26 : decode cX7_chance 26 = .ok (.ifCond .ne 7, 3) := by decide +kernel
theorem dX7_chance_29 : decode cX7_chance 29 = .ok (.ldc2_w 128, 3) := by decide +kernel
theorem dX7_chance_32 : decode cX7_chance 32 = .ok (.lreturn, 1) := by decide +kernel
theorem dX7_chance_33 : decode cX7_chance 33 = .ok (.aload_n 0, 1) := by decide +kernel
theorem dX7_chance_34 : decode cX7_chance 34 = .ok (.getfield 40, 3) := by decide +kernel
theorem dX7_chance_37 : decode cX7_chance 37 = .ok (.aload_n 0, 1) := by decide +kernel
theorem dX7_chance_38 : decode cX7_chance 38 = .ok (.getfield 10, 3) := by decide +kernel
theorem dX7_chance_41 : decode cX7_chance 41 = .ok (.aload_n 0, 1) := by decide +kernel
theorem dX7_chance_42 : decode cX7_chance 42 = .ok (.getfield 19, 3) := by decide +kernel
theorem dX7_chance_45 : decode cX7_chance 45 = .ok (.iload_n 1, 1) := by decide +kernel
theorem dX7_chance_46 : decode cX7_chance 46 = .ok (.iload_n 2, 1) := by decide +kernel
theorem dX7_chance_47 : decode cX7_chance 47 = .ok (.invokevirtual 242, 3) := by decide +kernel
theorem dX7_chance_50 : decode cX7_chance 50 = .ok (.lstore 4, 2) := by decide +kernel
theorem dX7_chance_52 : decode cX7_chance 52 = .ok (.lload 4, 2) := by decide +kernel
theorem dX7_chance_54 : decode cX7_chance 54 = .ok (.aload_n 0, 1) := by decide +kernel
theorem dX7_chance_55 : decode cX7_chance 55 = .ok (.getfield 40, 3) := by decide +kernel
theorem dX7_chance_58 : decode cX7_chance 58 = .ok (.aload_n 0, 1) := by decide +kernel
theorem dX7_chance_59 : decode cX7_chance 59 = .ok (.getfield 10, 3) := by decide +kernel
theorem dX7_chance_62 : decode cX7_chance 62 = .ok (.invokevirtual 246, 3) := by decide +kernel
theorem dX7_chance_65 : decode cX7_chance 65 = .ok (.iload_n 3, 1) := by decide +kernel
theorem dX7_chance_66 : decode cX7_chance 66 = .ok (.invokestatic 138, 3) := by decide +kernel
theorem dX7_chance_69 : decode cX7_chance 69 = .ok (.lreturn, 1) := by decide +kernel
set_option maxRecDepth 20000 in
theorem ggX7_reading_X2_has : GoodIn wsX7_reading wsX2_has := goodIn_r _ [10, 11, 42, 43, 44, 45, 46, 47, 48, 49] (by decide +kernel) (by decide +kernel)
set_option maxRecDepth 20000 in
theorem gX7_reading_X2_has : GoodIn wsX7_reading (wsV RX7 76 RX2 yX2_has wsX2_has) := goodIn_app (goodIn_of _ (by decide +kernel)) ggX7_reading_X2_has
set_option maxRecDepth 20000 in
theorem ggX7_reading_X7_within : GoodIn wsX7_reading wsX7_within := goodIn_r _ [15] (by decide +kernel) (by decide +kernel)
set_option maxRecDepth 20000 in
theorem gX7_reading_X7_within : GoodIn wsX7_reading (va_wsS RX7 62 yX7_within wsX7_within) := goodIn_app (goodIn_of _ (by decide +kernel)) ggX7_reading_X7_within
set_option maxRecDepth 20000 in
theorem ggX7_reading_X6_take : GoodIn wsX7_reading wsX6_take := goodIn_r _ [20, 21, 22, 23, 39, 40, 41] (by decide +kernel) (by decide +kernel)
set_option maxRecDepth 20000 in
theorem gX7_reading_X6_take : GoodIn wsX7_reading (wsV RX7 250 RX6 yX6_take wsX6_take) := goodIn_app (goodIn_of _ (by decide +kernel)) ggX7_reading_X6_take
set_option maxRecDepth 20000 in
theorem ggX7_reading_J6_bitCount_0f7a4 : GoodIn wsX7_reading wsJ6_bitCount_0f7a4 := goodIn_r _ [27, 28, 29, 30] (by decide +kernel) (by decide +kernel)
set_option maxRecDepth 20000 in
theorem gX7_reading_J6_bitCount_0f7a4 : GoodIn wsX7_reading (va_wsS RX7 148 yJ6_bitCount_0f7a4 wsJ6_bitCount_0f7a4) := goodIn_app (goodIn_of _ (by decide +kernel)) ggX7_reading_J6_bitCount_0f7a4
theorem dX7_reading_0 : decode cX7_reading 0 = .ok (.aload_n 0, 1) := by decide +kernel
theorem dX7_reading_1 : decode cX7_reading 1 = .ok (.getfield 10, 3) := by decide +kernel
theorem dX7_reading_4 : decode cX7_reading 4 = .ok (.iload_n 1, 1) := by decide +kernel
theorem dX7_reading_5 : decode cX7_reading 5 = .ok (.invokevirtual 76, 3) := by decide +kernel
theorem dX7_reading_8 : decode cX7_reading 8 = .ok (.ifCond .ne 6, 3) := by decide +kernel
theorem dX7_reading_11 : decode cX7_reading 11 = .ok (.ldc 80, 2) := by decide +kernel
theorem dX7_reading_13 : decode cX7_reading 13 = .ok (.ireturn, 1) := by decide +kernel
theorem dX7_reading_14 : decode cX7_reading 14 = .ok (.iload_n 3, 1) := by decide +kernel
theorem dX7_reading_15 : decode cX7_reading 15 = .ok (.iconst 0, 1) := by decide +kernel
theorem dX7_reading_16 : decode cX7_reading 16 = .ok (.sipush 2000, 3) := by decide +kernel
theorem dX7_reading_19 : decode cX7_reading 19 = .ok (.invokestatic 62, 3) := by decide +kernel
theorem dX7_reading_22 : decode cX7_reading 22 = .ok (.ifCond .eq 12, 3) := by decide +kernel
theorem dX7_reading_25 : decode cX7_reading 25 = .ok (.iload_n 2, 1) := by decide +kernel
theorem dX7_reading_26 : decode cX7_reading 26 = .ok (.iconst 0, 1) := by decide +kernel
theorem dX7_reading_27 : decode cX7_reading 27 = .ok (.iload_n 3, 1) := by decide +kernel
theorem dX7_reading_28 : decode cX7_reading 28 = .ok (.invokestatic 62, 3) := by decide +kernel
theorem dX7_reading_31 : decode cX7_reading 31 = .ok (.ifCond .ne 6, 3) := by decide +kernel
theorem dX7_reading_34 : decode cX7_reading 34 = .ok (.ldc 66, 2) := by decide +kernel
theorem dX7_reading_36 : decode cX7_reading 36 = .ok (.ireturn, 1) := by decide +kernel
theorem dX7_reading_37 : decode cX7_reading 37 = .ok (.aload_n 0, 1) := by decide +kernel
theorem dX7_reading_38 : decode cX7_reading 38 = .ok (.getfield 47, 3) := by decide +kernel
theorem dX7_reading_41 : decode cX7_reading 41 = .ok (.iload_n 1, 1) := by decide +kernel
theorem dX7_reading_42 : decode cX7_reading 42 = .ok (.iload_n 2, 1) := by decide +kernel
theorem dX7_reading_43 : decode cX7_reading 43 = .ok (.iload_n 3, 1) := by decide +kernel
theorem dX7_reading_44 : decode cX7_reading 44 = .ok (.invokevirtual 250, 3) := by decide +kernel
theorem dX7_reading_47 : decode cX7_reading 47 = .ok (.aload_n 0, 1) := by decide +kernel
theorem dX7_reading_48 : decode cX7_reading 48 = .ok (.getfield 47, 3) := by decide +kernel
theorem dX7_reading_51 : decode cX7_reading 51 = .ok (.getfield 73, 3) := by decide +kernel
theorem dX7_reading_54 : decode cX7_reading 54 = .ok (.invokestatic 148, 3) := by decide +kernel
theorem dX7_reading_57 : decode cX7_reading 57 = .ok (.ireturn, 1) := by decide +kernel
set_option maxRecDepth 20000 in
theorem ggX7_forget_J6_bitCount_0f7a4 : GoodIn wsX7_forget wsJ6_bitCount_0f7a4 := goodIn_r _ [6, 7, 8, 9] (by decide +kernel) (by decide +kernel)
set_option maxRecDepth 20000 in
theorem gX7_forget_J6_bitCount_0f7a4 : GoodIn wsX7_forget (va_wsS RX7 148 yJ6_bitCount_0f7a4 wsJ6_bitCount_0f7a4) := goodIn_app (goodIn_of _ (by decide +kernel)) ggX7_forget_J6_bitCount_0f7a4
theorem dX7_forget_0 : decode cX7_forget 0 = .ok (.aload_n 0, 1) := by decide +kernel
theorem dX7_forget_1 : decode cX7_forget 1 = .ok (.getfield 47, 3) := by decide +kernel
theorem dX7_forget_4 : decode cX7_forget 4 = .ok (.getfield 73, 3) := by decide +kernel
theorem dX7_forget_7 : decode cX7_forget 7 = .ok (.invokestatic 148, 3) := by decide +kernel
theorem dX7_forget_10 : decode cX7_forget 10 = .ok (.istore_n 1, 1) := by decide +kernel
theorem dX7_forget_11 : decode cX7_forget 11 = .ok (.aload_n 0, 1) := by decide +kernel
theorem dX7_forget_12 : decode cX7_forget 12 = .ok (.getfield 47, 3) := by decide +kernel
theorem dX7_forget_15 : decode cX7_forget 15 = .ok (.iconst 0, 1) := by decide +kernel
theorem dX7_forget_16 : decode cX7_forget 16 = .ok (.putfield 73, 3) := by decide +kernel
theorem dX7_forget_19 : decode cX7_forget 19 = .ok (.iload_n 1, 1) := by decide +kernel
theorem dX7_forget_20 : decode cX7_forget 20 = .ok (.ireturn, 1) := by decide +kernel
set_option maxRecDepth 20000 in
theorem ggX7_fit_X6_agree : GoodIn wsX7_fit wsX6_agree := goodIn_r _ [8, 9, 10, 11, 12, 13, 14, 15, 16, 17, 18, 19, 20, 21, 22, 23, 24, 25, 26, 27, 28, 29, 30, 31, 32, 33, 34, 35, 36, 37, 38, 39, 40, 41, 42, 43, 44, 45, 46, 47, 48, 49, 50, 51, 52, 53, 54, 55, 56, 57, 58, 59, 60, 61, 62, 63, 64, 65, 66, 67, 68, 69, 70, 71, 72, 73, 74, 75, 76, 77, 78, 91, 92, 93, 94, 95, 96, 97, 98, 99, 100, 101, 102, 103, 104, 105, 106, 107] (by decide +kernel) (by decide +kernel)
set_option maxRecDepth 20000 in
theorem gX7_fit_X6_agree : GoodIn wsX7_fit (wsV RX7 253 RX6 yX6_agree wsX6_agree) := goodIn_app (goodIn_of _ (by decide +kernel)) ggX7_fit_X6_agree
set_option maxRecDepth 20000 in
theorem ggX7_fit_X7_asNumber : GoodIn wsX7_fit wsX7_asNumber := goodIn_r _ [82] (by decide +kernel) (by decide +kernel)
set_option maxRecDepth 20000 in
theorem gX7_fit_X7_asNumber : GoodIn wsX7_fit (va_wsS RX7 104 yX7_asNumber wsX7_asNumber) := goodIn_app (goodIn_of _ (by decide +kernel)) ggX7_fit_X7_asNumber
theorem dX7_fit_0 : decode cX7_fit 0 = .ok (.aload_n 0, 1) := by decide +kernel
theorem dX7_fit_1 : decode cX7_fit 1 = .ok (.getfield 47, 3) := by decide +kernel
theorem dX7_fit_4 : decode cX7_fit 4 = .ok (.aload_n 0, 1) := by decide +kernel
theorem dX7_fit_5 : decode cX7_fit 5 = .ok (.getfield 10, 3) := by decide +kernel
theorem dX7_fit_8 : decode cX7_fit 8 = .ok (.aload_n 0, 1) := by decide +kernel
theorem dX7_fit_9 : decode cX7_fit 9 = .ok (.getfield 19, 3) := by decide +kernel
theorem dX7_fit_12 : decode cX7_fit 12 = .ok (.invokevirtual 253, 3) := by decide +kernel
theorem dX7_fit_15 : decode cX7_fit 15 = .ok (.invokestatic 104, 3) := by decide +kernel
theorem dX7_fit_18 : decode cX7_fit 18 = .ok (.ireturn, 1) := by decide +kernel
set_option maxRecDepth 20000 in
theorem ggX7_suspect_X6_suspectAt : GoodIn wsX7_suspect wsX6_suspectAt := goodIn_r _ [8, 9, 10, 11, 12, 7, 13, 14, 15, 16, 17, 18, 19, 20, 21, 22, 23, 24, 25, 26, 27, 28, 29, 30, 31, 32, 33, 34, 35, 36, 37, 38, 39, 40, 41, 42, 43, 44, 45, 46, 47, 48, 49, 50, 51, 52, 53, 54, 55, 56, 57, 58, 59, 60, 61, 62, 63, 64, 65, 66, 67, 68, 69, 70, 71, 72, 73, 74, 75, 76, 77, 78, 79, 80, 81, 82, 83, 84, 85, 86, 87, 88, 89, 90, 91, 100, 101, 102, 103, 104, 105, 106, 107, 108, 109, 110, 111, 112, 113, 114, 115, 116] (by decide +kernel) (by decide +kernel)
set_option maxRecDepth 20000 in
theorem gX7_suspect_X6_suspectAt : GoodIn wsX7_suspect (wsV RX7 257 RX6 yX6_suspectAt wsX6_suspectAt) := goodIn_app (goodIn_of _ (by decide +kernel)) ggX7_suspect_X6_suspectAt
theorem dX7_suspect_0 : decode cX7_suspect 0 = .ok (.aload_n 0, 1) := by decide +kernel
theorem dX7_suspect_1 : decode cX7_suspect 1 = .ok (.getfield 47, 3) := by decide +kernel
theorem dX7_suspect_4 : decode cX7_suspect 4 = .ok (.aload_n 0, 1) := by decide +kernel
theorem dX7_suspect_5 : decode cX7_suspect 5 = .ok (.getfield 10, 3) := by decide +kernel
theorem dX7_suspect_8 : decode cX7_suspect 8 = .ok (.aload_n 0, 1) := by decide +kernel
theorem dX7_suspect_9 : decode cX7_suspect 9 = .ok (.getfield 19, 3) := by decide +kernel
theorem dX7_suspect_12 : decode cX7_suspect 12 = .ok (.iload_n 1, 1) := by decide +kernel
theorem dX7_suspect_13 : decode cX7_suspect 13 = .ok (.invokevirtual 257, 3) := by decide +kernel
theorem dX7_suspect_16 : decode cX7_suspect 16 = .ok (.ireturn, 1) := by decide +kernel
set_option maxRecDepth 20000 in
theorem ggX7_feed_X7_within : GoodIn wsX7_feed wsX7_within := goodIn_r _ [8] (by decide +kernel) (by decide +kernel)
set_option maxRecDepth 20000 in
theorem gX7_feed_X7_within : GoodIn wsX7_feed (va_wsS RX7 62 yX7_within wsX7_within) := goodIn_app (goodIn_of _ (by decide +kernel)) ggX7_feed_X7_within
set_option maxRecDepth 20000 in
theorem ggX7_feed_X5_append : GoodIn wsX7_feed wsX5_append := goodIn_r _ [13, 14, 15, 16, 25, 26, 27, 28, 29, 30, 31, 32, 33, 34, 35, 36] (by decide +kernel) (by decide +kernel)
set_option maxRecDepth 20000 in
theorem gX7_feed_X5_append : GoodIn wsX7_feed (wsV RX7 261 RX5 yX5_append wsX5_append) := goodIn_app (goodIn_of _ (by decide +kernel)) ggX7_feed_X5_append
theorem dX7_feed_0 : decode cX7_feed 0 = .ok (.iload_n 1, 1) := by decide +kernel
theorem dX7_feed_1 : decode cX7_feed 1 = .ok (.iconst 1, 1) := by decide +kernel
theorem dX7_feed_2 : decode cX7_feed 2 = .ok (.bipush 8, 2) := by decide +kernel
theorem dX7_feed_4 : decode cX7_feed 4 = .ok (.invokestatic 62, 3) := by decide +kernel
theorem dX7_feed_7 : decode cX7_feed 7 = .ok (.ifCond .ne 6, 3) := by decide +kernel
theorem dX7_feed_10 : decode cX7_feed 10 = .ok (.ldc 66, 2) := by decide +kernel
theorem dX7_feed_12 : decode cX7_feed 12 = .ok (.ireturn, 1) := by decide +kernel
theorem dX7_feed_13 : decode cX7_feed 13 = .ok (.aload_n 0, 1) := by decide +kernel
theorem dX7_feed_14 : decode cX7_feed 14 = .ok (.getfield 54, 3) := by decide +kernel
theorem dX7_feed_17 : decode cX7_feed 17 = .ok (.getfield 167, 3) := by decide +kernel
theorem dX7_feed_20 : decode cX7_feed 20 = .ok (.iload_n 1, 1) := by decide +kernel
theorem dX7_feed_21 : decode cX7_feed 21 = .ok (.iadd, 1) := by decide +kernel
theorem dX7_feed_22 : decode cX7_feed 22 = .ok (.sipush 160, 3) := by decide +kernel
theorem dX7_feed_25 : decode cX7_feed 25 = .ok (.if_icmp .le 6, 3) := by decide +kernel
theorem dX7_feed_28 : decode cX7_feed 28 = .ok (.ldc 216, 2) := by decide +kernel
theorem dX7_feed_30 : decode cX7_feed 30 = .ok (.ireturn, 1) := by decide +kernel
theorem dX7_feed_31 : decode cX7_feed 31 = .ok (.aload_n 0, 1) := by decide +kernel
theorem dX7_feed_32 : decode cX7_feed 32 = .ok (.getfield 54, 3) := by decide +kernel
theorem dX7_feed_35 : decode cX7_feed 35 = .ok (.iload_n 1, 1) := by decide +kernel
theorem dX7_feed_36 : decode cX7_feed 36 = .ok (.lload_n 2, 1) := by decide +kernel
theorem dX7_feed_37 : decode cX7_feed 37 = .ok (.invokevirtual 261, 3) := by decide +kernel
theorem dX7_feed_40 : decode cX7_feed 40 = .ok (.aload_n 0, 1) := by decide +kernel
theorem dX7_feed_41 : decode cX7_feed 41 = .ok (.getfield 54, 3) := by decide +kernel
theorem dX7_feed_44 : decode cX7_feed 44 = .ok (.getfield 167, 3) := by decide +kernel
theorem dX7_feed_47 : decode cX7_feed 47 = .ok (.ireturn, 1) := by decide +kernel
set_option maxRecDepth 20000 in
theorem ggX7_read_X5_understand : GoodIn wsX7_read wsX5_understand := goodIn_r _ [12, 13, 14, 15, 16, 17, 18, 19, 20, 11, 21, 22, 23, 24, 25, 26, 27, 28, 29, 30, 31, 32, 33, 34, 35, 36, 37, 38, 39, 40, 41, 42, 43, 44, 45, 46, 47, 48, 49, 50, 51, 52, 53, 54, 55, 56, 57, 58, 59, 60, 61, 62, 63, 64, 65, 66, 67, 68, 69, 70, 71, 72, 73, 74, 75, 76, 77, 78, 79, 80, 81, 82, 83, 84, 85, 86, 87, 88, 89, 90, 91, 92, 93, 94, 95, 96, 97, 98, 99, 100, 101, 102, 103, 104, 105, 106, 107, 108, 109, 110, 111, 112, 113, 114, 115, 116, 117, 118, 119, 120, 121, 122, 123, 267, 268, 269, 270, 271, 272, 273, 274, 275, 276, 277, 278] (by decide +kernel) (by decide +kernel)
set_option maxRecDepth 20000 in
theorem gX7_read_X5_understand : GoodIn wsX7_read (wsV RX7 265 RX5 yX5_understand wsX5_understand) := goodIn_app (goodIn_of _ (by decide +kernel)) ggX7_read_X5_understand
set_option maxRecDepth 20000 in
theorem ggX7_read_X7_carryOut : GoodIn wsX7_read wsX7_carryOut := goodIn_r _ [127, 1, 128, 129, 130, 2, 131, 132, 133, 134, 135, 136, 137, 138, 139, 140, 141, 142, 143, 144, 145, 146, 147, 148, 149, 150, 151, 152, 153, 154, 155, 156, 157, 158, 159, 160, 161, 162, 163, 164, 165, 166, 167, 168, 169, 170, 171, 172, 173, 174, 175, 176, 177, 178, 179, 180, 181, 182, 183, 184, 185, 186, 187, 188, 189, 190, 191, 192, 193, 194, 195, 196, 197, 198, 199, 200, 201, 202, 203, 204, 205, 206, 207, 208, 209, 210, 211, 212, 213, 214, 215, 26, 216, 217, 218, 219, 220, 221, 222, 223, 224, 225, 226, 227, 228, 229, 230, 231, 232, 233, 234, 235, 236, 237, 238, 239, 240, 241, 242, 243, 244, 245, 246, 247, 248, 249, 250, 251, 252, 253, 254, 255, 256, 257, 258, 267, 268, 269, 270, 271, 272, 273, 274, 275, 276, 277, 278, 259, 260, 261, 262, 263, 264, 265, 266, 279, 280, 281, 282, 283, 284, 285, 286, 287, 288, 289, 290, 291] (by decide +kernel) (by decide +kernel)
set_option maxRecDepth 20000 in
theorem gX7_read_X7_carryOut : GoodIn wsX7_read (wsV RX7 274 RX7 yX7_carryOut wsX7_carryOut) := goodIn_app (goodIn_of _ (by decide +kernel)) ggX7_read_X7_carryOut
theorem dX7_read_0 : decode cX7_read 0 = .ok (.aload_n 0, 1) := by decide +kernel
theorem dX7_read_1 : decode cX7_read 1 = .ok (.getfield 54, 3) := by decide +kernel
theorem dX7_read_4 : decode cX7_read 4 = .ok (.aload_n 0, 1) := by decide +kernel
theorem dX7_read_5 : decode cX7_read 5 = .ok (.getfield 10, 3) := by decide +kernel
theorem dX7_read_8 : decode cX7_read 8 = .ok (.getfield 142, 3) := by decide +kernel
theorem dX7_read_11 : decode cX7_read 11 = .ok (.invokevirtual 265, 3) := by decide +kernel
theorem dX7_read_14 : decode cX7_read 14 = .ok (.istore_n 1, 1) := by decide +kernel
theorem dX7_read_15 : decode cX7_read 15 = .ok (.aload_n 0, 1) := by decide +kernel
theorem dX7_read_16 : decode cX7_read 16 = .ok (.getfield 54, 3) := by decide +kernel
theorem dX7_read_19 : decode cX7_read 19 = .ok (.iconst 0, 1) := by decide +kernel
theorem dX7_read_20 : decode cX7_read 20 = .ok (.putfield 167, 3) := by decide +kernel
theorem dX7_read_23 : decode cX7_read 23 = .ok (.aload_n 0, 1) := by decide +kernel
theorem dX7_read_24 : decode cX7_read 24 = .ok (.iconst 0, 1) := by decide +kernel
theorem dX7_read_25 : decode cX7_read 25 = .ok (.putfield 170, 3) := by decide +kernel
theorem dX7_read_28 : decode cX7_read 28 = .ok (.iload_n 1, 1) := by decide +kernel
theorem dX7_read_29 : decode cX7_read 29 = .ok (.ifCond .ne 14, 3) := by decide +kernel
theorem dX7_read_32 : decode cX7_read 32 = .ok (.bipush (-10), 2) := by decide +kernel
theorem dX7_read_34 : decode cX7_read 34 = .ok (.aload_n 0, 1) := by decide +kernel
theorem dX7_read_35 : decode cX7_read 35 = .ok (.getfield 54, 3) := by decide +kernel
theorem dX7_read_38 : decode cX7_read 38 = .ok (.getfield 268, 3) := by decide +kernel
theorem dX7_read_41 : decode cX7_read 41 = .ok (.isub, 1) := by decide +kernel
theorem dX7_read_42 : decode cX7_read 42 = .ok (.ireturn, 1) := by decide +kernel
theorem dX7_read_43 : decode cX7_read 43 = .ok (.iconst 0, 1) := by decide +kernel
theorem dX7_read_44 : decode cX7_read 44 = .ok (.istore_n 2, 1) := by decide +kernel
theorem dX7_read_45 : decode cX7_read 45 = .ok (.iload_n 2, 1) := by decide +kernel
theorem dX7_read_46 : decode cX7_read 46 = .ok (.aload_n 0, 1) := by decide +kernel
theorem dX7_read_47 : decode cX7_read 47 = .ok (.getfield 54, 3) := by decide +kernel
theorem dX7_read_50 : decode cX7_read 50 = .ok (.getfield 271, 3) := by decide +kernel
theorem dX7_read_53 : decode cX7_read 53 = .ok (.if_icmp .ge 27, 3) := by decide +kernel
theorem dX7_read_56 : decode cX7_read 56 = .ok (.aload_n 0, 1) := by decide +kernel
theorem dX7_read_57 : decode cX7_read 57 = .ok (.iload_n 2, 1) := by decide +kernel
theorem dX7_read_58 : decode cX7_read 58 = .ok (.invokevirtual 274, 3) := by decide +kernel
theorem dX7_read_61 : decode cX7_read 61 = .ok (.ifCond .eq 19, 3) := by decide +kernel
theorem dX7_read_64 : decode cX7_read 64 = .ok (.aload_n 0, 1) := by decide +kernel
theorem dX7_read_65 : decode cX7_read 65 = .ok (.dup, 1) := by decide +kernel
theorem dX7_read_66 : decode cX7_read 66 = .ok (.getfield 170, 3) := by decide +kernel
theorem dX7_read_69 : decode cX7_read 69 = .ok (.iconst 1, 1) := by decide +kernel
theorem dX7_read_70 : decode cX7_read 70 = .ok (.iadd, 1) := by decide +kernel
theorem dX7_read_71 : decode cX7_read 71 = .ok (.putfield 170, 3) := by decide +kernel
theorem dX7_read_74 : decode cX7_read 74 = .ok (.iinc 2 1, 3) := by decide +kernel
theorem dX7_read_77 : decode cX7_read 77 = .ok (.goto (-32), 3) := by decide +kernel
theorem dX7_read_80 : decode cX7_read 80 = .ok (.aload_n 0, 1) := by decide +kernel
theorem dX7_read_81 : decode cX7_read 81 = .ok (.getfield 170, 3) := by decide +kernel
theorem dX7_read_84 : decode cX7_read 84 = .ok (.ireturn, 1) := by decide +kernel
theorem dX7_fault_0 : decode cX7_fault 0 = .ok (.aload_n 0, 1) := by decide +kernel
theorem dX7_fault_1 : decode cX7_fault 1 = .ok (.getfield 54, 3) := by decide +kernel
theorem dX7_fault_4 : decode cX7_fault 4 = .ok (.getfield 277, 3) := by decide +kernel
theorem dX7_fault_7 : decode cX7_fault 7 = .ok (.ireturn, 1) := by decide +kernel
set_option maxRecDepth 20000 in
theorem ggX7_carryOut_X2_isBroken : GoodIn wsX7_carryOut wsX2_isBroken := goodIn_r _ [14, 15, 147, 148, 149, 150, 151, 152, 153, 154] (by decide +kernel) (by decide +kernel)
set_option maxRecDepth 20000 in
theorem gX7_carryOut_X2_isBroken : GoodIn wsX7_carryOut (wsV RX7 92 RX2 yX2_isBroken wsX2_isBroken) := goodIn_app (goodIn_of _ (by decide +kernel)) ggX7_carryOut_X2_isBroken
set_option maxRecDepth 20000 in
theorem ggX7_carryOut_X1_drawBolt : GoodIn wsX7_carryOut wsX1_drawBolt := goodIn_r _ [20, 21, 22, 23, 24, 25, 26, 27, 28, 29, 30, 31, 32, 33, 34, 13, 35, 36, 15, 37, 38, 39, 40, 41, 42, 43, 44, 45, 46, 47, 48, 49, 50, 51, 52, 53, 54, 55, 56, 57, 58, 59, 60, 61, 62, 63, 64, 65, 66, 67, 68, 69, 70, 71, 72, 73, 74, 75, 76, 77, 78, 79, 80, 81, 82, 83, 84, 85, 86, 87, 88, 89, 90, 91, 92, 147, 148, 149, 150, 151, 152, 153, 154, 155, 156, 157, 158, 159, 160, 161, 162, 163, 164, 165, 166, 167] (by decide +kernel) (by decide +kernel)
set_option maxRecDepth 20000 in
theorem gX7_carryOut_X1_drawBolt : GoodIn wsX7_carryOut (wsV RX7 173 RX1 yX1_drawBolt wsX1_drawBolt) := goodIn_app (goodIn_of _ (by decide +kernel)) ggX7_carryOut_X1_drawBolt
set_option maxRecDepth 20000 in
theorem ggX7_carryOut_X1_goRound : GoodIn wsX7_carryOut wsX1_goRound := goodIn_r _ [96, 97, 98, 11, 12, 13, 14, 15, 99, 17, 18, 19, 20, 21, 22, 23, 24, 25, 26, 27, 28, 29, 30, 31, 32, 33, 34, 35, 36, 37, 38, 39, 40, 41, 42, 43, 44, 45, 46, 47, 48, 49, 50, 51, 52, 53, 54, 55, 56, 57, 58, 59, 60, 61, 62, 63, 64, 65, 66, 67, 68, 69, 70, 71, 72, 73, 74, 75, 76, 77, 78, 79, 80, 81, 82, 83, 84, 85, 86, 87, 88, 89, 90, 91, 92, 147, 148, 149, 150, 151, 152, 153, 154, 155, 156, 157, 158, 159, 160, 161, 162, 163, 164, 165, 166, 167] (by decide +kernel) (by decide +kernel)
set_option maxRecDepth 20000 in
theorem gX7_carryOut_X1_goRound : GoodIn wsX7_carryOut (wsV RX7 183 RX1 yX1_goRound wsX1_goRound) := goodIn_app (goodIn_of _ (by decide +kernel)) ggX7_carryOut_X1_goRound
set_option maxRecDepth 20000 in
theorem ggX7_carryOut_X7_broken : GoodIn wsX7_carryOut wsX7_broken := goodIn_r _ [103, 5, 104, 9, 105, 106, 107, 13, 108, 36, 10, 11, 12, 14, 15, 109, 33, 34, 35, 37, 38, 39, 40, 41, 42, 43, 110, 111, 112, 113, 114, 115, 91, 116, 127, 128, 129, 130, 131, 132, 133, 134, 147, 148, 149, 150, 151, 152, 153, 154] (by decide +kernel) (by decide +kernel)
set_option maxRecDepth 20000 in
theorem gX7_carryOut_X7_broken : GoodIn wsX7_carryOut (wsV RX7 289 RX7 yX7_broken wsX7_broken) := goodIn_app (goodIn_of _ (by decide +kernel)) ggX7_carryOut_X7_broken
set_option maxRecDepth 20000 in
theorem ggX7_carryOut_X2_takeRow : GoodIn wsX7_carryOut wsX2_takeRow := goodIn_r _ [120, 36, 121, 122, 123, 124, 13, 125, 126, 58, 59, 60, 147, 148, 149, 150, 151, 152, 153, 154] (by decide +kernel) (by decide +kernel)
set_option maxRecDepth 20000 in
theorem gX7_carryOut_X2_takeRow : GoodIn wsX7_carryOut (wsV RX7 177 RX2 yX2_takeRow wsX2_takeRow) := goodIn_app (goodIn_of _ (by decide +kernel)) ggX7_carryOut_X2_takeRow
theorem dX7_carryOut_0 : decode cX7_carryOut 0 = .ok (.aload_n 0, 1) := by decide +kernel
theorem dX7_carryOut_1 : decode cX7_carryOut 1 = .ok (.getfield 54, 3) := by decide +kernel
theorem dX7_carryOut_4 : decode cX7_carryOut 4 = .ok (.getfield 280, 3) := by decide +kernel
theorem dX7_carryOut_7 : decode cX7_carryOut 7 = .ok (.iload_n 1, 1) := by decide +kernel
theorem dX7_carryOut_8 : decode cX7_carryOut 8 = .ok (.iaload, 1) := by decide +kernel
theorem dX7_carryOut_9 : decode cX7_carryOut 9 = .ok (.istore_n 2, 1) := by decide +kernel
theorem dX7_carryOut_10 : decode cX7_carryOut 10 = .ok (.aload_n 0, 1) := by decide +kernel
theorem dX7_carryOut_11 : decode cX7_carryOut 11 = .ok (.getfield 54, 3) := by decide +kernel
theorem dX7_carryOut_14 : decode cX7_carryOut 14 = .ok (.getfield 283, 3) := by decide +kernel
theorem dX7_carryOut_17 : decode cX7_carryOut 17 = .ok (.iload_n 1, 1) := by decide +kernel
theorem dX7_carryOut_18 : decode cX7_carryOut 18 = .ok (.iaload, 1) := by decide +kernel
theorem dX7_carryOut_19 : decode cX7_carryOut 19 = .ok (.istore_n 3, 1) := by decide +kernel
theorem dX7_carryOut_20 : decode cX7_carryOut 20 = .ok (.aload_n 0, 1) := by decide +kernel
theorem dX7_carryOut_21 : decode cX7_carryOut 21 = .ok (.getfield 54, 3) := by decide +kernel
theorem dX7_carryOut_24 : decode cX7_carryOut 24 = .ok (.getfield 286, 3) := by decide +kernel
theorem dX7_carryOut_27 : decode cX7_carryOut 27 = .ok (.iload_n 1, 1) := by decide +kernel
theorem dX7_carryOut_28 : decode cX7_carryOut 28 = .ok (.iaload, 1) := by decide +kernel
theorem dX7_carryOut_29 : decode cX7_carryOut 29 = .ok (.tableswitch 154 0 4 #[35, 69, 98, 110, 138], 35) := by decide +kernel
theorem dX7_carryOut_64 : decode cX7_carryOut 64 = .ok (.aload_n 0, 1) := by decide +kernel
theorem dX7_carryOut_65 : decode cX7_carryOut 65 = .ok (.getfield 10, 3) := by decide +kernel
theorem dX7_carryOut_68 : decode cX7_carryOut 68 = .ok (.iload_n 2, 1) := by decide +kernel
theorem dX7_carryOut_69 : decode cX7_carryOut 69 = .ok (.invokevirtual 92, 3) := by decide +kernel
theorem dX7_carryOut_72 : decode cX7_carryOut 72 = .ok (.ifCond .ne 24, 3) := by decide +kernel
theorem dX7_carryOut_75 : decode cX7_carryOut 75 = .ok (.aload_n 0, 1) := by decide +kernel
theorem dX7_carryOut_76 : decode cX7_carryOut 76 = .ok (.getfield 26, 3) := by decide +kernel
theorem dX7_carryOut_79 : decode cX7_carryOut 79 = .ok (.aload_n 0, 1) := by decide +kernel
theorem dX7_carryOut_80 : decode cX7_carryOut 80 = .ok (.getfield 10, 3) := by decide +kernel
theorem dX7_carryOut_83 : decode cX7_carryOut 83 = .ok (.iload_n 2, 1) := by decide +kernel
theorem dX7_carryOut_84 : decode cX7_carryOut 84 = .ok (.iload_n 3, 1) := by decide +kernel
theorem dX7_carryOut_85 : decode cX7_carryOut 85 = .ok (.invokevirtual 173, 3) := by decide +kernel
theorem dX7_carryOut_88 : decode cX7_carryOut 88 = .ok (.iconst (-1), 1) := by decide +kernel
theorem dX7_carryOut_89 : decode cX7_carryOut 89 = .ok (.if_icmp .eq 7, 3) := by decide +kernel
theorem dX7_carryOut_92 : decode cX7_carryOut 92 = .ok (.iconst 1, 1) := by decide +kernel
theorem dX7_carryOut_93 : decode cX7_carryOut 93 = .ok (.goto 4, 3) := by decide +kernel
theorem dX7_carryOut_96 : decode cX7_carryOut 96 = .ok (.iconst 0, 1) := by decide +kernel
theorem dX7_carryOut_97 : decode cX7_carryOut 97 = .ok (.ireturn, 1) := by decide +kernel
theorem dX7_carryOut_98 : decode cX7_carryOut 98 = .ok (.aload_n 0, 1) := by decide +kernel
theorem dX7_carryOut_99 : decode cX7_carryOut 99 = .ok (.getfield 26, 3) := by decide +kernel
theorem dX7_carryOut_102 : decode cX7_carryOut 102 = .ok (.aload_n 0, 1) := by decide +kernel
theorem dX7_carryOut_103 : decode cX7_carryOut 103 = .ok (.getfield 10, 3) := by decide +kernel
theorem dX7_carryOut_106 : decode cX7_carryOut 106 = .ok (.aload_n 0, 1) := by decide +kernel
theorem dX7_carryOut_107 : decode cX7_carryOut 107 = .ok (.getfield 10, 3) := by decide +kernel
theorem dX7_carryOut_110 : decode cX7_carryOut 110 = .ok (.getfield 180, 3) := by decide +kernel
theorem dX7_carryOut_113 : decode cX7_carryOut 113 = .ok (.iload_n 2, 1) := by decide +kernel
theorem dX7_carryOut_114 : decode cX7_carryOut 114 = .ok (.invokevirtual 183, 3) := by decide +kernel
theorem dX7_carryOut_117 : decode cX7_carryOut 117 = .ok (.iconst (-1), 1) := by decide +kernel
theorem dX7_carryOut_118 : decode cX7_carryOut 118 = .ok (.if_icmp .eq 7, 3) := by decide +kernel
theorem dX7_carryOut_121 : decode cX7_carryOut 121 = .ok (.iconst 1, 1) := by decide +kernel
theorem dX7_carryOut_122 : decode cX7_carryOut 122 = .ok (.goto 4, 3) := by decide +kernel
theorem dX7_carryOut_125 : decode cX7_carryOut 125 = .ok (.iconst 0, 1) := by decide +kernel
theorem dX7_carryOut_126 : decode cX7_carryOut 126 = .ok (.ireturn, 1) := by decide +kernel
theorem dX7_carryOut_127 : decode cX7_carryOut 127 = .ok (.aload_n 0, 1) := by decide +kernel
theorem dX7_carryOut_128 : decode cX7_carryOut 128 = .ok (.getfield 10, 3) := by decide +kernel
theorem dX7_carryOut_131 : decode cX7_carryOut 131 = .ok (.getfield 108, 3) := by decide +kernel
theorem dX7_carryOut_134 : decode cX7_carryOut 134 = .ok (.iload_n 2, 1) := by decide +kernel
theorem dX7_carryOut_135 : decode cX7_carryOut 135 = .ok (.iload_n 3, 1) := by decide +kernel
theorem dX7_carryOut_136 : decode cX7_carryOut 136 = .ok (.iastore, 1) := by decide +kernel
theorem dX7_carryOut_137 : decode cX7_carryOut 137 = .ok (.iconst 1, 1) := by decide +kernel
theorem dX7_carryOut_138 : decode cX7_carryOut 138 = .ok (.ireturn, 1) := by decide +kernel
theorem dX7_carryOut_139 : decode cX7_carryOut 139 = .ok (.aload_n 0, 1) := by decide +kernel
theorem dX7_carryOut_140 : decode cX7_carryOut 140 = .ok (.getfield 10, 3) := by decide +kernel
theorem dX7_carryOut_143 : decode cX7_carryOut 143 = .ok (.iload_n 2, 1) := by decide +kernel
theorem dX7_carryOut_144 : decode cX7_carryOut 144 = .ok (.invokevirtual 92, 3) := by decide +kernel
theorem dX7_carryOut_147 : decode cX7_carryOut 147 = .ok (.ifCond .ne 18, 3) := by decide +kernel
theorem dX7_carryOut_150 : decode cX7_carryOut 150 = .ok (.aload_n 0, 1) := by decide +kernel
theorem dX7_carryOut_151 : decode cX7_carryOut 151 = .ok (.iload_n 2, 1) := by decide +kernel
theorem dX7_carryOut_152 : decode cX7_carryOut 152 = .ok (.iconst 1, 1) := by decide +kernel
theorem dX7_carryOut_153 : decode cX7_carryOut 153 = .ok (.invokevirtual 289, 3) := by decide +kernel
theorem dX7_carryOut_156 : decode cX7_carryOut 156 = .ok (.ldc 99, 2) := by decide +kernel
theorem dX7_carryOut_158 : decode cX7_carryOut 158 = .ok (.if_icmp .eq 7, 3) := by decide +kernel
theorem dX7_carryOut_161 : decode cX7_carryOut 161 = .ok (.iconst 1, 1) := by decide +kernel
theorem dX7_carryOut_162 : decode cX7_carryOut 162 = .ok (.goto 4, 3) := by decide +kernel
theorem dX7_carryOut_165 : decode cX7_carryOut 165 = .ok (.iconst 0, 1) := by decide +kernel
theorem dX7_carryOut_166 : decode cX7_carryOut 166 = .ok (.ireturn, 1) := by decide +kernel
theorem dX7_carryOut_167 : decode cX7_carryOut 167 = .ok (.aload_n 0, 1) := by decide +kernel
theorem dX7_carryOut_168 : decode cX7_carryOut 168 = .ok (.iload_n 2, 1) := by decide +kernel
theorem dX7_carryOut_169 : decode cX7_carryOut 169 = .ok (.iconst 0, 1) := by decide +kernel
theorem dX7_carryOut_170 : decode cX7_carryOut 170 = .ok (.invokevirtual 289, 3) := by decide +kernel
theorem dX7_carryOut_173 : decode cX7_carryOut 173 = .ok (.iconst 1, 1) := by decide +kernel
theorem dX7_carryOut_174 : decode cX7_carryOut 174 = .ok (.if_icmp .ne 7, 3) := by decide +kernel
theorem dX7_carryOut_177 : decode cX7_carryOut 177 = .ok (.iconst 1, 1) := by decide +kernel
theorem dX7_carryOut_178 : decode cX7_carryOut 178 = .ok (.goto 4, 3) := by decide +kernel
theorem dX7_carryOut_181 : decode cX7_carryOut 181 = .ok (.iconst 0, 1) := by decide +kernel
theorem dX7_carryOut_182 : decode cX7_carryOut 182 = .ok (.ireturn, 1) := by decide +kernel
theorem dX7_carryOut_183 : decode cX7_carryOut 183 = .ok (.aload_n 0, 1) := by decide +kernel
theorem dX7_carryOut_184 : decode cX7_carryOut 184 = .ok (.getfield 10, 3) := by decide +kernel
theorem dX7_carryOut_187 : decode cX7_carryOut 187 = .ok (.iload_n 2, 1) := by decide +kernel
theorem dX7_carryOut_188 : decode cX7_carryOut 188 = .ok (.invokevirtual 177, 3) := by decide +kernel
theorem dX7_carryOut_191 : decode cX7_carryOut 191 = .ok (.ireturn, 1) := by decide +kernel
theorem dX7_within_0 : decode cX7_within 0 = .ok (.iload_n 0, 1) := by decide +kernel
theorem dX7_within_1 : decode cX7_within 1 = .ok (.iload_n 1, 1) := by decide +kernel
theorem dX7_within_2 : decode cX7_within 2 = .ok (.if_icmp .lt 12, 3) := by decide +kernel
theorem dX7_within_5 : decode cX7_within 5 = .ok (.iload_n 0, 1) := by decide +kernel
theorem dX7_within_6 : decode cX7_within 6 = .ok (.iload_n 2, 1) := by decide +kernel
theorem dX7_within_7 : decode cX7_within 7 = .ok (.if_icmp .gt 7, 3) := by decide +kernel
theorem dX7_within_10 : decode cX7_within 10 = .ok (.iconst 1, 1) := by decide +kernel
theorem dX7_within_11 : decode cX7_within 11 = .ok (.goto 4, 3) := by decide +kernel
theorem dX7_within_14 : decode cX7_within 14 = .ok (.iconst 0, 1) := by decide +kernel
theorem dX7_within_15 : decode cX7_within 15 = .ok (.ireturn, 1) := by decide +kernel
theorem dX7_asNumber_0 : decode cX7_asNumber 0 = .ok (.iload_n 0, 1) := by decide +kernel
theorem dX7_asNumber_1 : decode cX7_asNumber 1 = .ok (.ifCond .eq 7, 3) := by decide +kernel
theorem dX7_asNumber_4 : decode cX7_asNumber 4 = .ok (.iconst 1, 1) := by decide +kernel
theorem dX7_asNumber_5 : decode cX7_asNumber 5 = .ok (.goto 4, 3) := by decide +kernel
theorem dX7_asNumber_8 : decode cX7_asNumber 8 = .ok (.iconst 0, 1) := by decide +kernel
theorem dX7_asNumber_9 : decode cX7_asNumber 9 = .ok (.ireturn, 1) := by decide +kernel
theorem dX7_leastOf_0 : decode cX7_leastOf 0 = .ok (.iload_n 0, 1) := by decide +kernel
theorem dX7_leastOf_1 : decode cX7_leastOf 1 = .ok (.ifCond .eq 8, 3) := by decide +kernel
theorem dX7_leastOf_4 : decode cX7_leastOf 4 = .ok (.iload_n 0, 1) := by decide +kernel
theorem dX7_leastOf_5 : decode cX7_leastOf 5 = .ok (.iconst 1, 1) := by decide +kernel
theorem dX7_leastOf_6 : decode cX7_leastOf 6 = .ok (.if_icmp .ne 7, 3) := by decide +kernel
theorem dX7_leastOf_9 : decode cX7_leastOf 9 = .ok (.iconst 1, 1) := by decide +kernel
theorem dX7_leastOf_10 : decode cX7_leastOf 10 = .ok (.goto 4, 3) := by decide +kernel
theorem dX7_leastOf_13 : decode cX7_leastOf 13 = .ok (.iconst 0, 1) := by decide +kernel
theorem dX7_leastOf_14 : decode cX7_leastOf 14 = .ok (.ireturn, 1) := by decide +kernel
theorem dX7_mostOf_0 : decode cX7_mostOf 0 = .ok (.iload_n 0, 1) := by decide +kernel
theorem dX7_mostOf_1 : decode cX7_mostOf 1 = .ok (.iconst 2, 1) := by decide +kernel
theorem dX7_mostOf_2 : decode cX7_mostOf 2 = .ok (.if_icmp .ne 7, 3) := by decide +kernel
theorem dX7_mostOf_5 : decode cX7_mostOf 5 = .ok (.sipush 200, 3) := by decide +kernel
theorem dX7_mostOf_8 : decode cX7_mostOf 8 = .ok (.ireturn, 1) := by decide +kernel
theorem dX7_mostOf_9 : decode cX7_mostOf 9 = .ok (.iload_n 0, 1) := by decide +kernel
theorem dX7_mostOf_10 : decode cX7_mostOf 10 = .ok (.iconst 3, 1) := by decide +kernel
theorem dX7_mostOf_11 : decode cX7_mostOf 11 = .ok (.if_icmp .ne 9, 3) := by decide +kernel
theorem dX7_mostOf_14 : decode cX7_mostOf 14 = .ok (.sipush 200, 3) := by decide +kernel
theorem dX7_mostOf_17 : decode cX7_mostOf 17 = .ok (.goto 5, 3) := by decide +kernel
theorem dX7_mostOf_20 : decode cX7_mostOf 20 = .ok (.bipush 9, 2) := by decide +kernel
theorem dX7_mostOf_22 : decode cX7_mostOf 22 = .ok (.ireturn, 1) := by decide +kernel
set_option maxRecDepth 20000 in
theorem ggX7_leastTerm_X7_commonDivisor : GoodIn wsX7_leastTerm wsX7_commonDivisor := goodIn_r _ [8] (by decide +kernel) (by decide +kernel)
set_option maxRecDepth 20000 in
theorem gX7_leastTerm_X7_commonDivisor : GoodIn wsX7_leastTerm (va_wsS RX7 299 yX7_commonDivisor wsX7_commonDivisor) := goodIn_app (goodIn_of _ (by decide +kernel)) ggX7_leastTerm_X7_commonDivisor
theorem dX7_leastTerm_0 : decode cX7_leastTerm 0 = .ok (.iload 4, 2) := by decide +kernel
theorem dX7_leastTerm_2 : decode cX7_leastTerm 2 = .ok (.ifCond .ne 7, 3) := by decide +kernel
theorem dX7_leastTerm_5 : decode cX7_leastTerm 5 = .ok (.lload_n 0, 1) := by decide +kernel
theorem dX7_leastTerm_6 : decode cX7_leastTerm 6 = .ok (.goto 4, 3) := by decide +kernel
theorem dX7_leastTerm_9 : decode cX7_leastTerm 9 = .ok (.lload_n 2, 1) := by decide +kernel
theorem dX7_leastTerm_10 : decode cX7_leastTerm 10 = .ok (.lstore 5, 2) := by decide +kernel
theorem dX7_leastTerm_12 : decode cX7_leastTerm 12 = .ok (.lload_n 0, 1) := by decide +kernel
theorem dX7_leastTerm_13 : decode cX7_leastTerm 13 = .ok (.invokestatic 293, 3) := by decide +kernel
theorem dX7_leastTerm_16 : decode cX7_leastTerm 16 = .ok (.lload_n 2, 1) := by decide +kernel
theorem dX7_leastTerm_17 : decode cX7_leastTerm 17 = .ok (.invokestatic 299, 3) := by decide +kernel
theorem dX7_leastTerm_20 : decode cX7_leastTerm 20 = .ok (.lstore 7, 2) := by decide +kernel
theorem dX7_leastTerm_22 : decode cX7_leastTerm 22 = .ok (.lload 7, 2) := by decide +kernel
theorem dX7_leastTerm_24 : decode cX7_leastTerm 24 = .ok (.lconst 0, 1) := by decide +kernel
theorem dX7_leastTerm_25 : decode cX7_leastTerm 25 = .ok (.lcmp, 1) := by decide +kernel
theorem dX7_leastTerm_26 : decode cX7_leastTerm 26 = .ok (.ifCond .ne 8, 3) := by decide +kernel
theorem dX7_leastTerm_29 : decode cX7_leastTerm 29 = .ok (.lload 5, 2) := by decide +kernel
theorem dX7_leastTerm_31 : decode cX7_leastTerm 31 = .ok (.goto 8, 3) := by decide +kernel
theorem dX7_leastTerm_34 : decode cX7_leastTerm 34 = .ok (.lload 5, 2) := by decide +kernel
theorem dX7_leastTerm_36 : decode cX7_leastTerm 36 = .ok (.lload 7, 2) := by decide +kernel
theorem dX7_leastTerm_38 : decode cX7_leastTerm 38 = .ok (.ldiv, 1) := by decide +kernel
theorem dX7_leastTerm_39 : decode cX7_leastTerm 39 = .ok (.lreturn, 1) := by decide +kernel
theorem dX7_commonDivisor_0 : decode cX7_commonDivisor 0 = .ok (.iconst 0, 1) := by decide +kernel
theorem dX7_commonDivisor_1 : decode cX7_commonDivisor 1 = .ok (.istore 4, 2) := by decide +kernel
theorem dX7_commonDivisor_3 : decode cX7_commonDivisor 3 = .ok (.iload 4, 2) := by decide +kernel
theorem dX7_commonDivisor_5 : decode cX7_commonDivisor 5 = .ok (.sipush 200, 3) := by decide +kernel
theorem dX7_commonDivisor_8 : decode cX7_commonDivisor 8 = .ok (.if_icmp .ge 25, 3) := by decide +kernel
theorem dX7_commonDivisor_11 : decode cX7_commonDivisor 11 = .ok (.lload_n 2, 1) := by decide +kernel
theorem dX7_commonDivisor_12 : decode cX7_commonDivisor 12 = .ok (.lconst 0, 1) := by decide +kernel
theorem dX7_commonDivisor_13 : decode cX7_commonDivisor 13 = .ok (.lcmp, 1) := by decide +kernel
theorem dX7_commonDivisor_14 : decode cX7_commonDivisor 14 = .ok (.ifCond .eq 19, 3) := by decide +kernel
theorem dX7_commonDivisor_17 : decode cX7_commonDivisor 17 = .ok (.lload_n 0, 1) := by decide +kernel
theorem dX7_commonDivisor_18 : decode cX7_commonDivisor 18 = .ok (.lload_n 2, 1) := by decide +kernel
theorem dX7_commonDivisor_19 : decode cX7_commonDivisor 19 = .ok (.lrem, 1) := by decide +kernel
theorem dX7_commonDivisor_20 : decode cX7_commonDivisor 20 = .ok (.lstore 5, 2) := by decide +kernel
theorem dX7_commonDivisor_22 : decode cX7_commonDivisor 22 = .ok (.lload_n 2, 1) := by decide +kernel
theorem dX7_commonDivisor_23 : decode cX7_commonDivisor 23 = .ok (.lstore_n 0, 1) := by decide +kernel
theorem dX7_commonDivisor_24 : decode cX7_commonDivisor 24 = .ok (.lload 5, 2) := by decide +kernel
theorem dX7_commonDivisor_26 : decode cX7_commonDivisor 26 = .ok (.lstore_n 2, 1) := by decide +kernel
theorem dX7_commonDivisor_27 : decode cX7_commonDivisor 27 = .ok (.iinc 4 1, 3) := by decide +kernel
theorem dX7_commonDivisor_30 : decode cX7_commonDivisor 30 = .ok (.goto (-27), 3) := by decide +kernel
theorem dX7_commonDivisor_33 : decode cX7_commonDivisor 33 = .ok (.lload_n 0, 1) := by decide +kernel
theorem dX7_commonDivisor_34 : decode cX7_commonDivisor 34 = .ok (.lreturn, 1) := by decide +kernel
theorem dX7_wholeFrom_0 : decode cX7_wholeFrom 0 = .ok (.lload_n 0, 1) := by decide +kernel
theorem dX7_wholeFrom_1 : decode cX7_wholeFrom 1 = .ok (.lconst 0, 1) := by decide +kernel
theorem dX7_wholeFrom_2 : decode cX7_wholeFrom 2 = .ok (.lcmp, 1) := by decide +kernel
theorem dX7_wholeFrom_3 : decode cX7_wholeFrom 3 = .ok (.ifCond .le 9, 3) := by decide +kernel
theorem dX7_wholeFrom_6 : decode cX7_wholeFrom 6 = .ok (.lload_n 2, 1) := by decide +kernel
theorem dX7_wholeFrom_7 : decode cX7_wholeFrom 7 = .ok (.lconst 0, 1) := by decide +kernel
theorem dX7_wholeFrom_8 : decode cX7_wholeFrom 8 = .ok (.lcmp, 1) := by decide +kernel
theorem dX7_wholeFrom_9 : decode cX7_wholeFrom 9 = .ok (.ifCond .gt 7, 3) := by decide +kernel
theorem dX7_wholeFrom_12 : decode cX7_wholeFrom 12 = .ok (.lconst 0, 1) := by decide +kernel
theorem dX7_wholeFrom_13 : decode cX7_wholeFrom 13 = .ok (.goto 10, 3) := by decide +kernel
theorem dX7_wholeFrom_16 : decode cX7_wholeFrom 16 = .ok (.lload_n 0, 1) := by decide +kernel
theorem dX7_wholeFrom_17 : decode cX7_wholeFrom 17 = .ok (.lload_n 2, 1) := by decide +kernel
theorem dX7_wholeFrom_18 : decode cX7_wholeFrom 18 = .ok (.ladd, 1) := by decide +kernel
theorem dX7_wholeFrom_19 : decode cX7_wholeFrom 19 = .ok (.lconst 1, 1) := by decide +kernel
theorem dX7_wholeFrom_20 : decode cX7_wholeFrom 20 = .ok (.lsub, 1) := by decide +kernel
theorem dX7_wholeFrom_21 : decode cX7_wholeFrom 21 = .ok (.lload_n 2, 1) := by decide +kernel
theorem dX7_wholeFrom_22 : decode cX7_wholeFrom 22 = .ok (.ldiv, 1) := by decide +kernel
theorem dX7_wholeFrom_23 : decode cX7_wholeFrom 23 = .ok (.lreturn, 1) := by decide +kernel
set_option maxRecDepth 20000 in
theorem ggX7_compareFractions_J13_compare_74951 : GoodIn wsX7_compareFractions wsJ13_compare_74951 := goodIn_r _ [4] (by decide +kernel) (by decide +kernel)
set_option maxRecDepth 20000 in
theorem gX7_compareFractions_J13_compare_74951 : GoodIn wsX7_compareFractions (va_wsS RX7 303 yJ13_compare_74951 wsJ13_compare_74951) := goodIn_app (goodIn_of _ (by decide +kernel)) ggX7_compareFractions_J13_compare_74951
theorem dX7_compareFractions_0 : decode cX7_compareFractions 0 = .ok (.lload_n 2, 1) := by decide +kernel
theorem dX7_compareFractions_1 : decode cX7_compareFractions 1 = .ok (.lconst 0, 1) := by decide +kernel
theorem dX7_compareFractions_2 : decode cX7_compareFractions 2 = .ok (.lcmp, 1) := by decide +kernel
theorem dX7_compareFractions_3 : decode cX7_compareFractions 3 = .ok (.ifCond .le 10, 3) := by decide +kernel
theorem dX7_compareFractions_6 : decode cX7_compareFractions 6 = .ok (.lload 6, 2) := by decide +kernel
theorem dX7_compareFractions_8 : decode cX7_compareFractions 8 = .ok (.lconst 0, 1) := by decide +kernel
theorem dX7_compareFractions_9 : decode cX7_compareFractions 9 = .ok (.lcmp, 1) := by decide +kernel
theorem dX7_compareFractions_10 : decode cX7_compareFractions 10 = .ok (.ifCond .gt 5, 3) := by decide +kernel
theorem dX7_compareFractions_13 : decode cX7_compareFractions 13 = .ok (.iconst 0, 1) := by decide +kernel
theorem dX7_compareFractions_14 : decode cX7_compareFractions 14 = .ok (.ireturn, 1) := by decide +kernel
theorem dX7_compareFractions_15 : decode cX7_compareFractions 15 = .ok (.lload_n 0, 1) := by decide +kernel
theorem dX7_compareFractions_16 : decode cX7_compareFractions 16 = .ok (.lload_n 2, 1) := by decide +kernel
theorem dX7_compareFractions_17 : decode cX7_compareFractions 17 = .ok (.ldiv, 1) := by decide +kernel
theorem dX7_compareFractions_18 : decode cX7_compareFractions 18 = .ok (.lstore 8, 2) := by decide +kernel
theorem dX7_compareFractions_20 : decode cX7_compareFractions 20 = .ok (.lload 4, 2) := by decide +kernel
theorem dX7_compareFractions_22 : decode cX7_compareFractions 22 = .ok (.lload 6, 2) := by decide +kernel
theorem dX7_compareFractions_24 : decode cX7_compareFractions 24 = .ok (.ldiv, 1) := by decide +kernel
theorem dX7_compareFractions_25 : decode cX7_compareFractions 25 = .ok (.lstore 10, 2) := by decide +kernel
theorem dX7_compareFractions_27 : decode cX7_compareFractions 27 = .ok (.lload 8, 2) := by decide +kernel
theorem dX7_compareFractions_29 : decode cX7_compareFractions 29 = .ok (.lload 10, 2) := by decide +kernel
theorem dX7_compareFractions_31 : decode cX7_compareFractions 31 = .ok (.lcmp, 1) := by decide +kernel
theorem dX7_compareFractions_32 : decode cX7_compareFractions 32 = .ok (.ifCond .eq 11, 3) := by decide +kernel
theorem dX7_compareFractions_35 : decode cX7_compareFractions 35 = .ok (.lload 8, 2) := by decide +kernel
theorem dX7_compareFractions_37 : decode cX7_compareFractions 37 = .ok (.lload 10, 2) := by decide +kernel
theorem dX7_compareFractions_39 : decode cX7_compareFractions 39 = .ok (.invokestatic 303, 3) := by decide +kernel
theorem dX7_compareFractions_42 : decode cX7_compareFractions 42 = .ok (.ireturn, 1) := by decide +kernel
theorem dX7_compareFractions_43 : decode cX7_compareFractions 43 = .ok (.lload_n 0, 1) := by decide +kernel
theorem dX7_compareFractions_44 : decode cX7_compareFractions 44 = .ok (.lload_n 2, 1) := by decide +kernel
theorem dX7_compareFractions_45 : decode cX7_compareFractions 45 = .ok (.lrem, 1) := by decide +kernel
theorem dX7_compareFractions_46 : decode cX7_compareFractions 46 = .ok (.lload 6, 2) := by decide +kernel
theorem dX7_compareFractions_48 : decode cX7_compareFractions 48 = .ok (.lmul, 1) := by decide +kernel
theorem dX7_compareFractions_49 : decode cX7_compareFractions 49 = .ok (.lload 4, 2) := by decide +kernel
theorem dX7_compareFractions_51 : decode cX7_compareFractions 51 = .ok (.lload 6, 2) := by decide +kernel
theorem dX7_compareFractions_53 : decode cX7_compareFractions 53 = .ok (.lrem, 1) := by decide +kernel
theorem dX7_compareFractions_54 : decode cX7_compareFractions 54 = .ok (.lload_n 2, 1) := by decide +kernel
theorem dX7_compareFractions_55 : decode cX7_compareFractions 55 = .ok (.lmul, 1) := by decide +kernel
theorem dX7_compareFractions_56 : decode cX7_compareFractions 56 = .ok (.invokestatic 303, 3) := by decide +kernel
theorem dX7_compareFractions_59 : decode cX7_compareFractions 59 = .ok (.ireturn, 1) := by decide +kernel
set_option maxRecDepth 20000 in
theorem ggX8_init_X8_lay : GoodIn wsX8_init wsX8_lay := goodIn_r _ [34, 35, 36, 5, 6, 7, 8, 10, 11, 14, 37, 13, 38, 39, 40, 41, 42, 43, 44, 45, 46, 47, 48, 49, 50, 51, 52, 53, 54, 55, 56, 57, 58, 59, 60, 61, 62, 63, 64, 65, 66, 67, 68, 69, 70, 71, 72, 73, 74, 75, 76, 77, 78] (by decide +kernel) (by decide +kernel)
set_option maxRecDepth 20000 in
theorem gX8_init_X8_lay : GoodIn wsX8_init (wsV RX8 82 RX8 yX8_lay wsX8_lay) := goodIn_app (goodIn_of _ (by decide +kernel)) ggX8_init_X8_lay
theorem dX8_init_0 : decode cX8_init 0 = .ok (.aload_n 0, 1) := by decide +kernel
theorem dX8_init_1 : decode cX8_init 1 = .ok (.invokespecial 1, 3) := by decide +kernel
theorem dX8_init_4 : decode cX8_init 4 = .ok (.aload_n 0, 1) := by decide +kernel
theorem dX8_init_5 : decode cX8_init 5 = .ok (.bipush 6, 2) := by decide +kernel
theorem dX8_init_7 : decode cX8_init 7 = .ok (.newarray .int, 2) := by decide +kernel
theorem dX8_init_9 : decode cX8_init 9 = .ok (.putfield 7, 3) := by decide +kernel
theorem dX8_init_12 : decode cX8_init 12 = .ok (.aload_n 0, 1) := by decide +kernel
theorem dX8_init_13 : decode cX8_init 13 = .ok (.bipush 6, 2) := by decide +kernel
theorem dX8_init_15 : decode cX8_init 15 = .ok (.newarray .int, 2) := by decide +kernel
theorem dX8_init_17 : decode cX8_init 17 = .ok (.putfield 13, 3) := by decide +kernel
theorem dX8_init_20 : decode cX8_init 20 = .ok (.aload_n 0, 1) := by decide +kernel
theorem dX8_init_21 : decode cX8_init 21 = .ok (.bipush 6, 2) := by decide +kernel
theorem dX8_init_23 : decode cX8_init 23 = .ok (.newarray .int, 2) := by decide +kernel
theorem dX8_init_25 : decode cX8_init 25 = .ok (.putfield 16, 3) := by decide +kernel
theorem dX8_init_28 : decode cX8_init 28 = .ok (.aload_n 0, 1) := by decide +kernel
theorem dX8_init_29 : decode cX8_init 29 = .ok (.bipush 6, 2) := by decide +kernel
theorem dX8_init_31 : decode cX8_init 31 = .ok (.newarray .int, 2) := by decide +kernel
theorem dX8_init_33 : decode cX8_init 33 = .ok (.putfield 19, 3) := by decide +kernel
theorem dX8_init_36 : decode cX8_init 36 = .ok (.aload_n 0, 1) := by decide +kernel
theorem dX8_init_37 : decode cX8_init 37 = .ok (.bipush 6, 2) := by decide +kernel
theorem dX8_init_39 : decode cX8_init 39 = .ok (.newarray .boolean, 2) := by decide +kernel
theorem dX8_init_41 : decode cX8_init 41 = .ok (.putfield 22, 3) := by decide +kernel
theorem dX8_init_44 : decode cX8_init 44 = .ok (.aload_n 0, 1) := by decide +kernel
theorem dX8_init_45 : decode cX8_init 45 = .ok (.bipush 6, 2) := by decide +kernel
theorem dX8_init_47 : decode cX8_init 47 = .ok (.newarray .int, 2) := by decide +kernel
theorem dX8_init_49 : decode cX8_init 49 = .ok (.putfield 26, 3) := by decide +kernel
theorem dX8_init_52 : decode cX8_init 52 = .ok (.aload_n 0, 1) := by decide +kernel
theorem dX8_init_53 : decode cX8_init 53 = .ok (.bipush 36, 2) := by decide +kernel
theorem dX8_init_55 : decode cX8_init 55 = .ok (.newarray .int, 2) := by decide +kernel
theorem dX8_init_57 : decode cX8_init 57 = .ok (.putfield 29, 3) := by decide +kernel
theorem dX8_init_60 : decode cX8_init 60 = .ok (.aload_n 0, 1) := by decide +kernel
theorem dX8_init_61 : decode cX8_init 61 = .ok (.iconst 3, 1) := by decide +kernel
theorem dX8_init_62 : decode cX8_init 62 = .ok (.newarray .int, 2) := by decide +kernel
theorem dX8_init_64 : decode cX8_init 64 = .ok (.putfield 32, 3) := by decide +kernel
theorem dX8_init_67 : decode cX8_init 67 = .ok (.aload_n 0, 1) := by decide +kernel
theorem dX8_init_68 : decode cX8_init 68 = .ok (.bipush 6, 2) := by decide +kernel
theorem dX8_init_70 : decode cX8_init 70 = .ok (.newarray .boolean, 2) := by decide +kernel
theorem dX8_init_72 : decode cX8_init 72 = .ok (.putfield 35, 3) := by decide +kernel
theorem dX8_init_75 : decode cX8_init 75 = .ok (.aload_n 0, 1) := by decide +kernel
theorem dX8_init_76 : decode cX8_init 76 = .ok (.bipush 6, 2) := by decide +kernel
theorem dX8_init_78 : decode cX8_init 78 = .ok (.newarray .int, 2) := by decide +kernel
theorem dX8_init_80 : decode cX8_init 80 = .ok (.putfield 38, 3) := by decide +kernel
theorem dX8_init_83 : decode cX8_init 83 = .ok (.aload_n 0, 1) := by decide +kernel
theorem dX8_init_84 : decode cX8_init 84 = .ok (.bipush 6, 2) := by decide +kernel
theorem dX8_init_86 : decode cX8_init 86 = .ok (.newarray .int, 2) := by decide +kernel
theorem dX8_init_88 : decode cX8_init 88 = .ok (.putfield 41, 3) := by decide +kernel
theorem dX8_init_91 : decode cX8_init 91 = .ok (.aload_n 0, 1) := by decide +kernel
theorem dX8_init_92 : decode cX8_init 92 = .ok (.bipush 6, 2) := by decide +kernel
theorem dX8_init_94 : decode cX8_init 94 = .ok (.newarray .long, 2) := by decide +kernel
theorem dX8_init_96 : decode cX8_init 96 = .ok (.putfield 44, 3) := by decide +kernel
theorem dX8_init_99 : decode cX8_init 99 = .ok (.aload_n 0, 1) := by decide +kernel
theorem dX8_init_100 : decode cX8_init 100 = .ok (.bipush 42, 2) := by decide +kernel
theorem dX8_init_102 : decode cX8_init 102 = .ok (.newarray .long, 2) := by decide +kernel
theorem dX8_init_104 : decode cX8_init 104 = .ok (.putfield 48, 3) := by decide +kernel
theorem dX8_init_107 : decode cX8_init 107 = .ok (.aload_n 0, 1) := by decide +kernel
theorem dX8_init_108 : decode cX8_init 108 = .ok (.bipush 6, 2) := by decide +kernel
theorem dX8_init_110 : decode cX8_init 110 = .ok (.newarray .int, 2) := by decide +kernel
theorem dX8_init_112 : decode cX8_init 112 = .ok (.putfield 51, 3) := by decide +kernel
theorem dX8_init_115 : decode cX8_init 115 = .ok (.aload_n 0, 1) := by decide +kernel
theorem dX8_init_116 : decode cX8_init 116 = .ok (.bipush 6, 2) := by decide +kernel
theorem dX8_init_118 : decode cX8_init 118 = .ok (.newarray .int, 2) := by decide +kernel
theorem dX8_init_120 : decode cX8_init 120 = .ok (.putfield 54, 3) := by decide +kernel
theorem dX8_init_123 : decode cX8_init 123 = .ok (.aload_n 0, 1) := by decide +kernel
theorem dX8_init_124 : decode cX8_init 124 = .ok (.bipush 6, 2) := by decide +kernel
theorem dX8_init_126 : decode cX8_init 126 = .ok (.newarray .int, 2) := by decide +kernel
theorem dX8_init_128 : decode cX8_init 128 = .ok (.putfield 57, 3) := by decide +kernel
theorem dX8_init_131 : decode cX8_init 131 = .ok (.aload_n 0, 1) := by decide +kernel
theorem dX8_init_132 : decode cX8_init 132 = .ok (.bipush 6, 2) := by decide +kernel
theorem dX8_init_134 : decode cX8_init 134 = .ok (.newarray .int, 2) := by decide +kernel
theorem dX8_init_136 : decode cX8_init 136 = .ok (.putfield 60, 3) := by decide +kernel
theorem dX8_init_139 : decode cX8_init 139 = .ok (.aload_n 0, 1) := by decide +kernel
theorem dX8_init_140 : decode cX8_init 140 = .ok (.bipush 6, 2) := by decide +kernel
theorem dX8_init_142 : decode cX8_init 142 = .ok (.newarray .int, 2) := by decide +kernel
theorem dX8_init_144 : decode cX8_init 144 = .ok (.putfield 63, 3) := by decide +kernel
theorem dX8_init_147 : decode cX8_init 147 = .ok (.aload_n 0, 1) := by decide +kernel
theorem dX8_init_148 : decode cX8_init 148 = .ok (.sipush 160, 3) := by decide +kernel
theorem dX8_init_151 : decode cX8_init 151 = .ok (.newarray .int, 2) := by decide +kernel
theorem dX8_init_153 : decode cX8_init 153 = .ok (.putfield 66, 3) := by decide +kernel
theorem dX8_init_156 : decode cX8_init 156 = .ok (.aload_n 0, 1) := by decide +kernel
theorem dX8_init_157 : decode cX8_init 157 = .ok (.iconst (-1), 1) := by decide +kernel
theorem dX8_init_158 : decode cX8_init 158 = .ok (.putfield 69, 3) := by decide +kernel
theorem dX8_init_161 : decode cX8_init 161 = .ok (.aload_n 0, 1) := by decide +kernel
theorem dX8_init_162 : decode cX8_init 162 = .ok (.bipush 12, 2) := by decide +kernel
theorem dX8_init_164 : decode cX8_init 164 = .ok (.newarray .int, 2) := by decide +kernel
theorem dX8_init_166 : decode cX8_init 166 = .ok (.putfield 73, 3) := by decide +kernel
theorem dX8_init_169 : decode cX8_init 169 = .ok (.aload_n 0, 1) := by decide +kernel
theorem dX8_init_170 : decode cX8_init 170 = .ok (.bipush 12, 2) := by decide +kernel
theorem dX8_init_172 : decode cX8_init 172 = .ok (.newarray .int, 2) := by decide +kernel
theorem dX8_init_174 : decode cX8_init 174 = .ok (.putfield 76, 3) := by decide +kernel
theorem dX8_init_177 : decode cX8_init 177 = .ok (.aload_n 0, 1) := by decide +kernel
theorem dX8_init_178 : decode cX8_init 178 = .ok (.bipush 12, 2) := by decide +kernel
theorem dX8_init_180 : decode cX8_init 180 = .ok (.newarray .int, 2) := by decide +kernel
theorem dX8_init_182 : decode cX8_init 182 = .ok (.putfield 79, 3) := by decide +kernel
theorem dX8_init_185 : decode cX8_init 185 = .ok (.aload_n 0, 1) := by decide +kernel
theorem dX8_init_186 : decode cX8_init 186 = .ok (.iconst 4, 1) := by decide +kernel
theorem dX8_init_187 : decode cX8_init 187 = .ok (.iconst 2, 1) := by decide +kernel
theorem dX8_init_188 : decode cX8_init 188 = .ok (.invokevirtual 82, 3) := by decide +kernel
theorem dX8_init_191 : decode cX8_init 191 = .ok (.return_, 1) := by decide +kernel
theorem dX8_in_0 : decode cX8_in 0 = .ok (.lload_n 0, 1) := by decide +kernel
theorem dX8_in_1 : decode cX8_in 1 = .ok (.lload_n 2, 1) := by decide +kernel
theorem dX8_in_2 : decode cX8_in 2 = .ok (.lcmp, 1) := by decide +kernel
theorem dX8_in_3 : decode cX8_in 3 = .ok (.ifCond .lt 14, 3) := by decide +kernel
theorem dX8_in_6 : decode cX8_in 6 = .ok (.lload_n 0, 1) := by decide +kernel
theorem dX8_in_7 : decode cX8_in 7 = .ok (.lload 4, 2) := by decide +kernel
theorem dX8_in_9 : decode cX8_in 9 = .ok (.lcmp, 1) := by decide +kernel
theorem dX8_in_10 : decode cX8_in 10 = .ok (.ifCond .gt 7, 3) := by decide +kernel
theorem dX8_in_13 : decode cX8_in 13 = .ok (.iconst 1, 1) := by decide +kernel
theorem dX8_in_14 : decode cX8_in 14 = .ok (.goto 4, 3) := by decide +kernel
theorem dX8_in_17 : decode cX8_in 17 = .ok (.iconst 0, 1) := by decide +kernel
theorem dX8_in_18 : decode cX8_in 18 = .ok (.ireturn, 1) := by decide +kernel
theorem dX8_bit_0 : decode cX8_bit 0 = .ok (.iload_n 0, 1) := by decide +kernel
theorem dX8_bit_1 : decode cX8_bit 1 = .ok (.ifCond .eq 7, 3) := by decide +kernel
theorem dX8_bit_4 : decode cX8_bit 4 = .ok (.iconst 1, 1) := by decide +kernel
theorem dX8_bit_5 : decode cX8_bit 5 = .ok (.goto 4, 3) := by decide +kernel
theorem dX8_bit_8 : decode cX8_bit 8 = .ok (.iconst 0, 1) := by decide +kernel
theorem dX8_bit_9 : decode cX8_bit 9 = .ok (.ireturn, 1) := by decide +kernel
theorem dX8_gcd_0 : decode cX8_gcd 0 = .ok (.lload_n 0, 1) := by decide +kernel
theorem dX8_gcd_1 : decode cX8_gcd 1 = .ok (.lconst 0, 1) := by decide +kernel
theorem dX8_gcd_2 : decode cX8_gcd 2 = .ok (.lcmp, 1) := by decide +kernel
theorem dX8_gcd_3 : decode cX8_gcd 3 = .ok (.ifCond .ge 9, 3) := by decide +kernel
theorem dX8_gcd_6 : decode cX8_gcd 6 = .ok (.lconst 0, 1) := by decide +kernel
theorem dX8_gcd_7 : decode cX8_gcd 7 = .ok (.lload_n 0, 1) := by decide +kernel
theorem dX8_gcd_8 : decode cX8_gcd 8 = .ok (.lsub, 1) := by decide +kernel
theorem dX8_gcd_9 : decode cX8_gcd 9 = .ok (.goto 4, 3) := by decide +kernel
theorem dX8_gcd_12 : decode cX8_gcd 12 = .ok (.lload_n 0, 1) := by decide +kernel
theorem dX8_gcd_13 : decode cX8_gcd 13 = .ok (.lstore 4, 2) := by decide +kernel
theorem dX8_gcd_15 : decode cX8_gcd 15 = .ok (.lload_n 2, 1) := by decide +kernel
theorem dX8_gcd_16 : decode cX8_gcd 16 = .ok (.lstore 6, 2) := by decide +kernel
theorem dX8_gcd_18 : decode cX8_gcd 18 = .ok (.lload 6, 2) := by decide +kernel
theorem dX8_gcd_20 : decode cX8_gcd 20 = .ok (.lconst 0, 1) := by decide +kernel
theorem dX8_gcd_21 : decode cX8_gcd 21 = .ok (.lcmp, 1) := by decide +kernel
theorem dX8_gcd_22 : decode cX8_gcd 22 = .ok (.ifCond .eq 21, 3) := by decide +kernel
theorem dX8_gcd_25 : decode cX8_gcd 25 = .ok (.lload 4, 2) := by decide +kernel
theorem dX8_gcd_27 : decode cX8_gcd 27 = .ok (.lload 6, 2) := by decide +kernel
theorem dX8_gcd_29 : decode cX8_gcd 29 = .ok (.lrem, 1) := by decide +kernel
theorem dX8_gcd_30 : decode cX8_gcd 30 = .ok (.lstore 8, 2) := by decide +kernel
theorem dX8_gcd_32 : decode cX8_gcd 32 = .ok (.lload 6, 2) := by decide +kernel
theorem dX8_gcd_34 : decode cX8_gcd 34 = .ok (.lstore 4, 2) := by decide +kernel
theorem dX8_gcd_36 : decode cX8_gcd 36 = .ok (.lload 8, 2) := by decide +kernel
theorem dX8_gcd_38 : decode cX8_gcd 38 = .ok (.lstore 6, 2) := by decide +kernel
theorem dX8_gcd_40 : decode cX8_gcd 40 = .ok (.goto (-22), 3) := by decide +kernel
theorem dX8_gcd_43 : decode cX8_gcd 43 = .ok (.lload 4, 2) := by decide +kernel
theorem dX8_gcd_45 : decode cX8_gcd 45 = .ok (.lreturn, 1) := by decide +kernel
theorem dX8_held_0 : decode cX8_held 0 = .ok (.lload_n 0, 1) := by decide +kernel
theorem dX8_held_1 : decode cX8_held 1 = .ok (.lstore 8, 2) := by decide +kernel
theorem dX8_held_3 : decode cX8_held 3 = .ok (.lload_n 2, 1) := by decide +kernel
theorem dX8_held_4 : decode cX8_held 4 = .ok (.lstore 10, 2) := by decide +kernel
theorem dX8_held_6 : decode cX8_held 6 = .ok (.lload 4, 2) := by decide +kernel
theorem dX8_held_8 : decode cX8_held 8 = .ok (.lstore 12, 2) := by decide +kernel
theorem dX8_held_10 : decode cX8_held 10 = .ok (.lload 6, 2) := by decide +kernel
theorem dX8_held_12 : decode cX8_held 12 = .ok (.lstore 14, 2) := by decide +kernel
theorem dX8_held_14 : decode cX8_held 14 = .ok (.iconst 1, 1) := by decide +kernel
theorem dX8_held_15 : decode cX8_held 15 = .ok (.istore 16, 2) := by decide +kernel
theorem dX8_held_17 : decode cX8_held 17 = .ok (.lload 8, 2) := by decide +kernel
theorem dX8_held_19 : decode cX8_held 19 = .ok (.lload 10, 2) := by decide +kernel
theorem dX8_held_21 : decode cX8_held 21 = .ok (.ldiv, 1) := by decide +kernel
theorem dX8_held_22 : decode cX8_held 22 = .ok (.lstore 17, 2) := by decide +kernel
theorem dX8_held_24 : decode cX8_held 24 = .ok (.lload 12, 2) := by decide +kernel
theorem dX8_held_26 : decode cX8_held 26 = .ok (.lload 14, 2) := by decide +kernel
theorem dX8_held_28 : decode cX8_held 28 = .ok (.ldiv, 1) := by decide +kernel
theorem dX8_held_29 : decode cX8_held 29 = .ok (.lstore 19, 2) := by decide +kernel
theorem dX8_held_31 : decode cX8_held 31 = .ok (.lload 17, 2) := by decide +kernel
theorem dX8_held_33 : decode cX8_held 33 = .ok (.lload 19, 2) := by decide +kernel
theorem dX8_held_35 : decode cX8_held 35 = .ok (.lcmp, 1) := by decide +kernel
theorem dX8_held_36 : decode cX8_held 36 = .ok (.ifCond .eq 21, 3) := by decide +kernel
theorem dX8_held_39 : decode cX8_held 39 = .ok (.lload 17, 2) := by decide +kernel
theorem dX8_held_41 : decode cX8_held 41 = .ok (.lload 19, 2) := by decide +kernel
theorem dX8_held_43 : decode cX8_held 43 = .ok (.lcmp, 1) := by decide +kernel
theorem dX8_held_44 : decode cX8_held 44 = .ok (.ifCond .ge 10, 3) := by decide +kernel
theorem dX8_held_47 : decode cX8_held 47 = .ok (.iconst 0, 1) := by decide +kernel
theorem dX8_held_48 : decode cX8_held 48 = .ok (.iload 16, 2) := by decide +kernel
theorem dX8_held_50 : decode cX8_held 50 = .ok (.isub, 1) := by decide +kernel
theorem dX8_held_51 : decode cX8_held 51 = .ok (.goto 5, 3) := by decide +kernel
theorem dX8_held_54 : decode cX8_held 54 = .ok (.iload 16, 2) := by decide +kernel
theorem dX8_held_56 : decode cX8_held 56 = .ok (.ireturn, 1) := by decide +kernel
theorem dX8_held_57 : decode cX8_held 57 = .ok (.lload 8, 2) := by decide +kernel
theorem dX8_held_59 : decode cX8_held 59 = .ok (.lload 10, 2) := by decide +kernel
theorem dX8_held_61 : decode cX8_held 61 = .ok (.lrem, 1) := by decide +kernel
theorem dX8_held_62 : decode cX8_held 62 = .ok (.lstore 8, 2) := by decide +kernel
theorem dX8_held_64 : decode cX8_held 64 = .ok (.lload 12, 2) := by decide +kernel
theorem dX8_held_66 : decode cX8_held 66 = .ok (.lload 14, 2) := by decide +kernel
theorem dX8_held_68 : decode cX8_held 68 = .ok (.lrem, 1) := by decide +kernel
theorem dX8_held_69 : decode cX8_held 69 = .ok (.lstore 12, 2) := by decide +kernel
theorem dX8_held_71 : decode cX8_held 71 = .ok (.lload 8, 2) := by decide +kernel
theorem dX8_held_73 : decode cX8_held 73 = .ok (.lconst 0, 1) := by decide +kernel
theorem dX8_held_74 : decode cX8_held 74 = .ok (.lcmp, 1) := by decide +kernel
theorem dX8_held_75 : decode cX8_held 75 = .ok (.ifCond .eq 10, 3) := by decide +kernel
theorem dX8_held_78 : decode cX8_held 78 = .ok (.lload 12, 2) := by decide +kernel
theorem dX8_held_80 : decode cX8_held 80 = .ok (.lconst 0, 1) := by decide +kernel
theorem dX8_held_81 : decode cX8_held 81 = .ok (.lcmp, 1) := by decide +kernel
theorem dX8_held_82 : decode cX8_held 82 = .ok (.ifCond .ne 32, 3) := by decide +kernel
theorem dX8_held_85 : decode cX8_held 85 = .ok (.lload 8, 2) := by decide +kernel
theorem dX8_held_87 : decode cX8_held 87 = .ok (.lload 12, 2) := by decide +kernel
theorem dX8_held_89 : decode cX8_held 89 = .ok (.lcmp, 1) := by decide +kernel
theorem dX8_held_90 : decode cX8_held 90 = .ok (.ifCond .ne 7, 3) := by decide +kernel
theorem dX8_held_93 : decode cX8_held 93 = .ok (.iconst 0, 1) := by decide +kernel
theorem dX8_held_94 : decode cX8_held 94 = .ok (.goto 19, 3) := by decide +kernel
theorem dX8_held_97 : decode cX8_held 97 = .ok (.lload 8, 2) := by decide +kernel
theorem dX8_held_99 : decode cX8_held 99 = .ok (.lconst 0, 1) := by decide +kernel
theorem dX8_held_100 : decode cX8_held 100 = .ok (.lcmp, 1) := by decide +kernel
theorem dX8_held_101 : decode cX8_held 101 = .ok (.ifCond .ne 10, 3) := by decide +kernel
theorem dX8_held_104 : decode cX8_held 104 = .ok (.iconst 0, 1) := by decide +kernel
theorem dX8_held_105 : decode cX8_held 105 = .ok (.iload 16, 2) := by decide +kernel
theorem dX8_held_107 : decode cX8_held 107 = .ok (.isub, 1) := by decide +kernel
theorem dX8_held_108 : decode cX8_held 108 = .ok (.goto 5, 3) := by decide +kernel
theorem dX8_held_111 : decode cX8_held 111 = .ok (.iload 16, 2) := by decide +kernel
theorem dX8_held_113 : decode cX8_held 113 = .ok (.ireturn, 1) := by decide +kernel
theorem dX8_held_114 : decode cX8_held 114 = .ok (.lload 8, 2) := by decide +kernel
theorem dX8_held_116 : decode cX8_held 116 = .ok (.lstore 21, 2) := by decide +kernel
theorem dX8_held_118 : decode cX8_held 118 = .ok (.lload 10, 2) := by decide +kernel
theorem dX8_held_120 : decode cX8_held 120 = .ok (.lstore 8, 2) := by decide +kernel
theorem dX8_held_122 : decode cX8_held 122 = .ok (.lload 21, 2) := by decide +kernel
theorem dX8_held_124 : decode cX8_held 124 = .ok (.lstore 10, 2) := by decide +kernel
theorem dX8_held_126 : decode cX8_held 126 = .ok (.lload 12, 2) := by decide +kernel
theorem dX8_held_128 : decode cX8_held 128 = .ok (.lstore 21, 2) := by decide +kernel
theorem dX8_held_130 : decode cX8_held 130 = .ok (.lload 14, 2) := by decide +kernel
theorem dX8_held_132 : decode cX8_held 132 = .ok (.lstore 12, 2) := by decide +kernel
theorem dX8_held_134 : decode cX8_held 134 = .ok (.lload 21, 2) := by decide +kernel
theorem dX8_held_136 : decode cX8_held 136 = .ok (.lstore 14, 2) := by decide +kernel
theorem dX8_held_138 : decode cX8_held 138 = .ok (.iconst 0, 1) := by decide +kernel
theorem dX8_held_139 : decode cX8_held 139 = .ok (.iload 16, 2) := by decide +kernel
theorem dX8_held_141 : decode cX8_held 141 = .ok (.isub, 1) := by decide +kernel
theorem dX8_held_142 : decode cX8_held 142 = .ok (.istore 16, 2) := by decide +kernel
theorem dX8_held_144 : decode cX8_held 144 = .ok (.goto (-127), 3) := by decide +kernel
theorem dX8_lay_0 : decode cX8_lay 0 = .ok (.aload_n 0, 1) := by decide +kernel
theorem dX8_lay_1 : decode cX8_lay 1 = .ok (.iload_n 1, 1) := by decide +kernel
theorem dX8_lay_2 : decode cX8_lay 2 = .ok (.putfield 86, 3) := by decide +kernel
theorem dX8_lay_5 : decode cX8_lay 5 = .ok (.aload_n 0, 1) := by decide +kernel
theorem dX8_lay_6 : decode cX8_lay 6 = .ok (.iload_n 2, 1) := by decide +kernel
theorem dX8_lay_7 : decode cX8_lay 7 = .ok (.putfield 89, 3) := by decide +kernel
theorem dX8_lay_10 : decode cX8_lay 10 = .ok (.iconst 0, 1) := by decide +kernel
theorem dX8_lay_11 : decode cX8_lay 11 = .ok (.istore_n 3, 1) := by decide +kernel
theorem dX8_lay_12 : decode cX8_lay 12 = .ok (.iload_n 3, 1) := by decide +kernel
theorem dX8_lay_13 : decode cX8_lay 13 = .ok (.aload_n 0, 1) := by decide +kernel
theorem dX8_lay_14 : decode cX8_lay 14 = .ok (.getfield 86, 3) := by decide +kernel
theorem dX8_lay_17 : decode cX8_lay 17 = .ok (.if_icmp .ge 58, 3) := by decide +kernel
theorem dX8_lay_20 : decode cX8_lay 20 = .ok (.aload_n 0, 1) := by decide +kernel
theorem dX8_lay_21 : decode cX8_lay 21 = .ok (.getfield 7, 3) := by decide +kernel
theorem dX8_lay_24 : decode cX8_lay 24 = .ok (.iload_n 3, 1) := by decide +kernel
theorem dX8_lay_25 : decode cX8_lay 25 = .ok (.iconst 5, 1) := by decide +kernel
theorem dX8_lay_26 : decode cX8_lay 26 = .ok (.iastore, 1) := by decide +kernel
theorem dX8_lay_27 : decode cX8_lay 27 = .ok (.aload_n 0, 1) := by decide +kernel
theorem dX8_lay_28 : decode cX8_lay 28 = .ok (.getfield 13, 3) := by decide +kernel
theorem dX8_lay_31 : decode cX8_lay 31 = .ok (.iload_n 3, 1) := by decide +kernel
theorem dX8_lay_32 : decode cX8_lay 32 = .ok (.iconst 3, 1) := by decide +kernel
theorem dX8_lay_33 : decode cX8_lay 33 = .ok (.iastore, 1) := by decide +kernel
theorem dX8_lay_34 : decode cX8_lay 34 = .ok (.aload_n 0, 1) := by decide +kernel
theorem dX8_lay_35 : decode cX8_lay 35 = .ok (.getfield 16, 3) := by decide +kernel
theorem dX8_lay_38 : decode cX8_lay 38 = .ok (.iload_n 3, 1) := by decide +kernel
theorem dX8_lay_39 : decode cX8_lay 39 = .ok (.iconst 0, 1) := by decide +kernel
theorem dX8_lay_40 : decode cX8_lay 40 = .ok (.iastore, 1) := by decide +kernel
theorem dX8_lay_41 : decode cX8_lay 41 = .ok (.aload_n 0, 1) := by decide +kernel
theorem dX8_lay_42 : decode cX8_lay 42 = .ok (.getfield 19, 3) := by decide +kernel
theorem dX8_lay_45 : decode cX8_lay 45 = .ok (.iload_n 3, 1) := by decide +kernel
theorem dX8_lay_46 : decode cX8_lay 46 = .ok (.iconst 0, 1) := by decide +kernel
theorem dX8_lay_47 : decode cX8_lay 47 = .ok (.iastore, 1) := by decide +kernel
theorem dX8_lay_48 : decode cX8_lay 48 = .ok (.aload_n 0, 1) := by decide +kernel
theorem dX8_lay_49 : decode cX8_lay 49 = .ok (.getfield 22, 3) := by decide +kernel
theorem dX8_lay_52 : decode cX8_lay 52 = .ok (.iload_n 3, 1) := by decide +kernel
theorem dX8_lay_53 : decode cX8_lay 53 = .ok (.iconst 0, 1) := by decide +kernel
theorem dX8_lay_54 : decode cX8_lay 54 = .ok (.bastore, 1) := by decide +kernel
theorem dX8_lay_55 : decode cX8_lay 55 = .ok (.aload_n 0, 1) := by decide +kernel
theorem dX8_lay_56 : decode cX8_lay 56 = .ok (.getfield 26, 3) := by decide +kernel
theorem dX8_lay_59 : decode cX8_lay 59 = .ok (.iload_n 3, 1) := by decide +kernel
theorem dX8_lay_60 : decode cX8_lay 60 = .ok (.iload_n 3, 1) := by decide +kernel
theorem dX8_lay_61 : decode cX8_lay 61 = .ok (.iastore, 1) := by decide +kernel
theorem dX8_lay_62 : decode cX8_lay 62 = .ok (.aload_n 0, 1) := by decide +kernel
theorem dX8_lay_63 : decode cX8_lay 63 = .ok (.getfield 35, 3) := by decide +kernel
theorem dX8_lay_66 : decode cX8_lay 66 = .ok (.iload_n 3, 1) := by decide +kernel
theorem dX8_lay_67 : decode cX8_lay 67 = .ok (.iconst 0, 1) := by decide +kernel
theorem dX8_lay_68 : decode cX8_lay 68 = .ok (.bastore, 1) := by decide +kernel
theorem dX8_lay_69 : decode cX8_lay 69 = .ok (.iinc 3 1, 3) := by decide +kernel
theorem dX8_lay_72 : decode cX8_lay 72 = .ok (.goto (-60), 3) := by decide +kernel
theorem dX8_lay_75 : decode cX8_lay 75 = .ok (.aload_n 0, 1) := by decide +kernel
theorem dX8_lay_76 : decode cX8_lay 76 = .ok (.iconst 0, 1) := by decide +kernel
theorem dX8_lay_77 : decode cX8_lay 77 = .ok (.putfield 92, 3) := by decide +kernel
theorem dX8_lay_80 : decode cX8_lay 80 = .ok (.aload_n 0, 1) := by decide +kernel
theorem dX8_lay_81 : decode cX8_lay 81 = .ok (.getfield 32, 3) := by decide +kernel
theorem dX8_lay_84 : decode cX8_lay 84 = .ok (.iconst 0, 1) := by decide +kernel
theorem dX8_lay_85 : decode cX8_lay 85 = .ok (.iconst 1, 1) := by decide +kernel
theorem dX8_lay_86 : decode cX8_lay 86 = .ok (.iastore, 1) := by decide +kernel
theorem dX8_lay_87 : decode cX8_lay 87 = .ok (.aload_n 0, 1) := by decide +kernel
theorem dX8_lay_88 : decode cX8_lay 88 = .ok (.getfield 32, 3) := by decide +kernel
theorem dX8_lay_91 : decode cX8_lay 91 = .ok (.iconst 1, 1) := by decide +kernel
theorem dX8_lay_92 : decode cX8_lay 92 = .ok (.iconst 2, 1) := by decide +kernel
theorem dX8_lay_93 : decode cX8_lay 93 = .ok (.iastore, 1) := by decide +kernel
theorem dX8_lay_94 : decode cX8_lay 94 = .ok (.aload_n 0, 1) := by decide +kernel
theorem dX8_lay_95 : decode cX8_lay 95 = .ok (.getfield 32, 3) := by decide +kernel
theorem dX8_lay_98 : decode cX8_lay 98 = .ok (.iconst 2, 1) := by decide +kernel
theorem dX8_lay_99 : decode cX8_lay 99 = .ok (.iconst 1, 1) := by decide +kernel
theorem dX8_lay_100 : decode cX8_lay 100 = .ok (.iastore, 1) := by decide +kernel
theorem dX8_lay_101 : decode cX8_lay 101 = .ok (.return_, 1) := by decide +kernel
set_option maxRecDepth 20000 in
theorem ggX8_joint_X8_in : GoodIn wsX8_joint wsX8_in := goodIn_r _ [9] (by decide +kernel) (by decide +kernel)
set_option maxRecDepth 20000 in
theorem gX8_joint_X8_in : GoodIn wsX8_joint (va_wsS RX8 99 yX8_in wsX8_in) := goodIn_app (goodIn_of _ (by decide +kernel)) ggX8_joint_X8_in
set_option maxRecDepth 20000 in
theorem ggX8_joint_X8_lay : GoodIn wsX8_joint wsX8_lay := goodIn_r _ [13, 5, 14, 15, 16, 17, 18, 19, 20, 21, 22, 23, 24, 25, 26, 27, 28, 29, 30, 31, 32, 33, 34, 35, 36, 37, 38, 39, 40, 41, 42, 43, 44, 45, 46, 47, 48, 49, 50, 51, 52, 53, 54, 55, 56, 57, 58, 59, 60, 61, 62, 63, 64] (by decide +kernel) (by decide +kernel)
set_option maxRecDepth 20000 in
theorem gX8_joint_X8_lay : GoodIn wsX8_joint (wsV RX8 82 RX8 yX8_lay wsX8_lay) := goodIn_app (goodIn_of _ (by decide +kernel)) ggX8_joint_X8_lay
theorem dX8_joint_0 : decode cX8_joint 0 = .ok (.iload_n 1, 1) := by decide +kernel
theorem dX8_joint_1 : decode cX8_joint 1 = .ok (.i2l, 1) := by decide +kernel
theorem dX8_joint_2 : decode cX8_joint 2 = .ok (.ldc2_w 95, 3) := by decide +kernel
theorem dX8_joint_5 : decode cX8_joint 5 = .ok (.ldc2_w 97, 3) := by decide +kernel
theorem dX8_joint_8 : decode cX8_joint 8 = .ok (.invokestatic 99, 3) := by decide +kernel
theorem dX8_joint_11 : decode cX8_joint 11 = .ok (.ifCond .eq 15, 3) := by decide +kernel
theorem dX8_joint_14 : decode cX8_joint 14 = .ok (.iload_n 2, 1) := by decide +kernel
theorem dX8_joint_15 : decode cX8_joint 15 = .ok (.i2l, 1) := by decide +kernel
theorem dX8_joint_16 : decode cX8_joint 16 = .ok (.lconst 1, 1) := by decide +kernel
theorem dX8_joint_17 : decode cX8_joint 17 = .ok (.ldc2_w 103, 3) := by decide +kernel
theorem dX8_joint_20 : decode cX8_joint 20 = .ok (.invokestatic 99, 3) := by decide +kernel
theorem dX8_joint_23 : decode cX8_joint 23 = .ok (.ifCond .ne 6, 3) := by decide +kernel
theorem dX8_joint_26 : decode cX8_joint 26 = .ok (.ldc 105, 2) := by decide +kernel
theorem dX8_joint_28 : decode cX8_joint 28 = .ok (.ireturn, 1) := by decide +kernel
theorem dX8_joint_29 : decode cX8_joint 29 = .ok (.aload_n 0, 1) := by decide +kernel
theorem dX8_joint_30 : decode cX8_joint 30 = .ok (.iload_n 1, 1) := by decide +kernel
theorem dX8_joint_31 : decode cX8_joint 31 = .ok (.iload_n 2, 1) := by decide +kernel
theorem dX8_joint_32 : decode cX8_joint 32 = .ok (.invokevirtual 82, 3) := by decide +kernel
theorem dX8_joint_35 : decode cX8_joint 35 = .ok (.aload_n 0, 1) := by decide +kernel
theorem dX8_joint_36 : decode cX8_joint 36 = .ok (.getfield 86, 3) := by decide +kernel
theorem dX8_joint_39 : decode cX8_joint 39 = .ok (.ireturn, 1) := by decide +kernel
set_option maxRecDepth 20000 in
theorem ggX8_noBolt_X8_in : GoodIn wsX8_noBolt wsX8_in := goodIn_r _ [5] (by decide +kernel) (by decide +kernel)
set_option maxRecDepth 20000 in
theorem gX8_noBolt_X8_in : GoodIn wsX8_noBolt (va_wsS RX8 99 yX8_in wsX8_in) := goodIn_app (goodIn_of _ (by decide +kernel)) ggX8_noBolt_X8_in
theorem dX8_noBolt_0 : decode cX8_noBolt 0 = .ok (.iload_n 1, 1) := by decide +kernel
theorem dX8_noBolt_1 : decode cX8_noBolt 1 = .ok (.i2l, 1) := by decide +kernel
theorem dX8_noBolt_2 : decode cX8_noBolt 2 = .ok (.lconst 0, 1) := by decide +kernel
theorem dX8_noBolt_3 : decode cX8_noBolt 3 = .ok (.aload_n 0, 1) := by decide +kernel
theorem dX8_noBolt_4 : decode cX8_noBolt 4 = .ok (.getfield 86, 3) := by decide +kernel
theorem dX8_noBolt_7 : decode cX8_noBolt 7 = .ok (.iconst 1, 1) := by decide +kernel
theorem dX8_noBolt_8 : decode cX8_noBolt 8 = .ok (.isub, 1) := by decide +kernel
theorem dX8_noBolt_9 : decode cX8_noBolt 9 = .ok (.i2l, 1) := by decide +kernel
theorem dX8_noBolt_10 : decode cX8_noBolt 10 = .ok (.invokestatic 99, 3) := by decide +kernel
theorem dX8_noBolt_13 : decode cX8_noBolt 13 = .ok (.ifCond .ne 7, 3) := by decide +kernel
theorem dX8_noBolt_16 : decode cX8_noBolt 16 = .ok (.iconst 1, 1) := by decide +kernel
theorem dX8_noBolt_17 : decode cX8_noBolt 17 = .ok (.goto 4, 3) := by decide +kernel
theorem dX8_noBolt_20 : decode cX8_noBolt 20 = .ok (.iconst 0, 1) := by decide +kernel
theorem dX8_noBolt_21 : decode cX8_noBolt 21 = .ok (.ireturn, 1) := by decide +kernel
set_option maxRecDepth 20000 in
theorem ggX8_set_X8_noBolt : GoodIn wsX8_set wsX8_noBolt := goodIn_r _ [14, 15, 16, 17, 13, 18, 19, 20, 21, 22, 23, 24, 25, 26, 27, 28, 29, 30, 31, 32, 33, 34, 35, 36, 37, 38, 39, 40, 41, 42, 43, 44, 45, 46, 47, 48, 49, 50, 51, 52, 53, 54, 55, 56, 57, 58, 59] (by decide +kernel) (by decide +kernel)
set_option maxRecDepth 20000 in
theorem gX8_set_X8_noBolt : GoodIn wsX8_set (wsV RX8 106 RX8 yX8_noBolt wsX8_noBolt) := goodIn_app (goodIn_of _ (by decide +kernel)) ggX8_set_X8_noBolt
set_option maxRecDepth 20000 in
theorem ggX8_set_X8_in : GoodIn wsX8_set wsX8_in := goodIn_r _ [18] (by decide +kernel) (by decide +kernel)
set_option maxRecDepth 20000 in
theorem gX8_set_X8_in : GoodIn wsX8_set (va_wsS RX8 99 yX8_in wsX8_in) := goodIn_app (goodIn_of _ (by decide +kernel)) ggX8_set_X8_in
theorem dX8_set_0 : decode cX8_set 0 = .ok (.aload_n 0, 1) := by decide +kernel
theorem dX8_set_1 : decode cX8_set 1 = .ok (.iload_n 1, 1) := by decide +kernel
theorem dX8_set_2 : decode cX8_set 2 = .ok (.invokevirtual 106, 3) := by decide +kernel
theorem dX8_set_5 : decode cX8_set 5 = .ok (.ifCond .eq 6, 3) := by decide +kernel
theorem dX8_set_8 : decode cX8_set 8 = .ok (.ldc 110, 2) := by decide +kernel
theorem dX8_set_10 : decode cX8_set 10 = .ok (.ireturn, 1) := by decide +kernel
theorem dX8_set_11 : decode cX8_set 11 = .ok (.iload_n 2, 1) := by decide +kernel
theorem dX8_set_12 : decode cX8_set 12 = .ok (.i2l, 1) := by decide +kernel
theorem dX8_set_13 : decode cX8_set 13 = .ok (.lconst 0, 1) := by decide +kernel
theorem dX8_set_14 : decode cX8_set 14 = .ok (.ldc2_w 95, 3) := by decide +kernel
theorem dX8_set_17 : decode cX8_set 17 = .ok (.invokestatic 99, 3) := by decide +kernel
theorem dX8_set_20 : decode cX8_set 20 = .ok (.ifCond .eq 35, 3) := by decide +kernel
theorem dX8_set_23 : decode cX8_set 23 = .ok (.iload_n 3, 1) := by decide +kernel
theorem dX8_set_24 : decode cX8_set 24 = .ok (.i2l, 1) := by decide +kernel
theorem dX8_set_25 : decode cX8_set 25 = .ok (.iload_n 2, 1) := by decide +kernel
theorem dX8_set_26 : decode cX8_set 26 = .ok (.iconst 2, 1) := by decide +kernel
theorem dX8_set_27 : decode cX8_set 27 = .ok (.if_icmp .ge 7, 3) := by decide +kernel
theorem dX8_set_30 : decode cX8_set 30 = .ok (.lconst 1, 1) := by decide +kernel
theorem dX8_set_31 : decode cX8_set 31 = .ok (.goto 4, 3) := by decide +kernel
theorem dX8_set_34 : decode cX8_set 34 = .ok (.lconst 0, 1) := by decide +kernel
theorem dX8_set_35 : decode cX8_set 35 = .ok (.iload_n 2, 1) := by decide +kernel
theorem dX8_set_36 : decode cX8_set 36 = .ok (.iconst 2, 1) := by decide +kernel
theorem dX8_set_37 : decode cX8_set 37 = .ok (.if_icmp .ge 9, 3) := by decide +kernel
theorem dX8_set_40 : decode cX8_set 40 = .ok (.ldc2_w 103, 3) := by decide +kernel
theorem dX8_set_43 : decode cX8_set 43 = .ok (.goto 6, 3) := by decide +kernel
theorem dX8_set_46 : decode cX8_set 46 = .ok (.ldc2_w 111, 3) := by decide +kernel
theorem dX8_set_49 : decode cX8_set 49 = .ok (.invokestatic 99, 3) := by decide +kernel
theorem dX8_set_52 : decode cX8_set 52 = .ok (.ifCond .ne 6, 3) := by decide +kernel
theorem dX8_set_55 : decode cX8_set 55 = .ok (.ldc 105, 2) := by decide +kernel
theorem dX8_set_57 : decode cX8_set 57 = .ok (.ireturn, 1) := by decide +kernel
theorem dX8_set_58 : decode cX8_set 58 = .ok (.iload_n 2, 1) := by decide +kernel
theorem dX8_set_59 : decode cX8_set 59 = .ok (.ifCond .ne 12, 3) := by decide +kernel
theorem dX8_set_62 : decode cX8_set 62 = .ok (.aload_n 0, 1) := by decide +kernel
theorem dX8_set_63 : decode cX8_set 63 = .ok (.getfield 7, 3) := by decide +kernel
theorem dX8_set_66 : decode cX8_set 66 = .ok (.iload_n 1, 1) := by decide +kernel
theorem dX8_set_67 : decode cX8_set 67 = .ok (.iaload, 1) := by decide +kernel
theorem dX8_set_68 : decode cX8_set 68 = .ok (.goto 37, 3) := by decide +kernel
theorem dX8_set_71 : decode cX8_set 71 = .ok (.iload_n 2, 1) := by decide +kernel
theorem dX8_set_72 : decode cX8_set 72 = .ok (.iconst 1, 1) := by decide +kernel
theorem dX8_set_73 : decode cX8_set 73 = .ok (.if_icmp .ne 12, 3) := by decide +kernel
theorem dX8_set_76 : decode cX8_set 76 = .ok (.aload_n 0, 1) := by decide +kernel
theorem dX8_set_77 : decode cX8_set 77 = .ok (.getfield 13, 3) := by decide +kernel
theorem dX8_set_80 : decode cX8_set 80 = .ok (.iload_n 1, 1) := by decide +kernel
theorem dX8_set_81 : decode cX8_set 81 = .ok (.iaload, 1) := by decide +kernel
theorem dX8_set_82 : decode cX8_set 82 = .ok (.goto 23, 3) := by decide +kernel
theorem dX8_set_85 : decode cX8_set 85 = .ok (.iload_n 2, 1) := by decide +kernel
theorem dX8_set_86 : decode cX8_set 86 = .ok (.iconst 2, 1) := by decide +kernel
theorem dX8_set_87 : decode cX8_set 87 = .ok (.if_icmp .ne 12, 3) := by decide +kernel
theorem dX8_set_90 : decode cX8_set 90 = .ok (.aload_n 0, 1) := by decide +kernel
theorem dX8_set_91 : decode cX8_set 91 = .ok (.getfield 16, 3) := by decide +kernel
theorem dX8_set_94 : decode cX8_set 94 = .ok (.iload_n 1, 1) := by decide +kernel
theorem dX8_set_95 : decode cX8_set 95 = .ok (.iaload, 1) := by decide +kernel
theorem dX8_set_96 : decode cX8_set 96 = .ok (.goto 9, 3) := by decide +kernel
theorem dX8_set_99 : decode cX8_set 99 = .ok (.aload_n 0, 1) := by decide +kernel
theorem dX8_set_100 : decode cX8_set 100 = .ok (.getfield 19, 3) := by decide +kernel
theorem dX8_set_103 : decode cX8_set 103 = .ok (.iload_n 1, 1) := by decide +kernel
theorem dX8_set_104 : decode cX8_set 104 = .ok (.iaload, 1) := by decide +kernel
theorem dX8_set_105 : decode cX8_set 105 = .ok (.istore 4, 2) := by decide +kernel
theorem dX8_set_107 : decode cX8_set 107 = .ok (.iload_n 2, 1) := by decide +kernel
theorem dX8_set_108 : decode cX8_set 108 = .ok (.ifCond .ne 13, 3) := by decide +kernel
theorem dX8_set_111 : decode cX8_set 111 = .ok (.aload_n 0, 1) := by decide +kernel
theorem dX8_set_112 : decode cX8_set 112 = .ok (.getfield 7, 3) := by decide +kernel
theorem dX8_set_115 : decode cX8_set 115 = .ok (.iload_n 1, 1) := by decide +kernel
theorem dX8_set_116 : decode cX8_set 116 = .ok (.iload_n 3, 1) := by decide +kernel
theorem dX8_set_117 : decode cX8_set 117 = .ok (.iastore, 1) := by decide +kernel
theorem dX8_set_118 : decode cX8_set 118 = .ok (.goto 40, 3) := by decide +kernel
theorem dX8_set_121 : decode cX8_set 121 = .ok (.iload_n 2, 1) := by decide +kernel
theorem dX8_set_122 : decode cX8_set 122 = .ok (.iconst 1, 1) := by decide +kernel
theorem dX8_set_123 : decode cX8_set 123 = .ok (.if_icmp .ne 13, 3) := by decide +kernel
theorem dX8_set_126 : decode cX8_set 126 = .ok (.aload_n 0, 1) := by decide +kernel
theorem dX8_set_127 : decode cX8_set 127 = .ok (.getfield 13, 3) := by decide +kernel
theorem dX8_set_130 : decode cX8_set 130 = .ok (.iload_n 1, 1) := by decide +kernel
theorem dX8_set_131 : decode cX8_set 131 = .ok (.iload_n 3, 1) := by decide +kernel
theorem dX8_set_132 : decode cX8_set 132 = .ok (.iastore, 1) := by decide +kernel
theorem dX8_set_133 : decode cX8_set 133 = .ok (.goto 25, 3) := by decide +kernel
theorem dX8_set_136 : decode cX8_set 136 = .ok (.iload_n 2, 1) := by decide +kernel
theorem dX8_set_137 : decode cX8_set 137 = .ok (.iconst 2, 1) := by decide +kernel
theorem dX8_set_138 : decode cX8_set 138 = .ok (.if_icmp .ne 13, 3) := by decide +kernel
theorem dX8_set_141 : decode cX8_set 141 = .ok (.aload_n 0, 1) := by decide +kernel
theorem dX8_set_142 : decode cX8_set 142 = .ok (.getfield 16, 3) := by decide +kernel
theorem dX8_set_145 : decode cX8_set 145 = .ok (.iload_n 1, 1) := by decide +kernel
theorem dX8_set_146 : decode cX8_set 146 = .ok (.iload_n 3, 1) := by decide +kernel
theorem dX8_set_147 : decode cX8_set 147 = .ok (.iastore, 1) := by decide +kernel
theorem dX8_set_148 : decode cX8_set 148 = .ok (.goto 10, 3) := by decide +kernel
theorem dX8_set_151 : decode cX8_set 151 = .ok (.aload_n 0, 1) := by decide +kernel
theorem dX8_set_152 : decode cX8_set 152 = .ok (.getfield 19, 3) := by decide +kernel
theorem dX8_set_155 : decode cX8_set 155 = .ok (.iload_n 1, 1) := by decide +kernel
theorem dX8_set_156 : decode cX8_set 156 = .ok (.iload_n 3, 1) := by decide +kernel
theorem dX8_set_157 : decode cX8_set 157 = .ok (.iastore, 1) := by decide +kernel
theorem dX8_set_158 : decode cX8_set 158 = .ok (.iload 4, 2) := by decide +kernel
theorem dX8_set_160 : decode cX8_set 160 = .ok (.ireturn, 1) := by decide +kernel
set_option maxRecDepth 20000 in
theorem ggX8_whole_X8_bit : GoodIn wsX8_whole wsX8_bit := goodIn_r _ [6] (by decide +kernel) (by decide +kernel)
set_option maxRecDepth 20000 in
theorem gX8_whole_X8_bit : GoodIn wsX8_whole (va_wsS RX8 113 yX8_bit wsX8_bit) := goodIn_app (goodIn_of _ (by decide +kernel)) ggX8_whole_X8_bit
theorem dX8_whole_0 : decode cX8_whole 0 = .ok (.iconst 0, 1) := by decide +kernel
theorem dX8_whole_1 : decode cX8_whole 1 = .ok (.istore_n 1, 1) := by decide +kernel
theorem dX8_whole_2 : decode cX8_whole 2 = .ok (.iconst 0, 1) := by decide +kernel
theorem dX8_whole_3 : decode cX8_whole 3 = .ok (.istore_n 2, 1) := by decide +kernel
theorem dX8_whole_4 : decode cX8_whole 4 = .ok (.iload_n 2, 1) := by decide +kernel
theorem dX8_whole_5 : decode cX8_whole 5 = .ok (.aload_n 0, 1) := by decide +kernel
theorem dX8_whole_6 : decode cX8_whole 6 = .ok (.getfield 86, 3) := by decide +kernel
theorem dX8_whole_9 : decode cX8_whole 9 = .ok (.if_icmp .ge 29, 3) := by decide +kernel
theorem dX8_whole_12 : decode cX8_whole 12 = .ok (.iload_n 1, 1) := by decide +kernel
theorem dX8_whole_13 : decode cX8_whole 13 = .ok (.aload_n 0, 1) := by decide +kernel
theorem dX8_whole_14 : decode cX8_whole 14 = .ok (.getfield 22, 3) := by decide +kernel
theorem dX8_whole_17 : decode cX8_whole 17 = .ok (.iload_n 2, 1) := by decide +kernel
theorem dX8_whole_18 : decode cX8_whole 18 = .ok (.baload, 1) := by decide +kernel
theorem dX8_whole_19 : decode cX8_whole 19 = .ok (.ifCond .ne 7, 3) := by decide +kernel
theorem dX8_whole_22 : decode cX8_whole 22 = .ok (.iconst 1, 1) := by decide +kernel
theorem dX8_whole_23 : decode cX8_whole 23 = .ok (.goto 4, 3) := by decide +kernel
theorem dX8_whole_26 : decode cX8_whole 26 = .ok (.iconst 0, 1) := by decide +kernel
theorem dX8_whole_27 : decode cX8_whole 27 = .ok (.invokestatic 113, 3) := by decide +kernel
theorem dX8_whole_30 : decode cX8_whole 30 = .ok (.iadd, 1) := by decide +kernel
theorem dX8_whole_31 : decode cX8_whole 31 = .ok (.istore_n 1, 1) := by decide +kernel
theorem dX8_whole_32 : decode cX8_whole 32 = .ok (.iinc 2 1, 3) := by decide +kernel
theorem dX8_whole_35 : decode cX8_whole 35 = .ok (.goto (-31), 3) := by decide +kernel
theorem dX8_whole_38 : decode cX8_whole 38 = .ok (.iload_n 1, 1) := by decide +kernel
theorem dX8_whole_39 : decode cX8_whole 39 = .ok (.ireturn, 1) := by decide +kernel
set_option maxRecDepth 20000 in
theorem ggX8_broken_X8_noBolt : GoodIn wsX8_broken wsX8_noBolt := goodIn_r _ [8, 9, 10, 11, 7, 12, 20, 21, 22, 23, 24, 25, 26, 27, 28, 29, 30, 31, 32, 33, 34, 35, 36, 37, 38, 39, 40, 41, 42, 43, 44, 45, 46, 47, 48, 49, 50, 51, 52, 53, 54, 55, 56, 57, 58, 59, 60] (by decide +kernel) (by decide +kernel)
set_option maxRecDepth 20000 in
theorem gX8_broken_X8_noBolt : GoodIn wsX8_broken (wsV RX8 106 RX8 yX8_noBolt wsX8_noBolt) := goodIn_app (goodIn_of _ (by decide +kernel)) ggX8_broken_X8_noBolt
set_option maxRecDepth 20000 in
theorem ggX8_broken_X8_whole : GoodIn wsX8_broken wsX8_whole := goodIn_r _ [16, 9, 2, 17, 18, 7, 19, 20, 21, 22, 23, 24, 25, 26, 27, 28, 29, 30, 31, 32, 33, 34, 35, 36, 37, 38, 39, 40, 41, 42, 43, 44, 45, 46, 47, 48, 49, 50, 51, 52, 53, 54, 55, 56, 57, 58, 59, 60] (by decide +kernel) (by decide +kernel)
set_option maxRecDepth 20000 in
theorem gX8_broken_X8_whole : GoodIn wsX8_broken (wsV RX8 117 RX8 yX8_whole wsX8_whole) := goodIn_app (goodIn_of _ (by decide +kernel)) ggX8_broken_X8_whole
set_option maxRecDepth 20000 in
theorem ggX8_broken_X8_bit : GoodIn wsX8_broken wsX8_bit := goodIn_r _ [19] (by decide +kernel) (by decide +kernel)
set_option maxRecDepth 20000 in
theorem gX8_broken_X8_bit : GoodIn wsX8_broken (va_wsS RX8 113 yX8_bit wsX8_bit) := goodIn_app (goodIn_of _ (by decide +kernel)) ggX8_broken_X8_bit
theorem dX8_broken_0 : decode cX8_broken 0 = .ok (.aload_n 0, 1) := by decide +kernel
