theorem dX8_broken_1 : decode cX8_broken 1 = .ok (.iload_n 1, 1) := by decide +kernel
theorem dX8_broken_2 : decode cX8_broken 2 = .ok (.invokevirtual 106, 3) := by decide +kernel
theorem dX8_broken_5 : decode cX8_broken 5 = .ok (.ifCond .eq 6, 3) := by decide +kernel
theorem dX8_broken_8 : decode cX8_broken 8 = .ok (.ldc 110, 2) := by decide +kernel
theorem dX8_broken_10 : decode cX8_broken 10 = .ok (.ireturn, 1) := by decide +kernel
theorem dX8_broken_11 : decode cX8_broken 11 = .ok (.iload_n 2, 1) := by decide +kernel
theorem dX8_broken_12 : decode cX8_broken 12 = .ok (.ifCond .eq 23, 3) := by decide +kernel
theorem dX8_broken_15 : decode cX8_broken 15 = .ok (.aload_n 0, 1) := by decide +kernel
theorem dX8_broken_16 : decode cX8_broken 16 = .ok (.getfield 22, 3) := by decide +kernel
theorem dX8_broken_19 : decode cX8_broken 19 = .ok (.iload_n 1, 1) := by decide +kernel
theorem dX8_broken_20 : decode cX8_broken 20 = .ok (.baload, 1) := by decide +kernel
theorem dX8_broken_21 : decode cX8_broken 21 = .ok (.ifCond .ne 14, 3) := by decide +kernel
theorem dX8_broken_24 : decode cX8_broken 24 = .ok (.aload_n 0, 1) := by decide +kernel
theorem dX8_broken_25 : decode cX8_broken 25 = .ok (.invokevirtual 117, 3) := by decide +kernel
theorem dX8_broken_28 : decode cX8_broken 28 = .ok (.iconst 1, 1) := by decide +kernel
theorem dX8_broken_29 : decode cX8_broken 29 = .ok (.if_icmp .ne 6, 3) := by decide +kernel
theorem dX8_broken_32 : decode cX8_broken 32 = .ok (.ldc 121, 2) := by decide +kernel
theorem dX8_broken_34 : decode cX8_broken 34 = .ok (.ireturn, 1) := by decide +kernel
theorem dX8_broken_35 : decode cX8_broken 35 = .ok (.aload_n 0, 1) := by decide +kernel
theorem dX8_broken_36 : decode cX8_broken 36 = .ok (.getfield 22, 3) := by decide +kernel
theorem dX8_broken_39 : decode cX8_broken 39 = .ok (.iload_n 1, 1) := by decide +kernel
theorem dX8_broken_40 : decode cX8_broken 40 = .ok (.baload, 1) := by decide +kernel
theorem dX8_broken_41 : decode cX8_broken 41 = .ok (.invokestatic 113, 3) := by decide +kernel
theorem dX8_broken_44 : decode cX8_broken 44 = .ok (.istore_n 3, 1) := by decide +kernel
theorem dX8_broken_45 : decode cX8_broken 45 = .ok (.aload_n 0, 1) := by decide +kernel
theorem dX8_broken_46 : decode cX8_broken 46 = .ok (.getfield 22, 3) := by decide +kernel
theorem dX8_broken_49 : decode cX8_broken 49 = .ok (.iload_n 1, 1) := by decide +kernel
theorem dX8_broken_50 : decode cX8_broken 50 = .ok (.iload_n 2, 1) := by decide +kernel
theorem dX8_broken_51 : decode cX8_broken 51 = .ok (.bastore, 1) := by decide +kernel
theorem dX8_broken_52 : decode cX8_broken 52 = .ok (.iload_n 3, 1) := by decide +kernel
theorem dX8_broken_53 : decode cX8_broken 53 = .ok (.ireturn, 1) := by decide +kernel
theorem dX8_layTable_0 : decode cX8_layTable 0 = .ok (.iconst 0, 1) := by decide +kernel
theorem dX8_layTable_1 : decode cX8_layTable 1 = .ok (.istore_n 1, 1) := by decide +kernel
theorem dX8_layTable_2 : decode cX8_layTable 2 = .ok (.iload_n 1, 1) := by decide +kernel
theorem dX8_layTable_3 : decode cX8_layTable 3 = .ok (.aload_n 0, 1) := by decide +kernel
theorem dX8_layTable_4 : decode cX8_layTable 4 = .ok (.getfield 86, 3) := by decide +kernel
theorem dX8_layTable_7 : decode cX8_layTable 7 = .ok (.if_icmp .ge 251, 3) := by decide +kernel
theorem dX8_layTable_10 : decode cX8_layTable 10 = .ok (.iconst 0, 1) := by decide +kernel
theorem dX8_layTable_11 : decode cX8_layTable 11 = .ok (.istore_n 2, 1) := by decide +kernel
theorem dX8_layTable_12 : decode cX8_layTable 12 = .ok (.iload_n 2, 1) := by decide +kernel
theorem dX8_layTable_13 : decode cX8_layTable 13 = .ok (.aload_n 0, 1) := by decide +kernel
theorem dX8_layTable_14 : decode cX8_layTable 14 = .ok (.getfield 86, 3) := by decide +kernel
theorem dX8_layTable_17 : decode cX8_layTable 17 = .ok (.if_icmp .gt 21, 3) := by decide +kernel
theorem dX8_layTable_20 : decode cX8_layTable 20 = .ok (.aload_n 0, 1) := by decide +kernel
theorem dX8_layTable_21 : decode cX8_layTable 21 = .ok (.getfield 48, 3) := by decide +kernel
theorem dX8_layTable_24 : decode cX8_layTable 24 = .ok (.bipush 7, 2) := by decide +kernel
theorem dX8_layTable_26 : decode cX8_layTable 26 = .ok (.iload_n 1, 1) := by decide +kernel
theorem dX8_layTable_27 : decode cX8_layTable 27 = .ok (.imul, 1) := by decide +kernel
theorem dX8_layTable_28 : decode cX8_layTable 28 = .ok (.iload_n 2, 1) := by decide +kernel
theorem dX8_layTable_29 : decode cX8_layTable 29 = .ok (.iadd, 1) := by decide +kernel
theorem dX8_layTable_30 : decode cX8_layTable 30 = .ok (.lconst 0, 1) := by decide +kernel
theorem dX8_layTable_31 : decode cX8_layTable 31 = .ok (.lastore, 1) := by decide +kernel
theorem dX8_layTable_32 : decode cX8_layTable 32 = .ok (.iinc 2 1, 3) := by decide +kernel
theorem dX8_layTable_35 : decode cX8_layTable 35 = .ok (.goto (-23), 3) := by decide +kernel
theorem dX8_layTable_38 : decode cX8_layTable 38 = .ok (.aload_n 0, 1) := by decide +kernel
theorem dX8_layTable_39 : decode cX8_layTable 39 = .ok (.getfield 51, 3) := by decide +kernel
theorem dX8_layTable_42 : decode cX8_layTable 42 = .ok (.iload_n 1, 1) := by decide +kernel
theorem dX8_layTable_43 : decode cX8_layTable 43 = .ok (.iaload, 1) := by decide +kernel
theorem dX8_layTable_44 : decode cX8_layTable 44 = .ok (.iconst 2, 1) := by decide +kernel
theorem dX8_layTable_45 : decode cX8_layTable 45 = .ok (.if_icmp .ge 16, 3) := by decide +kernel
theorem dX8_layTable_48 : decode cX8_layTable 48 = .ok (.aload_n 0, 1) := by decide +kernel
theorem dX8_layTable_49 : decode cX8_layTable 49 = .ok (.getfield 22, 3) := by decide +kernel
theorem dX8_layTable_52 : decode cX8_layTable 52 = .ok (.iload_n 1, 1) := by decide +kernel
theorem dX8_layTable_53 : decode cX8_layTable 53 = .ok (.baload, 1) := by decide +kernel
theorem dX8_layTable_54 : decode cX8_layTable 54 = .ok (.ifCond .ne 7, 3) := by decide +kernel
theorem dX8_layTable_57 : decode cX8_layTable 57 = .ok (.iconst 1, 1) := by decide +kernel
theorem dX8_layTable_58 : decode cX8_layTable 58 = .ok (.goto 4, 3) := by decide +kernel
theorem dX8_layTable_61 : decode cX8_layTable 61 = .ok (.iconst 0, 1) := by decide +kernel
theorem dX8_layTable_62 : decode cX8_layTable 62 = .ok (.istore_n 2, 1) := by decide +kernel
theorem dX8_layTable_63 : decode cX8_layTable 63 = .ok (.aload_n 0, 1) := by decide +kernel
theorem dX8_layTable_64 : decode cX8_layTable 64 = .ok (.getfield 51, 3) := by decide +kernel
theorem dX8_layTable_67 : decode cX8_layTable 67 = .ok (.iload_n 1, 1) := by decide +kernel
theorem dX8_layTable_68 : decode cX8_layTable 68 = .ok (.iaload, 1) := by decide +kernel
theorem dX8_layTable_69 : decode cX8_layTable 69 = .ok (.ifCond .le 7, 3) := by decide +kernel
theorem dX8_layTable_72 : decode cX8_layTable 72 = .ok (.iconst 1, 1) := by decide +kernel
theorem dX8_layTable_73 : decode cX8_layTable 73 = .ok (.goto 4, 3) := by decide +kernel
theorem dX8_layTable_76 : decode cX8_layTable 76 = .ok (.iconst 0, 1) := by decide +kernel
theorem dX8_layTable_77 : decode cX8_layTable 77 = .ok (.istore_n 3, 1) := by decide +kernel
theorem dX8_layTable_78 : decode cX8_layTable 78 = .ok (.aload_n 0, 1) := by decide +kernel
theorem dX8_layTable_79 : decode cX8_layTable 79 = .ok (.getfield 48, 3) := by decide +kernel
theorem dX8_layTable_82 : decode cX8_layTable 82 = .ok (.bipush 7, 2) := by decide +kernel
theorem dX8_layTable_84 : decode cX8_layTable 84 = .ok (.iload_n 1, 1) := by decide +kernel
theorem dX8_layTable_85 : decode cX8_layTable 85 = .ok (.imul, 1) := by decide +kernel
theorem dX8_layTable_86 : decode cX8_layTable 86 = .ok (.iload_n 1, 1) := by decide +kernel
theorem dX8_layTable_87 : decode cX8_layTable 87 = .ok (.iadd, 1) := by decide +kernel
theorem dX8_layTable_88 : decode cX8_layTable 88 = .ok (.ldc2_w 122, 3) := by decide +kernel
theorem dX8_layTable_91 : decode cX8_layTable 91 = .ok (.aload_n 0, 1) := by decide +kernel
theorem dX8_layTable_92 : decode cX8_layTable 92 = .ok (.getfield 89, 3) := by decide +kernel
theorem dX8_layTable_95 : decode cX8_layTable 95 = .ok (.i2l, 1) := by decide +kernel
theorem dX8_layTable_96 : decode cX8_layTable 96 = .ok (.lmul, 1) := by decide +kernel
theorem dX8_layTable_97 : decode cX8_layTable 97 = .ok (.iload_n 2, 1) := by decide +kernel
theorem dX8_layTable_98 : decode cX8_layTable 98 = .ok (.ifCond .eq 12, 3) := by decide +kernel
theorem dX8_layTable_101 : decode cX8_layTable 101 = .ok (.aload_n 0, 1) := by decide +kernel
theorem dX8_layTable_102 : decode cX8_layTable 102 = .ok (.getfield 7, 3) := by decide +kernel
theorem dX8_layTable_105 : decode cX8_layTable 105 = .ok (.iload_n 1, 1) := by decide +kernel
theorem dX8_layTable_106 : decode cX8_layTable 106 = .ok (.iaload, 1) := by decide +kernel
theorem dX8_layTable_107 : decode cX8_layTable 107 = .ok (.goto 4, 3) := by decide +kernel
theorem dX8_layTable_110 : decode cX8_layTable 110 = .ok (.iconst 0, 1) := by decide +kernel
theorem dX8_layTable_111 : decode cX8_layTable 111 = .ok (.i2l, 1) := by decide +kernel
theorem dX8_layTable_112 : decode cX8_layTable 112 = .ok (.ladd, 1) := by decide +kernel
theorem dX8_layTable_113 : decode cX8_layTable 113 = .ok (.iload_n 3, 1) := by decide +kernel
theorem dX8_layTable_114 : decode cX8_layTable 114 = .ok (.ifCond .eq 12, 3) := by decide +kernel
theorem dX8_layTable_117 : decode cX8_layTable 117 = .ok (.aload_n 0, 1) := by decide +kernel
theorem dX8_layTable_118 : decode cX8_layTable 118 = .ok (.getfield 13, 3) := by decide +kernel
theorem dX8_layTable_121 : decode cX8_layTable 121 = .ok (.iload_n 1, 1) := by decide +kernel
theorem dX8_layTable_122 : decode cX8_layTable 122 = .ok (.iaload, 1) := by decide +kernel
theorem dX8_layTable_123 : decode cX8_layTable 123 = .ok (.goto 4, 3) := by decide +kernel
theorem dX8_layTable_126 : decode cX8_layTable 126 = .ok (.iconst 0, 1) := by decide +kernel
theorem dX8_layTable_127 : decode cX8_layTable 127 = .ok (.i2l, 1) := by decide +kernel
theorem dX8_layTable_128 : decode cX8_layTable 128 = .ok (.ladd, 1) := by decide +kernel
theorem dX8_layTable_129 : decode cX8_layTable 129 = .ok (.lastore, 1) := by decide +kernel
theorem dX8_layTable_130 : decode cX8_layTable 130 = .ok (.iload_n 1, 1) := by decide +kernel
theorem dX8_layTable_131 : decode cX8_layTable 131 = .ok (.iconst 1, 1) := by decide +kernel
theorem dX8_layTable_132 : decode cX8_layTable 132 = .ok (.iadd, 1) := by decide +kernel
theorem dX8_layTable_133 : decode cX8_layTable 133 = .ok (.aload_n 0, 1) := by decide +kernel
theorem dX8_layTable_134 : decode cX8_layTable 134 = .ok (.getfield 86, 3) := by decide +kernel
theorem dX8_layTable_137 : decode cX8_layTable 137 = .ok (.if_icmp .ne 7, 3) := by decide +kernel
theorem dX8_layTable_140 : decode cX8_layTable 140 = .ok (.iconst 0, 1) := by decide +kernel
theorem dX8_layTable_141 : decode cX8_layTable 141 = .ok (.goto 6, 3) := by decide +kernel
theorem dX8_layTable_144 : decode cX8_layTable 144 = .ok (.iload_n 1, 1) := by decide +kernel
theorem dX8_layTable_145 : decode cX8_layTable 145 = .ok (.iconst 1, 1) := by decide +kernel
theorem dX8_layTable_146 : decode cX8_layTable 146 = .ok (.iadd, 1) := by decide +kernel
theorem dX8_layTable_147 : decode cX8_layTable 147 = .ok (.istore 4, 2) := by decide +kernel
theorem dX8_layTable_149 : decode cX8_layTable 149 = .ok (.iload_n 1, 1) := by decide +kernel
theorem dX8_layTable_150 : decode cX8_layTable 150 = .ok (.ifCond .ne 12, 3) := by decide +kernel
theorem dX8_layTable_153 : decode cX8_layTable 153 = .ok (.aload_n 0, 1) := by decide +kernel
theorem dX8_layTable_154 : decode cX8_layTable 154 = .ok (.getfield 86, 3) := by decide +kernel
theorem dX8_layTable_157 : decode cX8_layTable 157 = .ok (.iconst 1, 1) := by decide +kernel
theorem dX8_layTable_158 : decode cX8_layTable 158 = .ok (.isub, 1) := by decide +kernel
theorem dX8_layTable_159 : decode cX8_layTable 159 = .ok (.goto 6, 3) := by decide +kernel
theorem dX8_layTable_162 : decode cX8_layTable 162 = .ok (.iload_n 1, 1) := by decide +kernel
theorem dX8_layTable_163 : decode cX8_layTable 163 = .ok (.iconst 1, 1) := by decide +kernel
theorem dX8_layTable_164 : decode cX8_layTable 164 = .ok (.isub, 1) := by decide +kernel
theorem dX8_layTable_165 : decode cX8_layTable 165 = .ok (.istore 5, 2) := by decide +kernel
theorem dX8_layTable_167 : decode cX8_layTable 167 = .ok (.aload_n 0, 1) := by decide +kernel
theorem dX8_layTable_168 : decode cX8_layTable 168 = .ok (.getfield 48, 3) := by decide +kernel
theorem dX8_layTable_171 : decode cX8_layTable 171 = .ok (.bipush 7, 2) := by decide +kernel
theorem dX8_layTable_173 : decode cX8_layTable 173 = .ok (.iload_n 1, 1) := by decide +kernel
theorem dX8_layTable_174 : decode cX8_layTable 174 = .ok (.imul, 1) := by decide +kernel
theorem dX8_layTable_175 : decode cX8_layTable 175 = .ok (.iload 4, 2) := by decide +kernel
theorem dX8_layTable_177 : decode cX8_layTable 177 = .ok (.iadd, 1) := by decide +kernel
theorem dX8_layTable_178 : decode cX8_layTable 178 = .ok (.dup2, 1) := by decide +kernel
theorem dX8_layTable_179 : decode cX8_layTable 179 = .ok (.laload, 1) := by decide +kernel
theorem dX8_layTable_180 : decode cX8_layTable 180 = .ok (.aload_n 0, 1) := by decide +kernel
theorem dX8_layTable_181 : decode cX8_layTable 181 = .ok (.getfield 89, 3) := by decide +kernel
theorem dX8_layTable_184 : decode cX8_layTable 184 = .ok (.i2l, 1) := by decide +kernel
theorem dX8_layTable_185 : decode cX8_layTable 185 = .ok (.lsub, 1) := by decide +kernel
theorem dX8_layTable_186 : decode cX8_layTable 186 = .ok (.lastore, 1) := by decide +kernel
theorem dX8_layTable_187 : decode cX8_layTable 187 = .ok (.aload_n 0, 1) := by decide +kernel
theorem dX8_layTable_188 : decode cX8_layTable 188 = .ok (.getfield 48, 3) := by decide +kernel
theorem dX8_layTable_191 : decode cX8_layTable 191 = .ok (.bipush 7, 2) := by decide +kernel
theorem dX8_layTable_193 : decode cX8_layTable 193 = .ok (.iload_n 1, 1) := by decide +kernel
theorem dX8_layTable_194 : decode cX8_layTable 194 = .ok (.imul, 1) := by decide +kernel
theorem dX8_layTable_195 : decode cX8_layTable 195 = .ok (.iload 5, 2) := by decide +kernel
theorem dX8_layTable_197 : decode cX8_layTable 197 = .ok (.iadd, 1) := by decide +kernel
theorem dX8_layTable_198 : decode cX8_layTable 198 = .ok (.dup2, 1) := by decide +kernel
theorem dX8_layTable_199 : decode cX8_layTable 199 = .ok (.laload, 1) := by decide +kernel
theorem dX8_layTable_200 : decode cX8_layTable 200 = .ok (.aload_n 0, 1) := by decide +kernel
theorem dX8_layTable_201 : decode cX8_layTable 201 = .ok (.getfield 89, 3) := by decide +kernel
theorem dX8_layTable_204 : decode cX8_layTable 204 = .ok (.i2l, 1) := by decide +kernel
theorem dX8_layTable_205 : decode cX8_layTable 205 = .ok (.lsub, 1) := by decide +kernel
theorem dX8_layTable_206 : decode cX8_layTable 206 = .ok (.lastore, 1) := by decide +kernel
theorem dX8_layTable_207 : decode cX8_layTable 207 = .ok (.aload_n 0, 1) := by decide +kernel
theorem dX8_layTable_208 : decode cX8_layTable 208 = .ok (.getfield 48, 3) := by decide +kernel
theorem dX8_layTable_211 : decode cX8_layTable 211 = .ok (.bipush 7, 2) := by decide +kernel
theorem dX8_layTable_213 : decode cX8_layTable 213 = .ok (.iload_n 1, 1) := by decide +kernel
theorem dX8_layTable_214 : decode cX8_layTable 214 = .ok (.imul, 1) := by decide +kernel
theorem dX8_layTable_215 : decode cX8_layTable 215 = .ok (.aload_n 0, 1) := by decide +kernel
theorem dX8_layTable_216 : decode cX8_layTable 216 = .ok (.getfield 86, 3) := by decide +kernel
theorem dX8_layTable_219 : decode cX8_layTable 219 = .ok (.iadd, 1) := by decide +kernel
theorem dX8_layTable_220 : decode cX8_layTable 220 = .ok (.iload_n 2, 1) := by decide +kernel
theorem dX8_layTable_221 : decode cX8_layTable 221 = .ok (.ifCond .eq 21, 3) := by decide +kernel
theorem dX8_layTable_224 : decode cX8_layTable 224 = .ok (.aload_n 0, 1) := by decide +kernel
theorem dX8_layTable_225 : decode cX8_layTable 225 = .ok (.getfield 7, 3) := by decide +kernel
theorem dX8_layTable_228 : decode cX8_layTable 228 = .ok (.iload_n 1, 1) := by decide +kernel
theorem dX8_layTable_229 : decode cX8_layTable 229 = .ok (.iaload, 1) := by decide +kernel
theorem dX8_layTable_230 : decode cX8_layTable 230 = .ok (.i2l, 1) := by decide +kernel
theorem dX8_layTable_231 : decode cX8_layTable 231 = .ok (.aload_n 0, 1) := by decide +kernel
theorem dX8_layTable_232 : decode cX8_layTable 232 = .ok (.getfield 16, 3) := by decide +kernel
theorem dX8_layTable_235 : decode cX8_layTable 235 = .ok (.iload_n 1, 1) := by decide +kernel
theorem dX8_layTable_236 : decode cX8_layTable 236 = .ok (.iaload, 1) := by decide +kernel
theorem dX8_layTable_237 : decode cX8_layTable 237 = .ok (.i2l, 1) := by decide +kernel
theorem dX8_layTable_238 : decode cX8_layTable 238 = .ok (.lmul, 1) := by decide +kernel
theorem dX8_layTable_239 : decode cX8_layTable 239 = .ok (.goto 4, 3) := by decide +kernel
theorem dX8_layTable_242 : decode cX8_layTable 242 = .ok (.lconst 0, 1) := by decide +kernel
theorem dX8_layTable_243 : decode cX8_layTable 243 = .ok (.aload_n 0, 1) := by decide +kernel
theorem dX8_layTable_244 : decode cX8_layTable 244 = .ok (.getfield 19, 3) := by decide +kernel
theorem dX8_layTable_247 : decode cX8_layTable 247 = .ok (.iload_n 1, 1) := by decide +kernel
theorem dX8_layTable_248 : decode cX8_layTable 248 = .ok (.iaload, 1) := by decide +kernel
theorem dX8_layTable_249 : decode cX8_layTable 249 = .ok (.i2l, 1) := by decide +kernel
theorem dX8_layTable_250 : decode cX8_layTable 250 = .ok (.lsub, 1) := by decide +kernel
theorem dX8_layTable_251 : decode cX8_layTable 251 = .ok (.lastore, 1) := by decide +kernel
theorem dX8_layTable_252 : decode cX8_layTable 252 = .ok (.iinc 1 1, 3) := by decide +kernel
theorem dX8_layTable_255 : decode cX8_layTable 255 = .ok (.goto (-253), 3) := by decide +kernel
theorem dX8_layTable_258 : decode cX8_layTable 258 = .ok (.return_, 1) := by decide +kernel
theorem dX8_solve_0 : decode cX8_solve 0 = .ok (.lconst 1, 1) := by decide +kernel
theorem dX8_solve_1 : decode cX8_solve 1 = .ok (.lstore_n 1, 1) := by decide +kernel
theorem dX8_solve_2 : decode cX8_solve 2 = .ok (.iconst 0, 1) := by decide +kernel
theorem dX8_solve_3 : decode cX8_solve 3 = .ok (.istore_n 3, 1) := by decide +kernel
theorem dX8_solve_4 : decode cX8_solve 4 = .ok (.iload_n 3, 1) := by decide +kernel
theorem dX8_solve_5 : decode cX8_solve 5 = .ok (.aload_n 0, 1) := by decide +kernel
theorem dX8_solve_6 : decode cX8_solve 6 = .ok (.getfield 86, 3) := by decide +kernel
theorem dX8_solve_9 : decode cX8_solve 9 = .ok (.if_icmp .ge 128, 3) := by decide +kernel
theorem dX8_solve_12 : decode cX8_solve 12 = .ok (.aload_n 0, 1) := by decide +kernel
theorem dX8_solve_13 : decode cX8_solve 13 = .ok (.getfield 48, 3) := by decide +kernel
theorem dX8_solve_16 : decode cX8_solve 16 = .ok (.bipush 7, 2) := by decide +kernel
theorem dX8_solve_18 : decode cX8_solve 18 = .ok (.iload_n 3, 1) := by decide +kernel
theorem dX8_solve_19 : decode cX8_solve 19 = .ok (.imul, 1) := by decide +kernel
theorem dX8_solve_20 : decode cX8_solve 20 = .ok (.iload_n 3, 1) := by decide +kernel
theorem dX8_solve_21 : decode cX8_solve 21 = .ok (.iadd, 1) := by decide +kernel
theorem dX8_solve_22 : decode cX8_solve 22 = .ok (.laload, 1) := by decide +kernel
theorem dX8_solve_23 : decode cX8_solve 23 = .ok (.lstore 4, 2) := by decide +kernel
theorem dX8_solve_25 : decode cX8_solve 25 = .ok (.iconst 0, 1) := by decide +kernel
theorem dX8_solve_26 : decode cX8_solve 26 = .ok (.istore 6, 2) := by decide +kernel
theorem dX8_solve_28 : decode cX8_solve 28 = .ok (.iload 6, 2) := by decide +kernel
theorem dX8_solve_30 : decode cX8_solve 30 = .ok (.aload_n 0, 1) := by decide +kernel
theorem dX8_solve_31 : decode cX8_solve 31 = .ok (.getfield 86, 3) := by decide +kernel
theorem dX8_solve_34 : decode cX8_solve 34 = .ok (.if_icmp .ge 94, 3) := by decide +kernel
theorem dX8_solve_37 : decode cX8_solve 37 = .ok (.iload 6, 2) := by decide +kernel
theorem dX8_solve_39 : decode cX8_solve 39 = .ok (.iload_n 3, 1) := by decide +kernel
theorem dX8_solve_40 : decode cX8_solve 40 = .ok (.if_icmp .eq 82, 3) := by decide +kernel
theorem dX8_solve_43 : decode cX8_solve 43 = .ok (.aload_n 0, 1) := by decide +kernel
theorem dX8_solve_44 : decode cX8_solve 44 = .ok (.getfield 48, 3) := by decide +kernel
theorem dX8_solve_47 : decode cX8_solve 47 = .ok (.bipush 7, 2) := by decide +kernel
theorem dX8_solve_49 : decode cX8_solve 49 = .ok (.iload 6, 2) := by decide +kernel
theorem dX8_solve_51 : decode cX8_solve 51 = .ok (.imul, 1) := by decide +kernel
theorem dX8_solve_52 : decode cX8_solve 52 = .ok (.iload_n 3, 1) := by decide +kernel
theorem dX8_solve_53 : decode cX8_solve 53 = .ok (.iadd, 1) := by decide +kernel
theorem dX8_solve_54 : decode cX8_solve 54 = .ok (.laload, 1) := by decide +kernel
theorem dX8_solve_55 : decode cX8_solve 55 = .ok (.lstore 7, 2) := by decide +kernel
theorem dX8_solve_57 : decode cX8_solve 57 = .ok (.iconst 0, 1) := by decide +kernel
theorem dX8_solve_58 : decode cX8_solve 58 = .ok (.istore 9, 2) := by decide +kernel
theorem dX8_solve_60 : decode cX8_solve 60 = .ok (.iload 9, 2) := by decide +kernel
theorem dX8_solve_62 : decode cX8_solve 62 = .ok (.aload_n 0, 1) := by decide +kernel
theorem dX8_solve_63 : decode cX8_solve 63 = .ok (.getfield 86, 3) := by decide +kernel
theorem dX8_solve_66 : decode cX8_solve 66 = .ok (.if_icmp .gt 56, 3) := by decide +kernel
theorem dX8_solve_69 : decode cX8_solve 69 = .ok (.aload_n 0, 1) := by decide +kernel
theorem dX8_solve_70 : decode cX8_solve 70 = .ok (.getfield 48, 3) := by decide +kernel
theorem dX8_solve_73 : decode cX8_solve 73 = .ok (.bipush 7, 2) := by decide +kernel
theorem dX8_solve_75 : decode cX8_solve 75 = .ok (.iload 6, 2) := by decide +kernel
theorem dX8_solve_77 : decode cX8_solve 77 = .ok (.imul, 1) := by decide +kernel
theorem dX8_solve_78 : decode cX8_solve 78 = .ok (.iload 9, 2) := by decide +kernel
theorem dX8_solve_80 : decode cX8_solve 80 = .ok (.iadd, 1) := by decide +kernel
theorem dX8_solve_81 : decode cX8_solve 81 = .ok (.aload_n 0, 1) := by decide +kernel
theorem dX8_solve_82 : decode cX8_solve 82 = .ok (.getfield 48, 3) := by decide +kernel
theorem dX8_solve_85 : decode cX8_solve 85 = .ok (.bipush 7, 2) := by decide +kernel
theorem dX8_solve_87 : decode cX8_solve 87 = .ok (.iload 6, 2) := by decide +kernel
theorem dX8_solve_89 : decode cX8_solve 89 = .ok (.imul, 1) := by decide +kernel
theorem dX8_solve_90 : decode cX8_solve 90 = .ok (.iload 9, 2) := by decide +kernel
theorem dX8_solve_92 : decode cX8_solve 92 = .ok (.iadd, 1) := by decide +kernel
theorem dX8_solve_93 : decode cX8_solve 93 = .ok (.laload, 1) := by decide +kernel
theorem dX8_solve_94 : decode cX8_solve 94 = .ok (.lload 4, 2) := by decide +kernel
theorem dX8_solve_96 : decode cX8_solve 96 = .ok (.lmul, 1) := by decide +kernel
theorem dX8_solve_97 : decode cX8_solve 97 = .ok (.lload 7, 2) := by decide +kernel
theorem dX8_solve_99 : decode cX8_solve 99 = .ok (.aload_n 0, 1) := by decide +kernel
theorem dX8_solve_100 : decode cX8_solve 100 = .ok (.getfield 48, 3) := by decide +kernel
theorem dX8_solve_103 : decode cX8_solve 103 = .ok (.bipush 7, 2) := by decide +kernel
theorem dX8_solve_105 : decode cX8_solve 105 = .ok (.iload_n 3, 1) := by decide +kernel
theorem dX8_solve_106 : decode cX8_solve 106 = .ok (.imul, 1) := by decide +kernel
theorem dX8_solve_107 : decode cX8_solve 107 = .ok (.iload 9, 2) := by decide +kernel
theorem dX8_solve_109 : decode cX8_solve 109 = .ok (.iadd, 1) := by decide +kernel
theorem dX8_solve_110 : decode cX8_solve 110 = .ok (.laload, 1) := by decide +kernel
theorem dX8_solve_111 : decode cX8_solve 111 = .ok (.lmul, 1) := by decide +kernel
theorem dX8_solve_112 : decode cX8_solve 112 = .ok (.lsub, 1) := by decide +kernel
theorem dX8_solve_113 : decode cX8_solve 113 = .ok (.lload_n 1, 1) := by decide +kernel
theorem dX8_solve_114 : decode cX8_solve 114 = .ok (.ldiv, 1) := by decide +kernel
theorem dX8_solve_115 : decode cX8_solve 115 = .ok (.lastore, 1) := by decide +kernel
theorem dX8_solve_116 : decode cX8_solve 116 = .ok (.iinc 9 1, 3) := by decide +kernel
theorem dX8_solve_119 : decode cX8_solve 119 = .ok (.goto (-59), 3) := by decide +kernel
theorem dX8_solve_122 : decode cX8_solve 122 = .ok (.iinc 6 1, 3) := by decide +kernel
theorem dX8_solve_125 : decode cX8_solve 125 = .ok (.goto (-97), 3) := by decide +kernel
theorem dX8_solve_128 : decode cX8_solve 128 = .ok (.lload 4, 2) := by decide +kernel
theorem dX8_solve_130 : decode cX8_solve 130 = .ok (.lstore_n 1, 1) := by decide +kernel
theorem dX8_solve_131 : decode cX8_solve 131 = .ok (.iinc 3 1, 3) := by decide +kernel
theorem dX8_solve_134 : decode cX8_solve 134 = .ok (.goto (-130), 3) := by decide +kernel
theorem dX8_solve_137 : decode cX8_solve 137 = .ok (.aload_n 0, 1) := by decide +kernel
theorem dX8_solve_138 : decode cX8_solve 138 = .ok (.lload_n 1, 1) := by decide +kernel
theorem dX8_solve_139 : decode cX8_solve 139 = .ok (.putfield 124, 3) := by decide +kernel
theorem dX8_solve_142 : decode cX8_solve 142 = .ok (.iconst 0, 1) := by decide +kernel
theorem dX8_solve_143 : decode cX8_solve 143 = .ok (.istore_n 3, 1) := by decide +kernel
theorem dX8_solve_144 : decode cX8_solve 144 = .ok (.iload_n 3, 1) := by decide +kernel
theorem dX8_solve_145 : decode cX8_solve 145 = .ok (.aload_n 0, 1) := by decide +kernel
theorem dX8_solve_146 : decode cX8_solve 146 = .ok (.getfield 86, 3) := by decide +kernel
theorem dX8_solve_149 : decode cX8_solve 149 = .ok (.if_icmp .ge 29, 3) := by decide +kernel
theorem dX8_solve_152 : decode cX8_solve 152 = .ok (.aload_n 0, 1) := by decide +kernel
theorem dX8_solve_153 : decode cX8_solve 153 = .ok (.getfield 44, 3) := by decide +kernel
theorem dX8_solve_156 : decode cX8_solve 156 = .ok (.iload_n 3, 1) := by decide +kernel
theorem dX8_solve_157 : decode cX8_solve 157 = .ok (.aload_n 0, 1) := by decide +kernel
theorem dX8_solve_158 : decode cX8_solve 158 = .ok (.getfield 48, 3) := by decide +kernel
theorem dX8_solve_161 : decode cX8_solve 161 = .ok (.bipush 7, 2) := by decide +kernel
theorem dX8_solve_163 : decode cX8_solve 163 = .ok (.iload_n 3, 1) := by decide +kernel
theorem dX8_solve_164 : decode cX8_solve 164 = .ok (.imul, 1) := by decide +kernel
theorem dX8_solve_165 : decode cX8_solve 165 = .ok (.aload_n 0, 1) := by decide +kernel
theorem dX8_solve_166 : decode cX8_solve 166 = .ok (.getfield 86, 3) := by decide +kernel
theorem dX8_solve_169 : decode cX8_solve 169 = .ok (.iadd, 1) := by decide +kernel
theorem dX8_solve_170 : decode cX8_solve 170 = .ok (.laload, 1) := by decide +kernel
theorem dX8_solve_171 : decode cX8_solve 171 = .ok (.lastore, 1) := by decide +kernel
theorem dX8_solve_172 : decode cX8_solve 172 = .ok (.iinc 3 1, 3) := by decide +kernel
theorem dX8_solve_175 : decode cX8_solve 175 = .ok (.goto (-31), 3) := by decide +kernel
theorem dX8_solve_178 : decode cX8_solve 178 = .ok (.return_, 1) := by decide +kernel
theorem dX8_wayBy_0 : decode cX8_wayBy 0 = .ok (.aload_n 0, 1) := by decide +kernel
theorem dX8_wayBy_1 : decode cX8_wayBy 1 = .ok (.getfield 44, 3) := by decide +kernel
theorem dX8_wayBy_4 : decode cX8_wayBy 4 = .ok (.iload_n 1, 1) := by decide +kernel
theorem dX8_wayBy_5 : decode cX8_wayBy 5 = .ok (.laload, 1) := by decide +kernel
theorem dX8_wayBy_6 : decode cX8_wayBy 6 = .ok (.lstore_n 2, 1) := by decide +kernel
theorem dX8_wayBy_7 : decode cX8_wayBy 7 = .ok (.aload_n 0, 1) := by decide +kernel
theorem dX8_wayBy_8 : decode cX8_wayBy 8 = .ok (.getfield 16, 3) := by decide +kernel
theorem dX8_wayBy_11 : decode cX8_wayBy 11 = .ok (.iload_n 1, 1) := by decide +kernel
theorem dX8_wayBy_12 : decode cX8_wayBy 12 = .ok (.iaload, 1) := by decide +kernel
theorem dX8_wayBy_13 : decode cX8_wayBy 13 = .ok (.i2l, 1) := by decide +kernel
theorem dX8_wayBy_14 : decode cX8_wayBy 14 = .ok (.aload_n 0, 1) := by decide +kernel
theorem dX8_wayBy_15 : decode cX8_wayBy 15 = .ok (.getfield 124, 3) := by decide +kernel
theorem dX8_wayBy_18 : decode cX8_wayBy 18 = .ok (.lmul, 1) := by decide +kernel
theorem dX8_wayBy_19 : decode cX8_wayBy 19 = .ok (.lstore 4, 2) := by decide +kernel
theorem dX8_wayBy_21 : decode cX8_wayBy 21 = .ok (.aload_n 0, 1) := by decide +kernel
theorem dX8_wayBy_22 : decode cX8_wayBy 22 = .ok (.getfield 22, 3) := by decide +kernel
theorem dX8_wayBy_25 : decode cX8_wayBy 25 = .ok (.iload_n 1, 1) := by decide +kernel
theorem dX8_wayBy_26 : decode cX8_wayBy 26 = .ok (.baload, 1) := by decide +kernel
theorem dX8_wayBy_27 : decode cX8_wayBy 27 = .ok (.ifCond .eq 30, 3) := by decide +kernel
theorem dX8_wayBy_30 : decode cX8_wayBy 30 = .ok (.lload_n 2, 1) := by decide +kernel
theorem dX8_wayBy_31 : decode cX8_wayBy 31 = .ok (.lconst 0, 1) := by decide +kernel
theorem dX8_wayBy_32 : decode cX8_wayBy 32 = .ok (.lcmp, 1) := by decide +kernel
theorem dX8_wayBy_33 : decode cX8_wayBy 33 = .ok (.ifCond .le 7, 3) := by decide +kernel
theorem dX8_wayBy_36 : decode cX8_wayBy 36 = .ok (.iconst 2, 1) := by decide +kernel
theorem dX8_wayBy_37 : decode cX8_wayBy 37 = .ok (.goto 19, 3) := by decide +kernel
theorem dX8_wayBy_40 : decode cX8_wayBy 40 = .ok (.lload_n 2, 1) := by decide +kernel
theorem dX8_wayBy_41 : decode cX8_wayBy 41 = .ok (.lconst 0, 1) := by decide +kernel
theorem dX8_wayBy_42 : decode cX8_wayBy 42 = .ok (.lcmp, 1) := by decide +kernel
theorem dX8_wayBy_43 : decode cX8_wayBy 43 = .ok (.ifCond .ge 7, 3) := by decide +kernel
theorem dX8_wayBy_46 : decode cX8_wayBy 46 = .ok (.iconst 0, 1) := by decide +kernel
theorem dX8_wayBy_47 : decode cX8_wayBy 47 = .ok (.goto 9, 3) := by decide +kernel
theorem dX8_wayBy_50 : decode cX8_wayBy 50 = .ok (.aload_n 0, 1) := by decide +kernel
theorem dX8_wayBy_51 : decode cX8_wayBy 51 = .ok (.getfield 51, 3) := by decide +kernel
theorem dX8_wayBy_54 : decode cX8_wayBy 54 = .ok (.iload_n 1, 1) := by decide +kernel
theorem dX8_wayBy_55 : decode cX8_wayBy 55 = .ok (.iaload, 1) := by decide +kernel
theorem dX8_wayBy_56 : decode cX8_wayBy 56 = .ok (.ireturn, 1) := by decide +kernel
theorem dX8_wayBy_57 : decode cX8_wayBy 57 = .ok (.aload_n 0, 1) := by decide +kernel
theorem dX8_wayBy_58 : decode cX8_wayBy 58 = .ok (.getfield 51, 3) := by decide +kernel
theorem dX8_wayBy_61 : decode cX8_wayBy 61 = .ok (.iload_n 1, 1) := by decide +kernel
theorem dX8_wayBy_62 : decode cX8_wayBy 62 = .ok (.iaload, 1) := by decide +kernel
theorem dX8_wayBy_63 : decode cX8_wayBy 63 = .ok (.ifCond .ne 9, 3) := by decide +kernel
theorem dX8_wayBy_66 : decode cX8_wayBy 66 = .ok (.lload_n 2, 1) := by decide +kernel
theorem dX8_wayBy_67 : decode cX8_wayBy 67 = .ok (.lconst 0, 1) := by decide +kernel
theorem dX8_wayBy_68 : decode cX8_wayBy 68 = .ok (.lcmp, 1) := by decide +kernel
theorem dX8_wayBy_69 : decode cX8_wayBy 69 = .ok (.ifCond .le 43, 3) := by decide +kernel
theorem dX8_wayBy_72 : decode cX8_wayBy 72 = .ok (.aload_n 0, 1) := by decide +kernel
theorem dX8_wayBy_73 : decode cX8_wayBy 73 = .ok (.getfield 51, 3) := by decide +kernel
theorem dX8_wayBy_76 : decode cX8_wayBy 76 = .ok (.iload_n 1, 1) := by decide +kernel
theorem dX8_wayBy_77 : decode cX8_wayBy 77 = .ok (.iaload, 1) := by decide +kernel
theorem dX8_wayBy_78 : decode cX8_wayBy 78 = .ok (.iconst 1, 1) := by decide +kernel
theorem dX8_wayBy_79 : decode cX8_wayBy 79 = .ok (.if_icmp .ne 16, 3) := by decide +kernel
theorem dX8_wayBy_82 : decode cX8_wayBy 82 = .ok (.lload_n 2, 1) := by decide +kernel
theorem dX8_wayBy_83 : decode cX8_wayBy 83 = .ok (.lconst 0, 1) := by decide +kernel
theorem dX8_wayBy_84 : decode cX8_wayBy 84 = .ok (.lcmp, 1) := by decide +kernel
theorem dX8_wayBy_85 : decode cX8_wayBy 85 = .ok (.ifCond .lt 10, 3) := by decide +kernel
theorem dX8_wayBy_88 : decode cX8_wayBy 88 = .ok (.lload_n 2, 1) := by decide +kernel
theorem dX8_wayBy_89 : decode cX8_wayBy 89 = .ok (.lload 4, 2) := by decide +kernel
theorem dX8_wayBy_91 : decode cX8_wayBy 91 = .ok (.lcmp, 1) := by decide +kernel
theorem dX8_wayBy_92 : decode cX8_wayBy 92 = .ok (.ifCond .le 20, 3) := by decide +kernel
theorem dX8_wayBy_95 : decode cX8_wayBy 95 = .ok (.aload_n 0, 1) := by decide +kernel
theorem dX8_wayBy_96 : decode cX8_wayBy 96 = .ok (.getfield 51, 3) := by decide +kernel
theorem dX8_wayBy_99 : decode cX8_wayBy 99 = .ok (.iload_n 1, 1) := by decide +kernel
theorem dX8_wayBy_100 : decode cX8_wayBy 100 = .ok (.iaload, 1) := by decide +kernel
theorem dX8_wayBy_101 : decode cX8_wayBy 101 = .ok (.iconst 2, 1) := by decide +kernel
theorem dX8_wayBy_102 : decode cX8_wayBy 102 = .ok (.if_icmp .ne 17, 3) := by decide +kernel
theorem dX8_wayBy_105 : decode cX8_wayBy 105 = .ok (.lload_n 2, 1) := by decide +kernel
theorem dX8_wayBy_106 : decode cX8_wayBy 106 = .ok (.lload 4, 2) := by decide +kernel
theorem dX8_wayBy_108 : decode cX8_wayBy 108 = .ok (.lcmp, 1) := by decide +kernel
theorem dX8_wayBy_109 : decode cX8_wayBy 109 = .ok (.ifCond .lt 10, 3) := by decide +kernel
theorem dX8_wayBy_112 : decode cX8_wayBy 112 = .ok (.aload_n 0, 1) := by decide +kernel
theorem dX8_wayBy_113 : decode cX8_wayBy 113 = .ok (.getfield 51, 3) := by decide +kernel
theorem dX8_wayBy_116 : decode cX8_wayBy 116 = .ok (.iload_n 1, 1) := by decide +kernel
theorem dX8_wayBy_117 : decode cX8_wayBy 117 = .ok (.iaload, 1) := by decide +kernel
theorem dX8_wayBy_118 : decode cX8_wayBy 118 = .ok (.ireturn, 1) := by decide +kernel
theorem dX8_wayBy_119 : decode cX8_wayBy 119 = .ok (.lload_n 2, 1) := by decide +kernel
theorem dX8_wayBy_120 : decode cX8_wayBy 120 = .ok (.lconst 0, 1) := by decide +kernel
theorem dX8_wayBy_121 : decode cX8_wayBy 121 = .ok (.lcmp, 1) := by decide +kernel
theorem dX8_wayBy_122 : decode cX8_wayBy 122 = .ok (.ifCond .ge 7, 3) := by decide +kernel
theorem dX8_wayBy_125 : decode cX8_wayBy 125 = .ok (.iconst 0, 1) := by decide +kernel
theorem dX8_wayBy_126 : decode cX8_wayBy 126 = .ok (.goto 15, 3) := by decide +kernel
theorem dX8_wayBy_129 : decode cX8_wayBy 129 = .ok (.lload_n 2, 1) := by decide +kernel
theorem dX8_wayBy_130 : decode cX8_wayBy 130 = .ok (.lload 4, 2) := by decide +kernel
theorem dX8_wayBy_132 : decode cX8_wayBy 132 = .ok (.lcmp, 1) := by decide +kernel
theorem dX8_wayBy_133 : decode cX8_wayBy 133 = .ok (.ifCond .le 7, 3) := by decide +kernel
theorem dX8_wayBy_136 : decode cX8_wayBy 136 = .ok (.iconst 2, 1) := by decide +kernel
theorem dX8_wayBy_137 : decode cX8_wayBy 137 = .ok (.goto 4, 3) := by decide +kernel
theorem dX8_wayBy_140 : decode cX8_wayBy 140 = .ok (.iconst 1, 1) := by decide +kernel
theorem dX8_wayBy_141 : decode cX8_wayBy 141 = .ok (.ireturn, 1) := by decide +kernel
set_option maxRecDepth 20000 in
theorem ggX8_isSo_X8_wayBy : GoodIn wsX8_isSo wsX8_wayBy := goodIn_r _ [7, 8, 9, 10, 11, 2, 12, 13, 14, 15, 16, 17, 18, 19, 20, 21, 22, 23, 24, 25, 26, 27, 28, 29, 30, 31, 32, 33, 34, 35, 36, 37, 38, 39, 40, 41, 42, 43, 44, 45, 46, 47, 48, 49, 50, 51, 52] (by decide +kernel) (by decide +kernel)
set_option maxRecDepth 20000 in
theorem gX8_isSo_X8_wayBy : GoodIn wsX8_isSo (wsV RX8 128 RX8 yX8_wayBy wsX8_wayBy) := goodIn_app (goodIn_of _ (by decide +kernel)) ggX8_isSo_X8_wayBy
theorem dX8_isSo_0 : decode cX8_isSo 0 = .ok (.iconst 1, 1) := by decide +kernel
theorem dX8_isSo_1 : decode cX8_isSo 1 = .ok (.istore_n 1, 1) := by decide +kernel
theorem dX8_isSo_2 : decode cX8_isSo 2 = .ok (.iconst 0, 1) := by decide +kernel
theorem dX8_isSo_3 : decode cX8_isSo 3 = .ok (.istore_n 2, 1) := by decide +kernel
theorem dX8_isSo_4 : decode cX8_isSo 4 = .ok (.iload_n 2, 1) := by decide +kernel
theorem dX8_isSo_5 : decode cX8_isSo 5 = .ok (.aload_n 0, 1) := by decide +kernel
theorem dX8_isSo_6 : decode cX8_isSo 6 = .ok (.getfield 86, 3) := by decide +kernel
theorem dX8_isSo_9 : decode cX8_isSo 9 = .ok (.if_icmp .ge 42, 3) := by decide +kernel
theorem dX8_isSo_12 : decode cX8_isSo 12 = .ok (.aload_n 0, 1) := by decide +kernel
theorem dX8_isSo_13 : decode cX8_isSo 13 = .ok (.iload_n 2, 1) := by decide +kernel
theorem dX8_isSo_14 : decode cX8_isSo 14 = .ok (.invokevirtual 128, 3) := by decide +kernel
theorem dX8_isSo_17 : decode cX8_isSo 17 = .ok (.istore_n 3, 1) := by decide +kernel
theorem dX8_isSo_18 : decode cX8_isSo 18 = .ok (.iload_n 1, 1) := by decide +kernel
theorem dX8_isSo_19 : decode cX8_isSo 19 = .ok (.ifCond .eq 17, 3) := by decide +kernel
theorem dX8_isSo_22 : decode cX8_isSo 22 = .ok (.iload_n 3, 1) := by decide +kernel
theorem dX8_isSo_23 : decode cX8_isSo 23 = .ok (.aload_n 0, 1) := by decide +kernel
theorem dX8_isSo_24 : decode cX8_isSo 24 = .ok (.getfield 51, 3) := by decide +kernel
theorem dX8_isSo_27 : decode cX8_isSo 27 = .ok (.iload_n 2, 1) := by decide +kernel
theorem dX8_isSo_28 : decode cX8_isSo 28 = .ok (.iaload, 1) := by decide +kernel
theorem dX8_isSo_29 : decode cX8_isSo 29 = .ok (.if_icmp .ne 7, 3) := by decide +kernel
theorem dX8_isSo_32 : decode cX8_isSo 32 = .ok (.iconst 1, 1) := by decide +kernel
theorem dX8_isSo_33 : decode cX8_isSo 33 = .ok (.goto 4, 3) := by decide +kernel
theorem dX8_isSo_36 : decode cX8_isSo 36 = .ok (.iconst 0, 1) := by decide +kernel
theorem dX8_isSo_37 : decode cX8_isSo 37 = .ok (.istore_n 1, 1) := by decide +kernel
theorem dX8_isSo_38 : decode cX8_isSo 38 = .ok (.aload_n 0, 1) := by decide +kernel
theorem dX8_isSo_39 : decode cX8_isSo 39 = .ok (.getfield 51, 3) := by decide +kernel
theorem dX8_isSo_42 : decode cX8_isSo 42 = .ok (.iload_n 2, 1) := by decide +kernel
theorem dX8_isSo_43 : decode cX8_isSo 43 = .ok (.iload_n 3, 1) := by decide +kernel
theorem dX8_isSo_44 : decode cX8_isSo 44 = .ok (.iastore, 1) := by decide +kernel
theorem dX8_isSo_45 : decode cX8_isSo 45 = .ok (.iinc 2 1, 3) := by decide +kernel
theorem dX8_isSo_48 : decode cX8_isSo 48 = .ok (.goto (-44), 3) := by decide +kernel
theorem dX8_isSo_51 : decode cX8_isSo 51 = .ok (.iload_n 1, 1) := by decide +kernel
theorem dX8_isSo_52 : decode cX8_isSo 52 = .ok (.ireturn, 1) := by decide +kernel
set_option maxRecDepth 20000 in
theorem ggX8_fits_X8_wayBy : GoodIn wsX8_fits wsX8_wayBy := goodIn_r _ [7, 8, 9, 10, 11, 2, 12, 13, 14, 15, 16, 17, 18, 19, 20, 21, 22, 23, 24, 25, 26, 27, 28, 29, 30, 31, 32, 33, 34, 35, 36, 37, 38, 39, 40, 41, 42, 43, 44, 45, 46, 47, 48, 49, 50, 51, 52] (by decide +kernel) (by decide +kernel)
set_option maxRecDepth 20000 in
theorem gX8_fits_X8_wayBy : GoodIn wsX8_fits (wsV RX8 128 RX8 yX8_wayBy wsX8_wayBy) := goodIn_app (goodIn_of _ (by decide +kernel)) ggX8_fits_X8_wayBy
theorem dX8_fits_0 : decode cX8_fits 0 = .ok (.iconst 1, 1) := by decide +kernel
theorem dX8_fits_1 : decode cX8_fits 1 = .ok (.istore_n 1, 1) := by decide +kernel
theorem dX8_fits_2 : decode cX8_fits 2 = .ok (.iconst 0, 1) := by decide +kernel
theorem dX8_fits_3 : decode cX8_fits 3 = .ok (.istore_n 2, 1) := by decide +kernel
theorem dX8_fits_4 : decode cX8_fits 4 = .ok (.iload_n 2, 1) := by decide +kernel
theorem dX8_fits_5 : decode cX8_fits 5 = .ok (.aload_n 0, 1) := by decide +kernel
theorem dX8_fits_6 : decode cX8_fits 6 = .ok (.getfield 86, 3) := by decide +kernel
theorem dX8_fits_9 : decode cX8_fits 9 = .ok (.if_icmp .ge 33, 3) := by decide +kernel
theorem dX8_fits_12 : decode cX8_fits 12 = .ok (.iload_n 1, 1) := by decide +kernel
theorem dX8_fits_13 : decode cX8_fits 13 = .ok (.ifCond .eq 21, 3) := by decide +kernel
theorem dX8_fits_16 : decode cX8_fits 16 = .ok (.aload_n 0, 1) := by decide +kernel
theorem dX8_fits_17 : decode cX8_fits 17 = .ok (.iload_n 2, 1) := by decide +kernel
theorem dX8_fits_18 : decode cX8_fits 18 = .ok (.invokevirtual 128, 3) := by decide +kernel
theorem dX8_fits_21 : decode cX8_fits 21 = .ok (.aload_n 0, 1) := by decide +kernel
theorem dX8_fits_22 : decode cX8_fits 22 = .ok (.getfield 51, 3) := by decide +kernel
theorem dX8_fits_25 : decode cX8_fits 25 = .ok (.iload_n 2, 1) := by decide +kernel
theorem dX8_fits_26 : decode cX8_fits 26 = .ok (.iaload, 1) := by decide +kernel
theorem dX8_fits_27 : decode cX8_fits 27 = .ok (.if_icmp .ne 7, 3) := by decide +kernel
theorem dX8_fits_30 : decode cX8_fits 30 = .ok (.iconst 1, 1) := by decide +kernel
theorem dX8_fits_31 : decode cX8_fits 31 = .ok (.goto 4, 3) := by decide +kernel
theorem dX8_fits_34 : decode cX8_fits 34 = .ok (.iconst 0, 1) := by decide +kernel
theorem dX8_fits_35 : decode cX8_fits 35 = .ok (.istore_n 1, 1) := by decide +kernel
theorem dX8_fits_36 : decode cX8_fits 36 = .ok (.iinc 2 1, 3) := by decide +kernel
theorem dX8_fits_39 : decode cX8_fits 39 = .ok (.goto (-35), 3) := by decide +kernel
theorem dX8_fits_42 : decode cX8_fits 42 = .ok (.iload_n 1, 1) := by decide +kernel
theorem dX8_fits_43 : decode cX8_fits 43 = .ok (.ireturn, 1) := by decide +kernel
set_option maxRecDepth 20000 in
theorem ggX8_findLifts_X8_layTable : GoodIn wsX8_findLifts wsX8_layTable := goodIn_r _ [8, 1, 9, 2, 3, 10, 11, 12, 13, 14, 15, 34, 35, 36, 37, 38, 39, 40, 41, 42, 43, 44, 45, 46, 47, 48, 49, 50, 51, 52, 53, 54, 55, 56, 57, 58, 59, 60, 61, 62, 63, 64, 65, 66, 67, 68, 69, 70, 71, 72, 73, 74] (by decide +kernel) (by decide +kernel)
set_option maxRecDepth 20000 in
theorem gX8_findLifts_X8_layTable : GoodIn wsX8_findLifts (wsV RX8 132 RX8 yX8_layTable wsX8_layTable) := goodIn_app (goodIn_of _ (by decide +kernel)) ggX8_findLifts_X8_layTable
set_option maxRecDepth 20000 in
theorem ggX8_findLifts_X8_solve : GoodIn wsX8_findLifts wsX8_solve := goodIn_r _ [19, 1, 9, 20, 21, 34, 35, 36, 37, 38, 39, 40, 41, 42, 43, 44, 45, 46, 47, 48, 49, 50, 51, 52, 53, 54, 55, 56, 57, 58, 59, 60, 61, 62, 63, 64, 65, 66, 67, 68, 69, 70, 71, 72, 73, 74] (by decide +kernel) (by decide +kernel)
set_option maxRecDepth 20000 in
theorem gX8_findLifts_X8_solve : GoodIn wsX8_findLifts (wsV RX8 135 RX8 yX8_solve wsX8_solve) := goodIn_app (goodIn_of _ (by decide +kernel)) ggX8_findLifts_X8_solve
set_option maxRecDepth 20000 in
theorem ggX8_findLifts_X8_isSo : GoodIn wsX8_findLifts wsX8_isSo := goodIn_r _ [25, 1, 2, 26, 27, 28, 7, 29, 21, 14, 20, 3, 34, 35, 36, 37, 38, 39, 40, 41, 42, 43, 44, 45, 46, 47, 48, 49, 50, 51, 52, 53, 54, 55, 56, 57, 58, 59, 60, 61, 62, 63, 64, 65, 66, 67, 68, 69, 70, 71, 72, 73, 74] (by decide +kernel) (by decide +kernel)
set_option maxRecDepth 20000 in
theorem gX8_findLifts_X8_isSo : GoodIn wsX8_findLifts (wsV RX8 138 RX8 yX8_isSo wsX8_isSo) := goodIn_app (goodIn_of _ (by decide +kernel)) ggX8_findLifts_X8_isSo
set_option maxRecDepth 20000 in
theorem ggX8_findLifts_X8_fits : GoodIn wsX8_findLifts wsX8_fits := goodIn_r _ [33, 1, 2, 26, 27, 28, 7, 29, 21, 14, 20, 3, 34, 35, 36, 37, 38, 39, 40, 41, 42, 43, 44, 45, 46, 47, 48, 49, 50, 51, 52, 53, 54, 55, 56, 57, 58, 59, 60, 61, 62, 63, 64, 65, 66, 67, 68, 69, 70, 71, 72, 73, 74] (by decide +kernel) (by decide +kernel)
set_option maxRecDepth 20000 in
theorem gX8_findLifts_X8_fits : GoodIn wsX8_findLifts (wsV RX8 142 RX8 yX8_fits wsX8_fits) := goodIn_app (goodIn_of _ (by decide +kernel)) ggX8_findLifts_X8_fits
theorem dX8_findLifts_0 : decode cX8_findLifts 0 = .ok (.iconst 0, 1) := by decide +kernel
theorem dX8_findLifts_1 : decode cX8_findLifts 1 = .ok (.istore_n 1, 1) := by decide +kernel
theorem dX8_findLifts_2 : decode cX8_findLifts 2 = .ok (.iload_n 1, 1) := by decide +kernel
theorem dX8_findLifts_3 : decode cX8_findLifts 3 = .ok (.aload_n 0, 1) := by decide +kernel
theorem dX8_findLifts_4 : decode cX8_findLifts 4 = .ok (.getfield 86, 3) := by decide +kernel
theorem dX8_findLifts_7 : decode cX8_findLifts 7 = .ok (.if_icmp .ge 29, 3) := by decide +kernel
theorem dX8_findLifts_10 : decode cX8_findLifts 10 = .ok (.aload_n 0, 1) := by decide +kernel
theorem dX8_findLifts_11 : decode cX8_findLifts 11 = .ok (.getfield 51, 3) := by decide +kernel
theorem dX8_findLifts_14 : decode cX8_findLifts 14 = .ok (.iload_n 1, 1) := by decide +kernel
theorem dX8_findLifts_15 : decode cX8_findLifts 15 = .ok (.aload_n 0, 1) := by decide +kernel
theorem dX8_findLifts_16 : decode cX8_findLifts 16 = .ok (.getfield 22, 3) := by decide +kernel
theorem dX8_findLifts_19 : decode cX8_findLifts 19 = .ok (.iload_n 1, 1) := by decide +kernel
theorem dX8_findLifts_20 : decode cX8_findLifts 20 = .ok (.baload, 1) := by decide +kernel
theorem dX8_findLifts_21 : decode cX8_findLifts 21 = .ok (.ifCond .eq 7, 3) := by decide +kernel
theorem dX8_findLifts_24 : decode cX8_findLifts 24 = .ok (.iconst 2, 1) := by decide +kernel
theorem dX8_findLifts_25 : decode cX8_findLifts 25 = .ok (.goto 4, 3) := by decide +kernel
theorem dX8_findLifts_28 : decode cX8_findLifts 28 = .ok (.iconst 1, 1) := by decide +kernel
theorem dX8_findLifts_29 : decode cX8_findLifts 29 = .ok (.iastore, 1) := by decide +kernel
theorem dX8_findLifts_30 : decode cX8_findLifts 30 = .ok (.iinc 1 1, 3) := by decide +kernel
theorem dX8_findLifts_33 : decode cX8_findLifts 33 = .ok (.goto (-31), 3) := by decide +kernel
theorem dX8_findLifts_36 : decode cX8_findLifts 36 = .ok (.iconst 0, 1) := by decide +kernel
theorem dX8_findLifts_37 : decode cX8_findLifts 37 = .ok (.istore_n 1, 1) := by decide +kernel
theorem dX8_findLifts_38 : decode cX8_findLifts 38 = .ok (.iload_n 1, 1) := by decide +kernel
theorem dX8_findLifts_39 : decode cX8_findLifts 39 = .ok (.bipush 40, 2) := by decide +kernel
theorem dX8_findLifts_41 : decode cX8_findLifts 41 = .ok (.if_icmp .ge 25, 3) := by decide +kernel
theorem dX8_findLifts_44 : decode cX8_findLifts 44 = .ok (.aload_n 0, 1) := by decide +kernel
theorem dX8_findLifts_45 : decode cX8_findLifts 45 = .ok (.invokevirtual 132, 3) := by decide +kernel
theorem dX8_findLifts_48 : decode cX8_findLifts 48 = .ok (.aload_n 0, 1) := by decide +kernel
theorem dX8_findLifts_49 : decode cX8_findLifts 49 = .ok (.invokevirtual 135, 3) := by decide +kernel
theorem dX8_findLifts_52 : decode cX8_findLifts 52 = .ok (.aload_n 0, 1) := by decide +kernel
theorem dX8_findLifts_53 : decode cX8_findLifts 53 = .ok (.invokevirtual 138, 3) := by decide +kernel
theorem dX8_findLifts_56 : decode cX8_findLifts 56 = .ok (.ifCond .eq 4, 3) := by decide +kernel
theorem dX8_findLifts_59 : decode cX8_findLifts 59 = .ok (.return_, 1) := by decide +kernel
theorem dX8_findLifts_60 : decode cX8_findLifts 60 = .ok (.iinc 1 1, 3) := by decide +kernel
theorem dX8_findLifts_63 : decode cX8_findLifts 63 = .ok (.goto (-25), 3) := by decide +kernel
theorem dX8_findLifts_66 : decode cX8_findLifts 66 = .ok (.iconst 1, 1) := by decide +kernel
theorem dX8_findLifts_67 : decode cX8_findLifts 67 = .ok (.istore_n 1, 1) := by decide +kernel
theorem dX8_findLifts_68 : decode cX8_findLifts 68 = .ok (.iconst 0, 1) := by decide +kernel
theorem dX8_findLifts_69 : decode cX8_findLifts 69 = .ok (.istore_n 2, 1) := by decide +kernel
theorem dX8_findLifts_70 : decode cX8_findLifts 70 = .ok (.iload_n 2, 1) := by decide +kernel
theorem dX8_findLifts_71 : decode cX8_findLifts 71 = .ok (.aload_n 0, 1) := by decide +kernel
theorem dX8_findLifts_72 : decode cX8_findLifts 72 = .ok (.getfield 86, 3) := by decide +kernel
theorem dX8_findLifts_75 : decode cX8_findLifts 75 = .ok (.if_icmp .ge 13, 3) := by decide +kernel
theorem dX8_findLifts_78 : decode cX8_findLifts 78 = .ok (.iload_n 1, 1) := by decide +kernel
theorem dX8_findLifts_79 : decode cX8_findLifts 79 = .ok (.iconst 3, 1) := by decide +kernel
theorem dX8_findLifts_80 : decode cX8_findLifts 80 = .ok (.imul, 1) := by decide +kernel
theorem dX8_findLifts_81 : decode cX8_findLifts 81 = .ok (.istore_n 1, 1) := by decide +kernel
theorem dX8_findLifts_82 : decode cX8_findLifts 82 = .ok (.iinc 2 1, 3) := by decide +kernel
theorem dX8_findLifts_85 : decode cX8_findLifts 85 = .ok (.goto (-15), 3) := by decide +kernel
theorem dX8_findLifts_88 : decode cX8_findLifts 88 = .ok (.iconst 0, 1) := by decide +kernel
theorem dX8_findLifts_89 : decode cX8_findLifts 89 = .ok (.istore_n 2, 1) := by decide +kernel
theorem dX8_findLifts_90 : decode cX8_findLifts 90 = .ok (.iload_n 2, 1) := by decide +kernel
theorem dX8_findLifts_91 : decode cX8_findLifts 91 = .ok (.iload_n 1, 1) := by decide +kernel
theorem dX8_findLifts_92 : decode cX8_findLifts 92 = .ok (.if_icmp .ge 59, 3) := by decide +kernel
theorem dX8_findLifts_95 : decode cX8_findLifts 95 = .ok (.iload_n 2, 1) := by decide +kernel
theorem dX8_findLifts_96 : decode cX8_findLifts 96 = .ok (.istore_n 3, 1) := by decide +kernel
theorem dX8_findLifts_97 : decode cX8_findLifts 97 = .ok (.iconst 0, 1) := by decide +kernel
theorem dX8_findLifts_98 : decode cX8_findLifts 98 = .ok (.istore 4, 2) := by decide +kernel
theorem dX8_findLifts_100 : decode cX8_findLifts 100 = .ok (.iload 4, 2) := by decide +kernel
theorem dX8_findLifts_102 : decode cX8_findLifts 102 = .ok (.aload_n 0, 1) := by decide +kernel
theorem dX8_findLifts_103 : decode cX8_findLifts 103 = .ok (.getfield 86, 3) := by decide +kernel
theorem dX8_findLifts_106 : decode cX8_findLifts 106 = .ok (.if_icmp .ge 23, 3) := by decide +kernel
theorem dX8_findLifts_109 : decode cX8_findLifts 109 = .ok (.aload_n 0, 1) := by decide +kernel
theorem dX8_findLifts_110 : decode cX8_findLifts 110 = .ok (.getfield 51, 3) := by decide +kernel
theorem dX8_findLifts_113 : decode cX8_findLifts 113 = .ok (.iload 4, 2) := by decide +kernel
theorem dX8_findLifts_115 : decode cX8_findLifts 115 = .ok (.iload_n 3, 1) := by decide +kernel
theorem dX8_findLifts_116 : decode cX8_findLifts 116 = .ok (.iconst 3, 1) := by decide +kernel
theorem dX8_findLifts_117 : decode cX8_findLifts 117 = .ok (.irem, 1) := by decide +kernel
theorem dX8_findLifts_118 : decode cX8_findLifts 118 = .ok (.iastore, 1) := by decide +kernel
theorem dX8_findLifts_119 : decode cX8_findLifts 119 = .ok (.iload_n 3, 1) := by decide +kernel
theorem dX8_findLifts_120 : decode cX8_findLifts 120 = .ok (.iconst 3, 1) := by decide +kernel
theorem dX8_findLifts_121 : decode cX8_findLifts 121 = .ok (.idiv, 1) := by decide +kernel
theorem dX8_findLifts_122 : decode cX8_findLifts 122 = .ok (.istore_n 3, 1) := by decide +kernel
theorem dX8_findLifts_123 : decode cX8_findLifts 123 = .ok (.iinc 4 1, 3) := by decide +kernel
theorem dX8_findLifts_126 : decode cX8_findLifts 126 = .ok (.goto (-26), 3) := by decide +kernel
theorem dX8_findLifts_129 : decode cX8_findLifts 129 = .ok (.aload_n 0, 1) := by decide +kernel
theorem dX8_findLifts_130 : decode cX8_findLifts 130 = .ok (.invokevirtual 132, 3) := by decide +kernel
theorem dX8_findLifts_133 : decode cX8_findLifts 133 = .ok (.aload_n 0, 1) := by decide +kernel
theorem dX8_findLifts_134 : decode cX8_findLifts 134 = .ok (.invokevirtual 135, 3) := by decide +kernel
theorem dX8_findLifts_137 : decode cX8_findLifts 137 = .ok (.aload_n 0, 1) := by decide +kernel
theorem dX8_findLifts_138 : decode cX8_findLifts 138 = .ok (.invokevirtual 142, 3) := by decide +kernel
theorem dX8_findLifts_141 : decode cX8_findLifts 141 = .ok (.ifCond .eq 4, 3) := by decide +kernel
theorem dX8_findLifts_144 : decode cX8_findLifts 144 = .ok (.return_, 1) := by decide +kernel
theorem dX8_findLifts_145 : decode cX8_findLifts 145 = .ok (.iinc 2 1, 3) := by decide +kernel
theorem dX8_findLifts_148 : decode cX8_findLifts 148 = .ok (.goto (-58), 3) := by decide +kernel
theorem dX8_findLifts_151 : decode cX8_findLifts 151 = .ok (.return_, 1) := by decide +kernel
theorem dX8_pull_0 : decode cX8_pull 0 = .ok (.aload_n 0, 1) := by decide +kernel
theorem dX8_pull_1 : decode cX8_pull 1 = .ok (.getfield 16, 3) := by decide +kernel
theorem dX8_pull_4 : decode cX8_pull 4 = .ok (.iload_n 1, 1) := by decide +kernel
theorem dX8_pull_5 : decode cX8_pull 5 = .ok (.iaload, 1) := by decide +kernel
theorem dX8_pull_6 : decode cX8_pull 6 = .ok (.i2l, 1) := by decide +kernel
theorem dX8_pull_7 : decode cX8_pull 7 = .ok (.aload_n 0, 1) := by decide +kernel
theorem dX8_pull_8 : decode cX8_pull 8 = .ok (.getfield 124, 3) := by decide +kernel
theorem dX8_pull_11 : decode cX8_pull 11 = .ok (.lmul, 1) := by decide +kernel
theorem dX8_pull_12 : decode cX8_pull 12 = .ok (.aload_n 0, 1) := by decide +kernel
theorem dX8_pull_13 : decode cX8_pull 13 = .ok (.getfield 44, 3) := by decide +kernel
theorem dX8_pull_16 : decode cX8_pull 16 = .ok (.iload_n 1, 1) := by decide +kernel
theorem dX8_pull_17 : decode cX8_pull 17 = .ok (.laload, 1) := by decide +kernel
theorem dX8_pull_18 : decode cX8_pull 18 = .ok (.lsub, 1) := by decide +kernel
theorem dX8_pull_19 : decode cX8_pull 19 = .ok (.lstore_n 2, 1) := by decide +kernel
theorem dX8_pull_20 : decode cX8_pull 20 = .ok (.aload_n 0, 1) := by decide +kernel
theorem dX8_pull_21 : decode cX8_pull 21 = .ok (.getfield 22, 3) := by decide +kernel
theorem dX8_pull_24 : decode cX8_pull 24 = .ok (.iload_n 1, 1) := by decide +kernel
theorem dX8_pull_25 : decode cX8_pull 25 = .ok (.baload, 1) := by decide +kernel
theorem dX8_pull_26 : decode cX8_pull 26 = .ok (.ifCond .ne 9, 3) := by decide +kernel
theorem dX8_pull_29 : decode cX8_pull 29 = .ok (.lload_n 2, 1) := by decide +kernel
theorem dX8_pull_30 : decode cX8_pull 30 = .ok (.lconst 0, 1) := by decide +kernel
theorem dX8_pull_31 : decode cX8_pull 31 = .ok (.lcmp, 1) := by decide +kernel
theorem dX8_pull_32 : decode cX8_pull 32 = .ok (.ifCond .ge 7, 3) := by decide +kernel
theorem dX8_pull_35 : decode cX8_pull 35 = .ok (.lconst 0, 1) := by decide +kernel
theorem dX8_pull_36 : decode cX8_pull 36 = .ok (.goto 12, 3) := by decide +kernel
theorem dX8_pull_39 : decode cX8_pull 39 = .ok (.aload_n 0, 1) := by decide +kernel
theorem dX8_pull_40 : decode cX8_pull 40 = .ok (.getfield 7, 3) := by decide +kernel
theorem dX8_pull_43 : decode cX8_pull 43 = .ok (.iload_n 1, 1) := by decide +kernel
theorem dX8_pull_44 : decode cX8_pull 44 = .ok (.iaload, 1) := by decide +kernel
theorem dX8_pull_45 : decode cX8_pull 45 = .ok (.i2l, 1) := by decide +kernel
theorem dX8_pull_46 : decode cX8_pull 46 = .ok (.lload_n 2, 1) := by decide +kernel
theorem dX8_pull_47 : decode cX8_pull 47 = .ok (.lmul, 1) := by decide +kernel
theorem dX8_pull_48 : decode cX8_pull 48 = .ok (.lreturn, 1) := by decide +kernel
theorem dX8_press_0 : decode cX8_press 0 = .ok (.aload_n 0, 1) := by decide +kernel
theorem dX8_press_1 : decode cX8_press 1 = .ok (.getfield 44, 3) := by decide +kernel
theorem dX8_press_4 : decode cX8_press 4 = .ok (.iload_n 1, 1) := by decide +kernel
theorem dX8_press_5 : decode cX8_press 5 = .ok (.laload, 1) := by decide +kernel
theorem dX8_press_6 : decode cX8_press 6 = .ok (.lconst 0, 1) := by decide +kernel
theorem dX8_press_7 : decode cX8_press 7 = .ok (.lcmp, 1) := by decide +kernel
theorem dX8_press_8 : decode cX8_press 8 = .ok (.ifCond .ge 7, 3) := by decide +kernel
theorem dX8_press_11 : decode cX8_press 11 = .ok (.lconst 0, 1) := by decide +kernel
theorem dX8_press_12 : decode cX8_press 12 = .ok (.goto 17, 3) := by decide +kernel
theorem dX8_press_15 : decode cX8_press 15 = .ok (.aload_n 0, 1) := by decide +kernel
theorem dX8_press_16 : decode cX8_press 16 = .ok (.getfield 13, 3) := by decide +kernel
theorem dX8_press_19 : decode cX8_press 19 = .ok (.iload_n 1, 1) := by decide +kernel
theorem dX8_press_20 : decode cX8_press 20 = .ok (.iaload, 1) := by decide +kernel
theorem dX8_press_21 : decode cX8_press 21 = .ok (.i2l, 1) := by decide +kernel
theorem dX8_press_22 : decode cX8_press 22 = .ok (.aload_n 0, 1) := by decide +kernel
theorem dX8_press_23 : decode cX8_press 23 = .ok (.getfield 44, 3) := by decide +kernel
theorem dX8_press_26 : decode cX8_press 26 = .ok (.iload_n 1, 1) := by decide +kernel
theorem dX8_press_27 : decode cX8_press 27 = .ok (.laload, 1) := by decide +kernel
theorem dX8_press_28 : decode cX8_press 28 = .ok (.lmul, 1) := by decide +kernel
theorem dX8_press_29 : decode cX8_press 29 = .ok (.lreturn, 1) := by decide +kernel
set_option maxRecDepth 20000 in
theorem ggX8_told_X8_noBolt : GoodIn wsX8_told wsX8_noBolt := goodIn_r _ [13, 14, 15, 16, 12, 17, 59, 60, 61, 62, 63, 64, 65, 66, 67, 68, 69, 70, 71, 72, 73, 74, 75, 76, 77, 78, 79, 80, 81, 82, 83, 84, 85, 86, 87, 88, 89, 90, 91, 92, 93, 94, 95, 96, 97, 98, 99] (by decide +kernel) (by decide +kernel)
set_option maxRecDepth 20000 in
theorem gX8_told_X8_noBolt : GoodIn wsX8_told (wsV RX8 106 RX8 yX8_noBolt wsX8_noBolt) := goodIn_app (goodIn_of _ (by decide +kernel)) ggX8_told_X8_noBolt
set_option maxRecDepth 20000 in
theorem ggX8_told_X8_findLifts : GoodIn wsX8_told wsX8_findLifts := goodIn_r _ [21, 14, 22, 7, 23, 24, 25, 12, 26, 27, 28, 29, 3, 4, 5, 6, 30, 31, 32, 33, 34, 35, 36, 37, 38, 39, 40, 41, 42, 43, 44, 45, 46, 47, 59, 60, 61, 62, 63, 64, 65, 66, 67, 68, 69, 70, 71, 72, 73, 74, 75, 76, 77, 78, 79, 80, 81, 82, 83, 84, 85, 86, 87, 88, 89, 90, 91, 92, 93, 94, 95, 96, 97, 98, 99] (by decide +kernel) (by decide +kernel)
set_option maxRecDepth 20000 in
theorem gX8_told_X8_findLifts : GoodIn wsX8_told (wsV RX8 145 RX8 yX8_findLifts wsX8_findLifts) := goodIn_app (goodIn_of _ (by decide +kernel)) ggX8_told_X8_findLifts
set_option maxRecDepth 20000 in
theorem ggX8_told_X8_bit : GoodIn wsX8_told wsX8_bit := goodIn_r _ [50] (by decide +kernel) (by decide +kernel)
set_option maxRecDepth 20000 in
theorem gX8_told_X8_bit : GoodIn wsX8_told (va_wsS RX8 113 yX8_bit wsX8_bit) := goodIn_app (goodIn_of _ (by decide +kernel)) ggX8_told_X8_bit
set_option maxRecDepth 20000 in
theorem ggX8_told_X8_pull : GoodIn wsX8_told wsX8_pull := goodIn_r _ [54, 5, 34, 35, 7, 3, 59, 60, 61, 62, 63, 64, 65, 66, 67, 68, 69, 70, 71, 72, 73, 74, 75, 76, 77, 78, 79, 80, 81, 82, 83, 84, 85, 86, 87, 88, 89, 90, 91, 92, 93, 94, 95, 96, 97, 98, 99] (by decide +kernel) (by decide +kernel)
set_option maxRecDepth 20000 in
theorem gX8_told_X8_pull : GoodIn wsX8_told (wsV RX8 148 RX8 yX8_pull wsX8_pull) := goodIn_app (goodIn_of _ (by decide +kernel)) ggX8_told_X8_pull
set_option maxRecDepth 20000 in
theorem ggX8_told_X8_press : GoodIn wsX8_told wsX8_press := goodIn_r _ [58, 35, 4, 59, 60, 61, 62, 63, 64, 65, 66, 67, 68, 69, 70, 71, 72, 73, 74, 75, 76, 77, 78, 79, 80, 81, 82, 83, 84, 85, 86, 87, 88, 89, 90, 91, 92, 93, 94, 95, 96, 97, 98, 99] (by decide +kernel) (by decide +kernel)
set_option maxRecDepth 20000 in
theorem gX8_told_X8_press : GoodIn wsX8_told (wsV RX8 152 RX8 yX8_press wsX8_press) := goodIn_app (goodIn_of _ (by decide +kernel)) ggX8_told_X8_press
theorem dX8_told_0 : decode cX8_told 0 = .ok (.aload_n 0, 1) := by decide +kernel
theorem dX8_told_1 : decode cX8_told 1 = .ok (.iload_n 1, 1) := by decide +kernel
theorem dX8_told_2 : decode cX8_told 2 = .ok (.invokevirtual 106, 3) := by decide +kernel
theorem dX8_told_5 : decode cX8_told 5 = .ok (.ifCond .eq 6, 3) := by decide +kernel
theorem dX8_told_8 : decode cX8_told 8 = .ok (.ldc 110, 2) := by decide +kernel
theorem dX8_told_10 : decode cX8_told 10 = .ok (.ireturn, 1) := by decide +kernel
theorem dX8_told_11 : decode cX8_told 11 = .ok (.aload_n 0, 1) := by decide +kernel
theorem dX8_told_12 : decode cX8_told 12 = .ok (.invokevirtual 145, 3) := by decide +kernel
theorem dX8_told_15 : decode cX8_told 15 = .ok (.iconst 0, 1) := by decide +kernel
theorem dX8_told_16 : decode cX8_told 16 = .ok (.istore_n 3, 1) := by decide +kernel
theorem dX8_told_17 : decode cX8_told 17 = .ok (.aload_n 0, 1) := by decide +kernel
theorem dX8_told_18 : decode cX8_told 18 = .ok (.getfield 26, 3) := by decide +kernel
theorem dX8_told_21 : decode cX8_told 21 = .ok (.iload_n 3, 1) := by decide +kernel
theorem dX8_told_22 : decode cX8_told 22 = .ok (.iaload, 1) := by decide +kernel
theorem dX8_told_23 : decode cX8_told 23 = .ok (.iload_n 1, 1) := by decide +kernel
theorem dX8_told_24 : decode cX8_told 24 = .ok (.if_icmp .eq 9, 3) := by decide +kernel
theorem dX8_told_27 : decode cX8_told 27 = .ok (.iinc 3 1, 3) := by decide +kernel
theorem dX8_told_30 : decode cX8_told 30 = .ok (.goto (-13), 3) := by decide +kernel
theorem dX8_told_33 : decode cX8_told 33 = .ok (.iload_n 2, 1) := by decide +kernel
theorem dX8_told_34 : decode cX8_told 34 = .ok (.tableswitch 124 0 7 #[46, 53, 60, 67, 74, 84, 103, 122], 46) := by decide +kernel
theorem dX8_told_80 : decode cX8_told 80 = .ok (.aload_n 0, 1) := by decide +kernel
theorem dX8_told_81 : decode cX8_told 81 = .ok (.getfield 7, 3) := by decide +kernel
theorem dX8_told_84 : decode cX8_told 84 = .ok (.iload_n 1, 1) := by decide +kernel
theorem dX8_told_85 : decode cX8_told 85 = .ok (.iaload, 1) := by decide +kernel
theorem dX8_told_86 : decode cX8_told 86 = .ok (.ireturn, 1) := by decide +kernel
theorem dX8_told_87 : decode cX8_told 87 = .ok (.aload_n 0, 1) := by decide +kernel
theorem dX8_told_88 : decode cX8_told 88 = .ok (.getfield 13, 3) := by decide +kernel
theorem dX8_told_91 : decode cX8_told 91 = .ok (.iload_n 1, 1) := by decide +kernel
theorem dX8_told_92 : decode cX8_told 92 = .ok (.iaload, 1) := by decide +kernel
theorem dX8_told_93 : decode cX8_told 93 = .ok (.ireturn, 1) := by decide +kernel
theorem dX8_told_94 : decode cX8_told 94 = .ok (.aload_n 0, 1) := by decide +kernel
theorem dX8_told_95 : decode cX8_told 95 = .ok (.getfield 16, 3) := by decide +kernel
theorem dX8_told_98 : decode cX8_told 98 = .ok (.iload_n 1, 1) := by decide +kernel
theorem dX8_told_99 : decode cX8_told 99 = .ok (.iaload, 1) := by decide +kernel
theorem dX8_told_100 : decode cX8_told 100 = .ok (.ireturn, 1) := by decide +kernel
theorem dX8_told_101 : decode cX8_told 101 = .ok (.aload_n 0, 1) := by decide +kernel
theorem dX8_told_102 : decode cX8_told 102 = .ok (.getfield 19, 3) := by decide +kernel
theorem dX8_told_105 : decode cX8_told 105 = .ok (.iload_n 1, 1) := by decide +kernel
theorem dX8_told_106 : decode cX8_told 106 = .ok (.iaload, 1) := by decide +kernel
theorem dX8_told_107 : decode cX8_told 107 = .ok (.ireturn, 1) := by decide +kernel
theorem dX8_told_108 : decode cX8_told 108 = .ok (.aload_n 0, 1) := by decide +kernel
theorem dX8_told_109 : decode cX8_told 109 = .ok (.getfield 22, 3) := by decide +kernel
theorem dX8_told_112 : decode cX8_told 112 = .ok (.iload_n 1, 1) := by decide +kernel
theorem dX8_told_113 : decode cX8_told 113 = .ok (.baload, 1) := by decide +kernel
theorem dX8_told_114 : decode cX8_told 114 = .ok (.invokestatic 113, 3) := by decide +kernel
theorem dX8_told_117 : decode cX8_told 117 = .ok (.ireturn, 1) := by decide +kernel
theorem dX8_told_118 : decode cX8_told 118 = .ok (.aload_n 0, 1) := by decide +kernel
theorem dX8_told_119 : decode cX8_told 119 = .ok (.iload_n 1, 1) := by decide +kernel
theorem dX8_told_120 : decode cX8_told 120 = .ok (.invokevirtual 148, 3) := by decide +kernel
theorem dX8_told_123 : decode cX8_told 123 = .ok (.lconst 0, 1) := by decide +kernel
theorem dX8_told_124 : decode cX8_told 124 = .ok (.lcmp, 1) := by decide +kernel
theorem dX8_told_125 : decode cX8_told 125 = .ok (.ifCond .ne 7, 3) := by decide +kernel
theorem dX8_told_128 : decode cX8_told 128 = .ok (.iconst 1, 1) := by decide +kernel
theorem dX8_told_129 : decode cX8_told 129 = .ok (.goto 4, 3) := by decide +kernel
theorem dX8_told_132 : decode cX8_told 132 = .ok (.iconst 0, 1) := by decide +kernel
theorem dX8_told_133 : decode cX8_told 133 = .ok (.invokestatic 113, 3) := by decide +kernel
theorem dX8_told_136 : decode cX8_told 136 = .ok (.ireturn, 1) := by decide +kernel
theorem dX8_told_137 : decode cX8_told 137 = .ok (.aload_n 0, 1) := by decide +kernel
theorem dX8_told_138 : decode cX8_told 138 = .ok (.iload_n 1, 1) := by decide +kernel
theorem dX8_told_139 : decode cX8_told 139 = .ok (.invokevirtual 152, 3) := by decide +kernel
theorem dX8_told_142 : decode cX8_told 142 = .ok (.lconst 0, 1) := by decide +kernel
theorem dX8_told_143 : decode cX8_told 143 = .ok (.lcmp, 1) := by decide +kernel
theorem dX8_told_144 : decode cX8_told 144 = .ok (.ifCond .ne 7, 3) := by decide +kernel
theorem dX8_told_147 : decode cX8_told 147 = .ok (.iconst 1, 1) := by decide +kernel
theorem dX8_told_148 : decode cX8_told 148 = .ok (.goto 4, 3) := by decide +kernel
theorem dX8_told_151 : decode cX8_told 151 = .ok (.iconst 0, 1) := by decide +kernel
theorem dX8_told_152 : decode cX8_told 152 = .ok (.invokestatic 113, 3) := by decide +kernel
theorem dX8_told_155 : decode cX8_told 155 = .ok (.ireturn, 1) := by decide +kernel
theorem dX8_told_156 : decode cX8_told 156 = .ok (.iload_n 3, 1) := by decide +kernel
theorem dX8_told_157 : decode cX8_told 157 = .ok (.ireturn, 1) := by decide +kernel
theorem dX8_told_158 : decode cX8_told 158 = .ok (.ldc 105, 2) := by decide +kernel
theorem dX8_told_160 : decode cX8_told 160 = .ok (.ireturn, 1) := by decide +kernel
set_option maxRecDepth 20000 in
theorem ggX8_force_X8_noBolt : GoodIn wsX8_force wsX8_noBolt := goodIn_r _ [10, 11, 12, 13, 9, 14, 58, 59, 60, 61, 62, 63, 64, 65, 66, 67, 68, 69, 70, 71, 72, 73, 74, 75, 76, 77, 78, 79, 80, 81, 82, 83, 84, 85, 86, 87, 88, 89, 90, 91, 92, 93, 94, 95, 96, 97, 98] (by decide +kernel) (by decide +kernel)
set_option maxRecDepth 20000 in
theorem gX8_force_X8_noBolt : GoodIn wsX8_force (wsV RX8 106 RX8 yX8_noBolt wsX8_noBolt) := goodIn_app (goodIn_of _ (by decide +kernel)) ggX8_force_X8_noBolt
set_option maxRecDepth 20000 in
theorem ggX8_force_X8_in : GoodIn wsX8_force wsX8_in := goodIn_r _ [14] (by decide +kernel) (by decide +kernel)
set_option maxRecDepth 20000 in
theorem gX8_force_X8_in : GoodIn wsX8_force (va_wsS RX8 99 yX8_in wsX8_in) := goodIn_app (goodIn_of _ (by decide +kernel)) ggX8_force_X8_in
set_option maxRecDepth 20000 in
theorem ggX8_force_X8_findLifts : GoodIn wsX8_force wsX8_findLifts := goodIn_r _ [18, 11, 19, 20, 21, 22, 23, 9, 24, 25, 2, 26, 27, 28, 29, 30, 31, 32, 33, 34, 5, 4, 35, 36, 37, 38, 39, 40, 41, 42, 43, 44, 45, 46, 58, 59, 60, 61, 62, 63, 64, 65, 66, 67, 68, 69, 70, 71, 72, 73, 74, 75, 76, 77, 78, 79, 80, 81, 82, 83, 84, 85, 86, 87, 88, 89, 90, 91, 92, 93, 94, 95, 96, 97, 98] (by decide +kernel) (by decide +kernel)
set_option maxRecDepth 20000 in
theorem gX8_force_X8_findLifts : GoodIn wsX8_force (wsV RX8 145 RX8 yX8_findLifts wsX8_findLifts) := goodIn_app (goodIn_of _ (by decide +kernel)) ggX8_force_X8_findLifts
set_option maxRecDepth 20000 in
theorem ggX8_force_X8_pull : GoodIn wsX8_force wsX8_pull := goodIn_r _ [50, 29, 5, 4, 20, 27, 58, 59, 60, 61, 62, 63, 64, 65, 66, 67, 68, 69, 70, 71, 72, 73, 74, 75, 76, 77, 78, 79, 80, 81, 82, 83, 84, 85, 86, 87, 88, 89, 90, 91, 92, 93, 94, 95, 96, 97, 98] (by decide +kernel) (by decide +kernel)
set_option maxRecDepth 20000 in
theorem gX8_force_X8_pull : GoodIn wsX8_force (wsV RX8 148 RX8 yX8_pull wsX8_pull) := goodIn_app (goodIn_of _ (by decide +kernel)) ggX8_force_X8_pull
set_option maxRecDepth 20000 in
theorem ggX8_force_X8_press : GoodIn wsX8_force wsX8_press := goodIn_r _ [54, 4, 28, 58, 59, 60, 61, 62, 63, 64, 65, 66, 67, 68, 69, 70, 71, 72, 73, 74, 75, 76, 77, 78, 79, 80, 81, 82, 83, 84, 85, 86, 87, 88, 89, 90, 91, 92, 93, 94, 95, 96, 97, 98] (by decide +kernel) (by decide +kernel)
set_option maxRecDepth 20000 in
theorem gX8_force_X8_press : GoodIn wsX8_force (wsV RX8 152 RX8 yX8_press wsX8_press) := goodIn_app (goodIn_of _ (by decide +kernel)) ggX8_force_X8_press
set_option maxRecDepth 20000 in
theorem ggX8_force_X8_gcd : GoodIn wsX8_force wsX8_gcd := goodIn_r _ [57] (by decide +kernel) (by decide +kernel)
set_option maxRecDepth 20000 in
theorem gX8_force_X8_gcd : GoodIn wsX8_force (va_wsS RX8 159 yX8_gcd wsX8_gcd) := goodIn_app (goodIn_of _ (by decide +kernel)) ggX8_force_X8_gcd
theorem dX8_force_0 : decode cX8_force 0 = .ok (.aload_n 0, 1) := by decide +kernel
theorem dX8_force_1 : decode cX8_force 1 = .ok (.iload_n 1, 1) := by decide +kernel
theorem dX8_force_2 : decode cX8_force 2 = .ok (.invokevirtual 106, 3) := by decide +kernel
theorem dX8_force_5 : decode cX8_force 5 = .ok (.ifCond .eq 7, 3) := by decide +kernel
theorem dX8_force_8 : decode cX8_force 8 = .ok (.ldc2_w 155, 3) := by decide +kernel
theorem dX8_force_11 : decode cX8_force 11 = .ok (.lreturn, 1) := by decide +kernel
theorem dX8_force_12 : decode cX8_force 12 = .ok (.iload_n 2, 1) := by decide +kernel
theorem dX8_force_13 : decode cX8_force 13 = .ok (.i2l, 1) := by decide +kernel
theorem dX8_force_14 : decode cX8_force 14 = .ok (.lconst 0, 1) := by decide +kernel
theorem dX8_force_15 : decode cX8_force 15 = .ok (.ldc2_w 122, 3) := by decide +kernel
theorem dX8_force_18 : decode cX8_force 18 = .ok (.invokestatic 99, 3) := by decide +kernel
theorem dX8_force_21 : decode cX8_force 21 = .ok (.ifCond .eq 13, 3) := by decide +kernel
theorem dX8_force_24 : decode cX8_force 24 = .ok (.iload_n 3, 1) := by decide +kernel
theorem dX8_force_25 : decode cX8_force 25 = .ok (.i2l, 1) := by decide +kernel
theorem dX8_force_26 : decode cX8_force 26 = .ok (.lconst 0, 1) := by decide +kernel
theorem dX8_force_27 : decode cX8_force 27 = .ok (.lconst 1, 1) := by decide +kernel
theorem dX8_force_28 : decode cX8_force 28 = .ok (.invokestatic 99, 3) := by decide +kernel
theorem dX8_force_31 : decode cX8_force 31 = .ok (.ifCond .ne 7, 3) := by decide +kernel
theorem dX8_force_34 : decode cX8_force 34 = .ok (.ldc2_w 157, 3) := by decide +kernel
theorem dX8_force_37 : decode cX8_force 37 = .ok (.lreturn, 1) := by decide +kernel
theorem dX8_force_38 : decode cX8_force 38 = .ok (.aload_n 0, 1) := by decide +kernel
theorem dX8_force_39 : decode cX8_force 39 = .ok (.invokevirtual 145, 3) := by decide +kernel
theorem dX8_force_42 : decode cX8_force 42 = .ok (.iload_n 2, 1) := by decide +kernel
theorem dX8_force_43 : decode cX8_force 43 = .ok (.ifCond .ne 11, 3) := by decide +kernel
theorem dX8_force_46 : decode cX8_force 46 = .ok (.aload_n 0, 1) := by decide +kernel
theorem dX8_force_47 : decode cX8_force 47 = .ok (.iload_n 1, 1) := by decide +kernel
theorem dX8_force_48 : decode cX8_force 48 = .ok (.invokevirtual 148, 3) := by decide +kernel
theorem dX8_force_51 : decode cX8_force 51 = .ok (.goto 22, 3) := by decide +kernel
theorem dX8_force_54 : decode cX8_force 54 = .ok (.iload_n 2, 1) := by decide +kernel
theorem dX8_force_55 : decode cX8_force 55 = .ok (.iconst 1, 1) := by decide +kernel
theorem dX8_force_56 : decode cX8_force 56 = .ok (.if_icmp .ne 11, 3) := by decide +kernel
theorem dX8_force_59 : decode cX8_force 59 = .ok (.aload_n 0, 1) := by decide +kernel
theorem dX8_force_60 : decode cX8_force 60 = .ok (.iload_n 1, 1) := by decide +kernel
theorem dX8_force_61 : decode cX8_force 61 = .ok (.invokevirtual 152, 3) := by decide +kernel
theorem dX8_force_64 : decode cX8_force 64 = .ok (.goto 9, 3) := by decide +kernel
theorem dX8_force_67 : decode cX8_force 67 = .ok (.aload_n 0, 1) := by decide +kernel
theorem dX8_force_68 : decode cX8_force 68 = .ok (.getfield 44, 3) := by decide +kernel
theorem dX8_force_71 : decode cX8_force 71 = .ok (.iload_n 1, 1) := by decide +kernel
theorem dX8_force_72 : decode cX8_force 72 = .ok (.laload, 1) := by decide +kernel
theorem dX8_force_73 : decode cX8_force 73 = .ok (.lstore 4, 2) := by decide +kernel
theorem dX8_force_75 : decode cX8_force 75 = .ok (.lload 4, 2) := by decide +kernel
theorem dX8_force_77 : decode cX8_force 77 = .ok (.aload_n 0, 1) := by decide +kernel
theorem dX8_force_78 : decode cX8_force 78 = .ok (.getfield 124, 3) := by decide +kernel
theorem dX8_force_81 : decode cX8_force 81 = .ok (.invokestatic 159, 3) := by decide +kernel
theorem dX8_force_84 : decode cX8_force 84 = .ok (.lstore 6, 2) := by decide +kernel
theorem dX8_force_86 : decode cX8_force 86 = .ok (.iload_n 3, 1) := by decide +kernel
theorem dX8_force_87 : decode cX8_force 87 = .ok (.ifCond .ne 11, 3) := by decide +kernel
theorem dX8_force_90 : decode cX8_force 90 = .ok (.lload 4, 2) := by decide +kernel
theorem dX8_force_92 : decode cX8_force 92 = .ok (.lload 6, 2) := by decide +kernel
theorem dX8_force_94 : decode cX8_force 94 = .ok (.ldiv, 1) := by decide +kernel
theorem dX8_force_95 : decode cX8_force 95 = .ok (.goto 10, 3) := by decide +kernel
theorem dX8_force_98 : decode cX8_force 98 = .ok (.aload_n 0, 1) := by decide +kernel
theorem dX8_force_99 : decode cX8_force 99 = .ok (.getfield 124, 3) := by decide +kernel
theorem dX8_force_102 : decode cX8_force 102 = .ok (.lload 6, 2) := by decide +kernel
theorem dX8_force_104 : decode cX8_force 104 = .ok (.ldiv, 1) := by decide +kernel
theorem dX8_force_105 : decode cX8_force 105 = .ok (.lreturn, 1) := by decide +kernel
set_option maxRecDepth 20000 in
theorem ggX8_count_X8_findLifts : GoodIn wsX8_count wsX8_findLifts := goodIn_r _ [12, 1, 13, 14, 15, 16, 17, 11, 18, 19, 20, 21, 22, 23, 2, 24, 25, 26, 27, 28, 29, 30, 31, 32, 33, 34, 35, 36, 37, 38, 39, 40, 41, 42, 58, 59, 60, 61, 62, 63, 64, 65, 66, 67, 68, 69, 70, 71, 72, 73, 74, 75, 76, 77, 78, 79, 80, 81, 82, 83, 84, 85, 86, 87, 88, 89, 90, 91, 92, 93, 94, 95, 96, 97, 98] (by decide +kernel) (by decide +kernel)
set_option maxRecDepth 20000 in
theorem gX8_count_X8_findLifts : GoodIn wsX8_count (wsV RX8 145 RX8 yX8_findLifts wsX8_findLifts) := goodIn_app (goodIn_of _ (by decide +kernel)) ggX8_count_X8_findLifts
set_option maxRecDepth 20000 in
theorem ggX8_count_X8_pull : GoodIn wsX8_count wsX8_pull := goodIn_r _ [46, 2, 29, 30, 14, 22, 58, 59, 60, 61, 62, 63, 64, 65, 66, 67, 68, 69, 70, 71, 72, 73, 74, 75, 76, 77, 78, 79, 80, 81, 82, 83, 84, 85, 86, 87, 88, 89, 90, 91, 92, 93, 94, 95, 96, 97, 98] (by decide +kernel) (by decide +kernel)
set_option maxRecDepth 20000 in
theorem gX8_count_X8_pull : GoodIn wsX8_count (wsV RX8 148 RX8 yX8_pull wsX8_pull) := goodIn_app (goodIn_of _ (by decide +kernel)) ggX8_count_X8_pull
set_option maxRecDepth 20000 in
theorem ggX8_count_X8_bit : GoodIn wsX8_count wsX8_bit := goodIn_r _ [49] (by decide +kernel) (by decide +kernel)
set_option maxRecDepth 20000 in
theorem gX8_count_X8_bit : GoodIn wsX8_count (va_wsS RX8 113 yX8_bit wsX8_bit) := goodIn_app (goodIn_of _ (by decide +kernel)) ggX8_count_X8_bit
set_option maxRecDepth 20000 in
theorem ggX8_count_X8_press : GoodIn wsX8_count wsX8_press := goodIn_r _ [53, 30, 23, 58, 59, 60, 61, 62, 63, 64, 65, 66, 67, 68, 69, 70, 71, 72, 73, 74, 75, 76, 77, 78, 79, 80, 81, 82, 83, 84, 85, 86, 87, 88, 89, 90, 91, 92, 93, 94, 95, 96, 97, 98] (by decide +kernel) (by decide +kernel)
set_option maxRecDepth 20000 in
theorem gX8_count_X8_press : GoodIn wsX8_count (wsV RX8 152 RX8 yX8_press wsX8_press) := goodIn_app (goodIn_of _ (by decide +kernel)) ggX8_count_X8_press
set_option maxRecDepth 20000 in
theorem ggX8_count_X8_whole : GoodIn wsX8_count wsX8_whole := goodIn_r _ [57, 1, 14, 47, 48, 11, 49, 58, 59, 60, 61, 62, 63, 64, 65, 66, 67, 68, 69, 70, 71, 72, 73, 74, 75, 76, 77, 78, 79, 80, 81, 82, 83, 84, 85, 86, 87, 88, 89, 90, 91, 92, 93, 94, 95, 96, 97, 98] (by decide +kernel) (by decide +kernel)
set_option maxRecDepth 20000 in
theorem gX8_count_X8_whole : GoodIn wsX8_count (wsV RX8 117 RX8 yX8_whole wsX8_whole) := goodIn_app (goodIn_of _ (by decide +kernel)) ggX8_count_X8_whole
theorem dX8_count_0 : decode cX8_count 0 = .ok (.aload_n 0, 1) := by decide +kernel
theorem dX8_count_1 : decode cX8_count 1 = .ok (.invokevirtual 145, 3) := by decide +kernel
theorem dX8_count_4 : decode cX8_count 4 = .ok (.iconst 0, 1) := by decide +kernel
theorem dX8_count_5 : decode cX8_count 5 = .ok (.istore_n 2, 1) := by decide +kernel
theorem dX8_count_6 : decode cX8_count 6 = .ok (.iconst 0, 1) := by decide +kernel
theorem dX8_count_7 : decode cX8_count 7 = .ok (.istore_n 3, 1) := by decide +kernel
theorem dX8_count_8 : decode cX8_count 8 = .ok (.iconst 0, 1) := by decide +kernel
theorem dX8_count_9 : decode cX8_count 9 = .ok (.istore 4, 2) := by decide +kernel
theorem dX8_count_11 : decode cX8_count 11 = .ok (.iconst 0, 1) := by decide +kernel
theorem dX8_count_12 : decode cX8_count 12 = .ok (.istore 5, 2) := by decide +kernel
theorem dX8_count_14 : decode cX8_count 14 = .ok (.iconst 0, 1) := by decide +kernel
theorem dX8_count_15 : decode cX8_count 15 = .ok (.istore 6, 2) := by decide +kernel
theorem dX8_count_17 : decode cX8_count 17 = .ok (.iload 6, 2) := by decide +kernel
theorem dX8_count_19 : decode cX8_count 19 = .ok (.aload_n 0, 1) := by decide +kernel
theorem dX8_count_20 : decode cX8_count 20 = .ok (.getfield 86, 3) := by decide +kernel
theorem dX8_count_23 : decode cX8_count 23 = .ok (.if_icmp .ge 80, 3) := by decide +kernel
theorem dX8_count_26 : decode cX8_count 26 = .ok (.iload_n 2, 1) := by decide +kernel
theorem dX8_count_27 : decode cX8_count 27 = .ok (.aload_n 0, 1) := by decide +kernel
theorem dX8_count_28 : decode cX8_count 28 = .ok (.iload 6, 2) := by decide +kernel
theorem dX8_count_30 : decode cX8_count 30 = .ok (.invokevirtual 148, 3) := by decide +kernel
theorem dX8_count_33 : decode cX8_count 33 = .ok (.lconst 0, 1) := by decide +kernel
theorem dX8_count_34 : decode cX8_count 34 = .ok (.lcmp, 1) := by decide +kernel
theorem dX8_count_35 : decode cX8_count 35 = .ok (.ifCond .ne 7, 3) := by decide +kernel
theorem dX8_count_38 : decode cX8_count 38 = .ok (.iconst 1, 1) := by decide +kernel
theorem dX8_count_39 : decode cX8_count 39 = .ok (.goto 4, 3) := by decide +kernel
theorem dX8_count_42 : decode cX8_count 42 = .ok (.iconst 0, 1) := by decide +kernel
theorem dX8_count_43 : decode cX8_count 43 = .ok (.invokestatic 113, 3) := by decide +kernel
theorem dX8_count_46 : decode cX8_count 46 = .ok (.iadd, 1) := by decide +kernel
theorem dX8_count_47 : decode cX8_count 47 = .ok (.istore_n 2, 1) := by decide +kernel
theorem dX8_count_48 : decode cX8_count 48 = .ok (.iload_n 3, 1) := by decide +kernel
theorem dX8_count_49 : decode cX8_count 49 = .ok (.aload_n 0, 1) := by decide +kernel
theorem dX8_count_50 : decode cX8_count 50 = .ok (.iload 6, 2) := by decide +kernel
theorem dX8_count_52 : decode cX8_count 52 = .ok (.invokevirtual 152, 3) := by decide +kernel
theorem dX8_count_55 : decode cX8_count 55 = .ok (.lconst 0, 1) := by decide +kernel
theorem dX8_count_56 : decode cX8_count 56 = .ok (.lcmp, 1) := by decide +kernel
theorem dX8_count_57 : decode cX8_count 57 = .ok (.ifCond .ne 7, 3) := by decide +kernel
theorem dX8_count_60 : decode cX8_count 60 = .ok (.iconst 1, 1) := by decide +kernel
theorem dX8_count_61 : decode cX8_count 61 = .ok (.goto 4, 3) := by decide +kernel
theorem dX8_count_64 : decode cX8_count 64 = .ok (.iconst 0, 1) := by decide +kernel
theorem dX8_count_65 : decode cX8_count 65 = .ok (.invokestatic 113, 3) := by decide +kernel
theorem dX8_count_68 : decode cX8_count 68 = .ok (.iadd, 1) := by decide +kernel
theorem dX8_count_69 : decode cX8_count 69 = .ok (.istore_n 3, 1) := by decide +kernel
theorem dX8_count_70 : decode cX8_count 70 = .ok (.iload 4, 2) := by decide +kernel
theorem dX8_count_72 : decode cX8_count 72 = .ok (.aload_n 0, 1) := by decide +kernel
theorem dX8_count_73 : decode cX8_count 73 = .ok (.getfield 16, 3) := by decide +kernel
theorem dX8_count_76 : decode cX8_count 76 = .ok (.iload 6, 2) := by decide +kernel
theorem dX8_count_78 : decode cX8_count 78 = .ok (.iaload, 1) := by decide +kernel
theorem dX8_count_79 : decode cX8_count 79 = .ok (.iadd, 1) := by decide +kernel
theorem dX8_count_80 : decode cX8_count 80 = .ok (.istore 4, 2) := by decide +kernel
theorem dX8_count_82 : decode cX8_count 82 = .ok (.iload 5, 2) := by decide +kernel
theorem dX8_count_84 : decode cX8_count 84 = .ok (.aload_n 0, 1) := by decide +kernel
theorem dX8_count_85 : decode cX8_count 85 = .ok (.getfield 35, 3) := by decide +kernel
theorem dX8_count_88 : decode cX8_count 88 = .ok (.iload 6, 2) := by decide +kernel
theorem dX8_count_90 : decode cX8_count 90 = .ok (.baload, 1) := by decide +kernel
theorem dX8_count_91 : decode cX8_count 91 = .ok (.invokestatic 113, 3) := by decide +kernel
theorem dX8_count_94 : decode cX8_count 94 = .ok (.iadd, 1) := by decide +kernel
theorem dX8_count_95 : decode cX8_count 95 = .ok (.istore 5, 2) := by decide +kernel
theorem dX8_count_97 : decode cX8_count 97 = .ok (.iinc 6 1, 3) := by decide +kernel
theorem dX8_count_100 : decode cX8_count 100 = .ok (.goto (-83), 3) := by decide +kernel
theorem dX8_count_103 : decode cX8_count 103 = .ok (.iload_n 1, 1) := by decide +kernel
theorem dX8_count_104 : decode cX8_count 104 = .ok (.tableswitch 92 0 8 #[52, 57, 67, 69, 71, 74, 79, 82, 87], 52) := by decide +kernel
theorem dX8_count_156 : decode cX8_count 156 = .ok (.aload_n 0, 1) := by decide +kernel
theorem dX8_count_157 : decode cX8_count 157 = .ok (.getfield 86, 3) := by decide +kernel
theorem dX8_count_160 : decode cX8_count 160 = .ok (.ireturn, 1) := by decide +kernel
theorem dX8_count_161 : decode cX8_count 161 = .ok (.aload_n 0, 1) := by decide +kernel
theorem dX8_count_162 : decode cX8_count 162 = .ok (.getfield 86, 3) := by decide +kernel
theorem dX8_count_165 : decode cX8_count 165 = .ok (.aload_n 0, 1) := by decide +kernel
theorem dX8_count_166 : decode cX8_count 166 = .ok (.invokevirtual 117, 3) := by decide +kernel
theorem dX8_count_169 : decode cX8_count 169 = .ok (.isub, 1) := by decide +kernel
theorem dX8_count_170 : decode cX8_count 170 = .ok (.ireturn, 1) := by decide +kernel
theorem dX8_count_171 : decode cX8_count 171 = .ok (.iload_n 2, 1) := by decide +kernel
theorem dX8_count_172 : decode cX8_count 172 = .ok (.ireturn, 1) := by decide +kernel
theorem dX8_count_173 : decode cX8_count 173 = .ok (.iload_n 3, 1) := by decide +kernel
theorem dX8_count_174 : decode cX8_count 174 = .ok (.ireturn, 1) := by decide +kernel
theorem dX8_count_175 : decode cX8_count 175 = .ok (.iload 4, 2) := by decide +kernel
theorem dX8_count_177 : decode cX8_count 177 = .ok (.ireturn, 1) := by decide +kernel
theorem dX8_count_178 : decode cX8_count 178 = .ok (.aload_n 0, 1) := by decide +kernel
theorem dX8_count_179 : decode cX8_count 179 = .ok (.getfield 92, 3) := by decide +kernel
theorem dX8_count_182 : decode cX8_count 182 = .ok (.ireturn, 1) := by decide +kernel
theorem dX8_count_183 : decode cX8_count 183 = .ok (.iload 5, 2) := by decide +kernel
theorem dX8_count_185 : decode cX8_count 185 = .ok (.ireturn, 1) := by decide +kernel
theorem dX8_count_186 : decode cX8_count 186 = .ok (.aload_n 0, 1) := by decide +kernel
theorem dX8_count_187 : decode cX8_count 187 = .ok (.getfield 163, 3) := by decide +kernel
theorem dX8_count_190 : decode cX8_count 190 = .ok (.ireturn, 1) := by decide +kernel
theorem dX8_count_191 : decode cX8_count 191 = .ok (.aload_n 0, 1) := by decide +kernel
theorem dX8_count_192 : decode cX8_count 192 = .ok (.getfield 166, 3) := by decide +kernel
theorem dX8_count_195 : decode cX8_count 195 = .ok (.ireturn, 1) := by decide +kernel
theorem dX8_count_196 : decode cX8_count 196 = .ok (.ldc 105, 2) := by decide +kernel
theorem dX8_count_198 : decode cX8_count 198 = .ok (.ireturn, 1) := by decide +kernel
set_option maxRecDepth 20000 in
theorem ggX8_has_X8_findLifts : GoodIn wsX8_has wsX8_findLifts := goodIn_r _ [6, 7, 8, 9, 10, 11, 12, 5, 13, 14, 15, 16, 17, 18, 19, 20, 21, 22, 23, 24, 1, 25, 26, 27, 28, 29, 30, 31, 32, 33, 34, 35, 36, 37, 42, 43, 44, 45, 46, 47, 48, 49, 50, 51, 52, 53, 54, 55, 56, 57, 58, 59, 60, 61, 62, 63, 64, 65, 66, 67, 68, 69, 70, 71, 72, 73, 74, 75, 76, 77, 78, 79, 80, 81, 82] (by decide +kernel) (by decide +kernel)
set_option maxRecDepth 20000 in
theorem gX8_has_X8_findLifts : GoodIn wsX8_has (wsV RX8 145 RX8 yX8_findLifts wsX8_findLifts) := goodIn_app (goodIn_of _ (by decide +kernel)) ggX8_has_X8_findLifts
set_option maxRecDepth 20000 in
theorem ggX8_has_X8_pull : GoodIn wsX8_has wsX8_pull := goodIn_r _ [41, 19, 1, 25, 9, 17, 42, 43, 44, 45, 46, 47, 48, 49, 50, 51, 52, 53, 54, 55, 56, 57, 58, 59, 60, 61, 62, 63, 64, 65, 66, 67, 68, 69, 70, 71, 72, 73, 74, 75, 76, 77, 78, 79, 80, 81, 82] (by decide +kernel) (by decide +kernel)
set_option maxRecDepth 20000 in
theorem gX8_has_X8_pull : GoodIn wsX8_has (wsV RX8 148 RX8 yX8_pull wsX8_pull) := goodIn_app (goodIn_of _ (by decide +kernel)) ggX8_has_X8_pull
theorem dX8_has_0 : decode cX8_has 0 = .ok (.aload_n 0, 1) := by decide +kernel
theorem dX8_has_1 : decode cX8_has 1 = .ok (.invokevirtual 145, 3) := by decide +kernel
theorem dX8_has_4 : decode cX8_has 4 = .ok (.aload_n 0, 1) := by decide +kernel
theorem dX8_has_5 : decode cX8_has 5 = .ok (.iload_n 1, 1) := by decide +kernel
theorem dX8_has_6 : decode cX8_has 6 = .ok (.invokevirtual 148, 3) := by decide +kernel
theorem dX8_has_9 : decode cX8_has 9 = .ok (.iload_n 2, 1) := by decide +kernel
theorem dX8_has_10 : decode cX8_has 10 = .ok (.i2l, 1) := by decide +kernel
theorem dX8_has_11 : decode cX8_has 11 = .ok (.aload_n 0, 1) := by decide +kernel
theorem dX8_has_12 : decode cX8_has 12 = .ok (.getfield 124, 3) := by decide +kernel
theorem dX8_has_15 : decode cX8_has 15 = .ok (.lmul, 1) := by decide +kernel
theorem dX8_has_16 : decode cX8_has 16 = .ok (.lcmp, 1) := by decide +kernel
theorem dX8_has_17 : decode cX8_has 17 = .ok (.ifCond .lt 7, 3) := by decide +kernel
theorem dX8_has_20 : decode cX8_has 20 = .ok (.iconst 1, 1) := by decide +kernel
theorem dX8_has_21 : decode cX8_has 21 = .ok (.goto 4, 3) := by decide +kernel
theorem dX8_has_24 : decode cX8_has 24 = .ok (.iconst 0, 1) := by decide +kernel
theorem dX8_has_25 : decode cX8_has 25 = .ok (.ireturn, 1) := by decide +kernel
set_option maxRecDepth 20000 in
theorem ggX8_drawOf_X8_has : GoodIn wsX8_drawOf wsX8_has := goodIn_r _ [6, 7, 8, 9, 10, 5, 11, 12, 13, 14, 15, 16, 17, 18, 19, 20, 21, 22, 23, 1, 24, 25, 26, 27, 28, 29, 30, 31, 32, 33, 34, 35, 36, 37, 38, 39, 40, 41, 42, 43, 44, 45, 46, 47, 48, 49, 50, 51, 52, 53, 54, 55, 56, 57, 58, 59, 60, 61, 62, 63, 64, 65, 66, 67, 68, 69, 70, 71, 72, 73, 74, 75, 76, 77, 78, 79, 80, 81, 82, 83, 84, 85, 86] (by decide +kernel) (by decide +kernel)
set_option maxRecDepth 20000 in
theorem gX8_drawOf_X8_has : GoodIn wsX8_drawOf (wsV RX8 169 RX8 yX8_has wsX8_has) := goodIn_app (goodIn_of _ (by decide +kernel)) ggX8_drawOf_X8_has
theorem dX8_drawOf_0 : decode cX8_drawOf 0 = .ok (.aload_n 0, 1) := by decide +kernel
theorem dX8_drawOf_1 : decode cX8_drawOf 1 = .ok (.getfield 16, 3) := by decide +kernel
theorem dX8_drawOf_4 : decode cX8_drawOf 4 = .ok (.iload_n 1, 1) := by decide +kernel
theorem dX8_drawOf_5 : decode cX8_drawOf 5 = .ok (.iaload, 1) := by decide +kernel
theorem dX8_drawOf_6 : decode cX8_drawOf 6 = .ok (.istore_n 3, 1) := by decide +kernel
theorem dX8_drawOf_7 : decode cX8_drawOf 7 = .ok (.aload_n 0, 1) := by decide +kernel
theorem dX8_drawOf_8 : decode cX8_drawOf 8 = .ok (.iload_n 1, 1) := by decide +kernel
theorem dX8_drawOf_9 : decode cX8_drawOf 9 = .ok (.iload_n 2, 1) := by decide +kernel
theorem dX8_drawOf_10 : decode cX8_drawOf 10 = .ok (.invokevirtual 169, 3) := by decide +kernel
theorem dX8_drawOf_13 : decode cX8_drawOf 13 = .ok (.ifCond .eq 5, 3) := by decide +kernel
theorem dX8_drawOf_16 : decode cX8_drawOf 16 = .ok (.iconst 0, 1) := by decide +kernel
theorem dX8_drawOf_17 : decode cX8_drawOf 17 = .ok (.ireturn, 1) := by decide +kernel
theorem dX8_drawOf_18 : decode cX8_drawOf 18 = .ok (.aload_n 0, 1) := by decide +kernel
theorem dX8_drawOf_19 : decode cX8_drawOf 19 = .ok (.getfield 16, 3) := by decide +kernel
theorem dX8_drawOf_22 : decode cX8_drawOf 22 = .ok (.iload_n 1, 1) := by decide +kernel
theorem dX8_drawOf_23 : decode cX8_drawOf 23 = .ok (.sipush 200, 3) := by decide +kernel
theorem dX8_drawOf_26 : decode cX8_drawOf 26 = .ok (.iastore, 1) := by decide +kernel
theorem dX8_drawOf_27 : decode cX8_drawOf 27 = .ok (.iload_n 3, 1) := by decide +kernel
theorem dX8_drawOf_28 : decode cX8_drawOf 28 = .ok (.sipush 200, 3) := by decide +kernel
theorem dX8_drawOf_31 : decode cX8_drawOf 31 = .ok (.if_icmp .eq 12, 3) := by decide +kernel
theorem dX8_drawOf_34 : decode cX8_drawOf 34 = .ok (.aload_n 0, 1) := by decide +kernel
theorem dX8_drawOf_35 : decode cX8_drawOf 35 = .ok (.iload_n 1, 1) := by decide +kernel
theorem dX8_drawOf_36 : decode cX8_drawOf 36 = .ok (.iload_n 2, 1) := by decide +kernel
theorem dX8_drawOf_37 : decode cX8_drawOf 37 = .ok (.invokevirtual 169, 3) := by decide +kernel
theorem dX8_drawOf_40 : decode cX8_drawOf 40 = .ok (.ifCond .ne 12, 3) := by decide +kernel
theorem dX8_drawOf_43 : decode cX8_drawOf 43 = .ok (.aload_n 0, 1) := by decide +kernel
theorem dX8_drawOf_44 : decode cX8_drawOf 44 = .ok (.getfield 16, 3) := by decide +kernel
theorem dX8_drawOf_47 : decode cX8_drawOf 47 = .ok (.iload_n 1, 1) := by decide +kernel
theorem dX8_drawOf_48 : decode cX8_drawOf 48 = .ok (.iload_n 3, 1) := by decide +kernel
theorem dX8_drawOf_49 : decode cX8_drawOf 49 = .ok (.iastore, 1) := by decide +kernel
theorem dX8_drawOf_50 : decode cX8_drawOf 50 = .ok (.iconst (-1), 1) := by decide +kernel
theorem dX8_drawOf_51 : decode cX8_drawOf 51 = .ok (.ireturn, 1) := by decide +kernel
theorem dX8_drawOf_52 : decode cX8_drawOf 52 = .ok (.iload_n 3, 1) := by decide +kernel
theorem dX8_drawOf_53 : decode cX8_drawOf 53 = .ok (.istore 4, 2) := by decide +kernel
theorem dX8_drawOf_55 : decode cX8_drawOf 55 = .ok (.sipush 200, 3) := by decide +kernel
theorem dX8_drawOf_58 : decode cX8_drawOf 58 = .ok (.istore 5, 2) := by decide +kernel
theorem dX8_drawOf_60 : decode cX8_drawOf 60 = .ok (.iload 5, 2) := by decide +kernel
theorem dX8_drawOf_62 : decode cX8_drawOf 62 = .ok (.iload 4, 2) := by decide +kernel
theorem dX8_drawOf_64 : decode cX8_drawOf 64 = .ok (.isub, 1) := by decide +kernel
theorem dX8_drawOf_65 : decode cX8_drawOf 65 = .ok (.iconst 1, 1) := by decide +kernel
theorem dX8_drawOf_66 : decode cX8_drawOf 66 = .ok (.if_icmp .le 43, 3) := by decide +kernel
theorem dX8_drawOf_69 : decode cX8_drawOf 69 = .ok (.iload 4, 2) := by decide +kernel
theorem dX8_drawOf_71 : decode cX8_drawOf 71 = .ok (.iload 5, 2) := by decide +kernel
theorem dX8_drawOf_73 : decode cX8_drawOf 73 = .ok (.iadd, 1) := by decide +kernel
theorem dX8_drawOf_74 : decode cX8_drawOf 74 = .ok (.iconst 2, 1) := by decide +kernel
theorem dX8_drawOf_75 : decode cX8_drawOf 75 = .ok (.idiv, 1) := by decide +kernel
theorem dX8_drawOf_76 : decode cX8_drawOf 76 = .ok (.istore 6, 2) := by decide +kernel
theorem dX8_drawOf_78 : decode cX8_drawOf 78 = .ok (.aload_n 0, 1) := by decide +kernel
theorem dX8_drawOf_79 : decode cX8_drawOf 79 = .ok (.getfield 16, 3) := by decide +kernel
theorem dX8_drawOf_82 : decode cX8_drawOf 82 = .ok (.iload_n 1, 1) := by decide +kernel
theorem dX8_drawOf_83 : decode cX8_drawOf 83 = .ok (.iload 6, 2) := by decide +kernel
theorem dX8_drawOf_85 : decode cX8_drawOf 85 = .ok (.iastore, 1) := by decide +kernel
theorem dX8_drawOf_86 : decode cX8_drawOf 86 = .ok (.aload_n 0, 1) := by decide +kernel
theorem dX8_drawOf_87 : decode cX8_drawOf 87 = .ok (.iload_n 1, 1) := by decide +kernel
theorem dX8_drawOf_88 : decode cX8_drawOf 88 = .ok (.iload_n 2, 1) := by decide +kernel
theorem dX8_drawOf_89 : decode cX8_drawOf 89 = .ok (.invokevirtual 169, 3) := by decide +kernel
theorem dX8_drawOf_92 : decode cX8_drawOf 92 = .ok (.ifCond .eq 10, 3) := by decide +kernel
theorem dX8_drawOf_95 : decode cX8_drawOf 95 = .ok (.iload 6, 2) := by decide +kernel
theorem dX8_drawOf_97 : decode cX8_drawOf 97 = .ok (.istore 5, 2) := by decide +kernel
theorem dX8_drawOf_99 : decode cX8_drawOf 99 = .ok (.goto 7, 3) := by decide +kernel
theorem dX8_drawOf_102 : decode cX8_drawOf 102 = .ok (.iload 6, 2) := by decide +kernel
theorem dX8_drawOf_104 : decode cX8_drawOf 104 = .ok (.istore 4, 2) := by decide +kernel
theorem dX8_drawOf_106 : decode cX8_drawOf 106 = .ok (.goto (-46), 3) := by decide +kernel
theorem dX8_drawOf_109 : decode cX8_drawOf 109 = .ok (.aload_n 0, 1) := by decide +kernel
theorem dX8_drawOf_110 : decode cX8_drawOf 110 = .ok (.getfield 16, 3) := by decide +kernel
theorem dX8_drawOf_113 : decode cX8_drawOf 113 = .ok (.iload_n 1, 1) := by decide +kernel
theorem dX8_drawOf_114 : decode cX8_drawOf 114 = .ok (.iload 5, 2) := by decide +kernel
theorem dX8_drawOf_116 : decode cX8_drawOf 116 = .ok (.iastore, 1) := by decide +kernel
theorem dX8_drawOf_117 : decode cX8_drawOf 117 = .ok (.iload 5, 2) := by decide +kernel
theorem dX8_drawOf_119 : decode cX8_drawOf 119 = .ok (.iload_n 3, 1) := by decide +kernel
theorem dX8_drawOf_120 : decode cX8_drawOf 120 = .ok (.isub, 1) := by decide +kernel
theorem dX8_drawOf_121 : decode cX8_drawOf 121 = .ok (.ireturn, 1) := by decide +kernel
set_option maxRecDepth 20000 in
theorem ggX8_isAim_X8_in : GoodIn wsX8_isAim wsX8_in := goodIn_r _ [5] (by decide +kernel) (by decide +kernel)
set_option maxRecDepth 20000 in
theorem gX8_isAim_X8_in : GoodIn wsX8_isAim (va_wsS RX8 99 yX8_in wsX8_in) := goodIn_app (goodIn_of _ (by decide +kernel)) ggX8_isAim_X8_in
theorem dX8_isAim_0 : decode cX8_isAim 0 = .ok (.iload_n 0, 1) := by decide +kernel
theorem dX8_isAim_1 : decode cX8_isAim 1 = .ok (.i2l, 1) := by decide +kernel
theorem dX8_isAim_2 : decode cX8_isAim 2 = .ok (.lconst 1, 1) := by decide +kernel
theorem dX8_isAim_3 : decode cX8_isAim 3 = .ok (.ldc2_w 173, 3) := by decide +kernel
theorem dX8_isAim_6 : decode cX8_isAim 6 = .ok (.invokestatic 99, 3) := by decide +kernel
theorem dX8_isAim_9 : decode cX8_isAim 9 = .ok (.ireturn, 1) := by decide +kernel
set_option maxRecDepth 20000 in
theorem ggX8_draw_X8_noBolt : GoodIn wsX8_draw wsX8_noBolt := goodIn_r _ [9, 10, 11, 12, 8, 13, 64, 65, 66, 67, 68, 69, 70, 71, 72, 73, 74, 75, 76, 77, 78, 79, 80, 81, 82, 83, 84, 85, 86, 87, 88, 89, 90, 91, 92, 93, 94, 95, 96, 97, 98, 99, 100, 101, 102, 103, 104] (by decide +kernel) (by decide +kernel)
set_option maxRecDepth 20000 in
theorem gX8_draw_X8_noBolt : GoodIn wsX8_draw (wsV RX8 106 RX8 yX8_noBolt wsX8_noBolt) := goodIn_app (goodIn_of _ (by decide +kernel)) ggX8_draw_X8_noBolt
set_option maxRecDepth 20000 in
theorem ggX8_draw_X8_isAim : GoodIn wsX8_draw wsX8_isAim := goodIn_r _ [16, 17, 11, 12, 8, 13] (by decide +kernel) (by decide +kernel)
set_option maxRecDepth 20000 in
theorem gX8_draw_X8_isAim : GoodIn wsX8_draw (va_wsS RX8 175 yX8_isAim wsX8_isAim) := goodIn_app (goodIn_of _ (by decide +kernel)) ggX8_draw_X8_isAim
set_option maxRecDepth 20000 in
theorem ggX8_draw_X8_drawOf : GoodIn wsX8_draw wsX8_drawOf := goodIn_r _ [21, 22, 23, 24, 25, 8, 26, 27, 28, 29, 30, 31, 10, 32, 3, 33, 34, 35, 36, 37, 38, 39, 40, 41, 42, 43, 44, 45, 46, 47, 48, 49, 50, 51, 52, 53, 54, 55, 56, 57, 58, 59, 60, 61, 62, 63, 64, 65, 66, 67, 68, 69, 70, 71, 72, 73, 74, 75, 76, 77, 78, 79, 80, 81, 82, 83, 84, 85, 86, 87, 88, 89, 90, 91, 92, 93, 94, 95, 96, 97, 98, 99, 100, 101, 102, 103, 104] (by decide +kernel) (by decide +kernel)
set_option maxRecDepth 20000 in
theorem gX8_draw_X8_drawOf : GoodIn wsX8_draw (wsV RX8 178 RX8 yX8_drawOf wsX8_drawOf) := goodIn_app (goodIn_of _ (by decide +kernel)) ggX8_draw_X8_drawOf
theorem dX8_draw_0 : decode cX8_draw 0 = .ok (.aload_n 0, 1) := by decide +kernel
theorem dX8_draw_1 : decode cX8_draw 1 = .ok (.iload_n 1, 1) := by decide +kernel
theorem dX8_draw_2 : decode cX8_draw 2 = .ok (.invokevirtual 106, 3) := by decide +kernel
theorem dX8_draw_5 : decode cX8_draw 5 = .ok (.ifCond .eq 6, 3) := by decide +kernel
theorem dX8_draw_8 : decode cX8_draw 8 = .ok (.ldc 110, 2) := by decide +kernel
theorem dX8_draw_10 : decode cX8_draw 10 = .ok (.ireturn, 1) := by decide +kernel
theorem dX8_draw_11 : decode cX8_draw 11 = .ok (.iload_n 2, 1) := by decide +kernel
theorem dX8_draw_12 : decode cX8_draw 12 = .ok (.invokestatic 175, 3) := by decide +kernel
theorem dX8_draw_15 : decode cX8_draw 15 = .ok (.ifCond .ne 6, 3) := by decide +kernel
theorem dX8_draw_18 : decode cX8_draw 18 = .ok (.ldc 105, 2) := by decide +kernel
theorem dX8_draw_20 : decode cX8_draw 20 = .ok (.ireturn, 1) := by decide +kernel
theorem dX8_draw_21 : decode cX8_draw 21 = .ok (.aload_n 0, 1) := by decide +kernel
theorem dX8_draw_22 : decode cX8_draw 22 = .ok (.getfield 22, 3) := by decide +kernel
theorem dX8_draw_25 : decode cX8_draw 25 = .ok (.iload_n 1, 1) := by decide +kernel
theorem dX8_draw_26 : decode cX8_draw 26 = .ok (.baload, 1) := by decide +kernel
theorem dX8_draw_27 : decode cX8_draw 27 = .ok (.ifCond .eq 6, 3) := by decide +kernel
theorem dX8_draw_30 : decode cX8_draw 30 = .ok (.ldc 121, 2) := by decide +kernel
theorem dX8_draw_32 : decode cX8_draw 32 = .ok (.ireturn, 1) := by decide +kernel
theorem dX8_draw_33 : decode cX8_draw 33 = .ok (.aload_n 0, 1) := by decide +kernel
theorem dX8_draw_34 : decode cX8_draw 34 = .ok (.iload_n 1, 1) := by decide +kernel
theorem dX8_draw_35 : decode cX8_draw 35 = .ok (.iload_n 2, 1) := by decide +kernel
theorem dX8_draw_36 : decode cX8_draw 36 = .ok (.invokevirtual 178, 3) := by decide +kernel
theorem dX8_draw_39 : decode cX8_draw 39 = .ok (.istore_n 3, 1) := by decide +kernel
theorem dX8_draw_40 : decode cX8_draw 40 = .ok (.iload_n 3, 1) := by decide +kernel
theorem dX8_draw_41 : decode cX8_draw 41 = .ok (.ifCond .ge 8, 3) := by decide +kernel
theorem dX8_draw_44 : decode cX8_draw 44 = .ok (.ldc 121, 2) := by decide +kernel
theorem dX8_draw_46 : decode cX8_draw 46 = .ok (.goto 4, 3) := by decide +kernel
theorem dX8_draw_49 : decode cX8_draw 49 = .ok (.iload_n 3, 1) := by decide +kernel
theorem dX8_draw_50 : decode cX8_draw 50 = .ok (.ireturn, 1) := by decide +kernel
theorem dX8_isRow_0 : decode cX8_isRow 0 = .ok (.iload_n 1, 1) := by decide +kernel
theorem dX8_isRow_1 : decode cX8_isRow 1 = .ok (.istore_n 2, 1) := by decide +kernel
theorem dX8_isRow_2 : decode cX8_isRow 2 = .ok (.iconst 0, 1) := by decide +kernel
theorem dX8_isRow_3 : decode cX8_isRow 3 = .ok (.istore_n 3, 1) := by decide +kernel
theorem dX8_isRow_4 : decode cX8_isRow 4 = .ok (.aload_n 0, 1) := by decide +kernel
theorem dX8_isRow_5 : decode cX8_isRow 5 = .ok (.getfield 86, 3) := by decide +kernel
theorem dX8_isRow_8 : decode cX8_isRow 8 = .ok (.iconst 1, 1) := by decide +kernel
theorem dX8_isRow_9 : decode cX8_isRow 9 = .ok (.isub, 1) := by decide +kernel
theorem dX8_isRow_10 : decode cX8_isRow 10 = .ok (.istore 4, 2) := by decide +kernel
theorem dX8_isRow_12 : decode cX8_isRow 12 = .ok (.iload 4, 2) := by decide +kernel
theorem dX8_isRow_14 : decode cX8_isRow 14 = .ok (.ifCond .lt 37, 3) := by decide +kernel
theorem dX8_isRow_17 : decode cX8_isRow 17 = .ok (.aload_n 0, 1) := by decide +kernel
theorem dX8_isRow_18 : decode cX8_isRow 18 = .ok (.getfield 54, 3) := by decide +kernel
theorem dX8_isRow_21 : decode cX8_isRow 21 = .ok (.iload 4, 2) := by decide +kernel
theorem dX8_isRow_23 : decode cX8_isRow 23 = .ok (.iload_n 2, 1) := by decide +kernel
theorem dX8_isRow_24 : decode cX8_isRow 24 = .ok (.bipush 10, 2) := by decide +kernel
theorem dX8_isRow_26 : decode cX8_isRow 26 = .ok (.irem, 1) := by decide +kernel
theorem dX8_isRow_27 : decode cX8_isRow 27 = .ok (.iastore, 1) := by decide +kernel
theorem dX8_isRow_28 : decode cX8_isRow 28 = .ok (.iload_n 2, 1) := by decide +kernel
theorem dX8_isRow_29 : decode cX8_isRow 29 = .ok (.bipush 10, 2) := by decide +kernel
theorem dX8_isRow_31 : decode cX8_isRow 31 = .ok (.idiv, 1) := by decide +kernel
theorem dX8_isRow_32 : decode cX8_isRow 32 = .ok (.istore_n 2, 1) := by decide +kernel
theorem dX8_isRow_33 : decode cX8_isRow 33 = .ok (.iload_n 3, 1) := by decide +kernel
theorem dX8_isRow_34 : decode cX8_isRow 34 = .ok (.iconst 1, 1) := by decide +kernel
theorem dX8_isRow_35 : decode cX8_isRow 35 = .ok (.aload_n 0, 1) := by decide +kernel
theorem dX8_isRow_36 : decode cX8_isRow 36 = .ok (.getfield 54, 3) := by decide +kernel
theorem dX8_isRow_39 : decode cX8_isRow 39 = .ok (.iload 4, 2) := by decide +kernel
theorem dX8_isRow_41 : decode cX8_isRow 41 = .ok (.iaload, 1) := by decide +kernel
theorem dX8_isRow_42 : decode cX8_isRow 42 = .ok (.ishl, 1) := by decide +kernel
theorem dX8_isRow_43 : decode cX8_isRow 43 = .ok (.ior, 1) := by decide +kernel
theorem dX8_isRow_44 : decode cX8_isRow 44 = .ok (.istore_n 3, 1) := by decide +kernel
theorem dX8_isRow_45 : decode cX8_isRow 45 = .ok (.iinc 4 (-1), 3) := by decide +kernel
theorem dX8_isRow_48 : decode cX8_isRow 48 = .ok (.goto (-36), 3) := by decide +kernel
theorem dX8_isRow_51 : decode cX8_isRow 51 = .ok (.iload_n 1, 1) := by decide +kernel
theorem dX8_isRow_52 : decode cX8_isRow 52 = .ok (.ifCond .lt 23, 3) := by decide +kernel
theorem dX8_isRow_55 : decode cX8_isRow 55 = .ok (.iload_n 2, 1) := by decide +kernel
theorem dX8_isRow_56 : decode cX8_isRow 56 = .ok (.ifCond .ne 19, 3) := by decide +kernel
theorem dX8_isRow_59 : decode cX8_isRow 59 = .ok (.iload_n 3, 1) := by decide +kernel
theorem dX8_isRow_60 : decode cX8_isRow 60 = .ok (.iconst 1, 1) := by decide +kernel
theorem dX8_isRow_61 : decode cX8_isRow 61 = .ok (.aload_n 0, 1) := by decide +kernel
theorem dX8_isRow_62 : decode cX8_isRow 62 = .ok (.getfield 86, 3) := by decide +kernel
theorem dX8_isRow_65 : decode cX8_isRow 65 = .ok (.ishl, 1) := by decide +kernel
theorem dX8_isRow_66 : decode cX8_isRow 66 = .ok (.iconst 1, 1) := by decide +kernel
theorem dX8_isRow_67 : decode cX8_isRow 67 = .ok (.isub, 1) := by decide +kernel
theorem dX8_isRow_68 : decode cX8_isRow 68 = .ok (.if_icmp .ne 7, 3) := by decide +kernel
theorem dX8_isRow_71 : decode cX8_isRow 71 = .ok (.iconst 1, 1) := by decide +kernel
theorem dX8_isRow_72 : decode cX8_isRow 72 = .ok (.goto 4, 3) := by decide +kernel
theorem dX8_isRow_75 : decode cX8_isRow 75 = .ok (.iconst 0, 1) := by decide +kernel
theorem dX8_isRow_76 : decode cX8_isRow 76 = .ok (.ireturn, 1) := by decide +kernel
set_option maxRecDepth 20000 in
theorem ggX8_row_X8_isRow : GoodIn wsX8_row wsX8_isRow := goodIn_r _ [9, 2, 4, 10, 11, 12, 13, 14, 15, 16, 17, 18, 19, 20, 21, 22, 23, 24, 25, 26, 27, 28, 29, 30, 31, 32, 33, 34, 35, 36, 37, 38, 39, 40, 41, 42, 43, 44, 45, 46, 47, 48, 49, 50] (by decide +kernel) (by decide +kernel)
set_option maxRecDepth 20000 in
theorem gX8_row_X8_isRow : GoodIn wsX8_row (wsV RX8 182 RX8 yX8_isRow wsX8_isRow) := goodIn_app (goodIn_of _ (by decide +kernel)) ggX8_row_X8_isRow
theorem dX8_row_0 : decode cX8_row 0 = .ok (.aload_n 0, 1) := by decide +kernel
theorem dX8_row_1 : decode cX8_row 1 = .ok (.iload_n 1, 1) := by decide +kernel
theorem dX8_row_2 : decode cX8_row 2 = .ok (.invokevirtual 182, 3) := by decide +kernel
theorem dX8_row_5 : decode cX8_row 5 = .ok (.ifCond .ne 6, 3) := by decide +kernel
theorem dX8_row_8 : decode cX8_row 8 = .ok (.ldc 105, 2) := by decide +kernel
theorem dX8_row_10 : decode cX8_row 10 = .ok (.ireturn, 1) := by decide +kernel
theorem dX8_row_11 : decode cX8_row 11 = .ok (.iconst 0, 1) := by decide +kernel
theorem dX8_row_12 : decode cX8_row 12 = .ok (.istore_n 2, 1) := by decide +kernel
theorem dX8_row_13 : decode cX8_row 13 = .ok (.iload_n 2, 1) := by decide +kernel
theorem dX8_row_14 : decode cX8_row 14 = .ok (.aload_n 0, 1) := by decide +kernel
theorem dX8_row_15 : decode cX8_row 15 = .ok (.getfield 86, 3) := by decide +kernel
theorem dX8_row_18 : decode cX8_row 18 = .ok (.if_icmp .ge 21, 3) := by decide +kernel
theorem dX8_row_21 : decode cX8_row 21 = .ok (.aload_n 0, 1) := by decide +kernel
theorem dX8_row_22 : decode cX8_row 22 = .ok (.getfield 26, 3) := by decide +kernel
theorem dX8_row_25 : decode cX8_row 25 = .ok (.iload_n 2, 1) := by decide +kernel
theorem dX8_row_26 : decode cX8_row 26 = .ok (.aload_n 0, 1) := by decide +kernel
theorem dX8_row_27 : decode cX8_row 27 = .ok (.getfield 54, 3) := by decide +kernel
theorem dX8_row_30 : decode cX8_row 30 = .ok (.iload_n 2, 1) := by decide +kernel
theorem dX8_row_31 : decode cX8_row 31 = .ok (.iaload, 1) := by decide +kernel
theorem dX8_row_32 : decode cX8_row 32 = .ok (.iastore, 1) := by decide +kernel
theorem dX8_row_33 : decode cX8_row 33 = .ok (.iinc 2 1, 3) := by decide +kernel
theorem dX8_row_36 : decode cX8_row 36 = .ok (.goto (-23), 3) := by decide +kernel
theorem dX8_row_39 : decode cX8_row 39 = .ok (.iconst 1, 1) := by decide +kernel
theorem dX8_row_40 : decode cX8_row 40 = .ok (.ireturn, 1) := by decide +kernel
set_option maxRecDepth 20000 in
theorem ggX8_passOf_X8_drawOf : GoodIn wsX8_passOf wsX8_drawOf := goodIn_r _ [8, 9, 10, 11, 12, 7, 13, 14, 15, 16, 17, 18, 1, 19, 2, 20, 21, 22, 23, 24, 25, 26, 27, 28, 29, 30, 31, 32, 33, 34, 35, 36, 37, 38, 39, 40, 41, 42, 43, 44, 45, 46, 47, 48, 49, 50, 51, 52, 53, 54, 55, 56, 57, 58, 59, 60, 61, 62, 63, 64, 65, 66, 67, 68, 69, 70, 71, 72, 73, 74, 75, 76, 77, 78, 79, 80, 81, 82, 83, 84, 85, 86, 87, 88, 89, 90, 91] (by decide +kernel) (by decide +kernel)
set_option maxRecDepth 20000 in
theorem gX8_passOf_X8_drawOf : GoodIn wsX8_passOf (wsV RX8 178 RX8 yX8_drawOf wsX8_drawOf) := goodIn_app (goodIn_of _ (by decide +kernel)) ggX8_passOf_X8_drawOf
theorem dX8_passOf_0 : decode cX8_passOf 0 = .ok (.iconst 0, 1) := by decide +kernel
theorem dX8_passOf_1 : decode cX8_passOf 1 = .ok (.istore_n 2, 1) := by decide +kernel
theorem dX8_passOf_2 : decode cX8_passOf 2 = .ok (.iconst 0, 1) := by decide +kernel
theorem dX8_passOf_3 : decode cX8_passOf 3 = .ok (.istore_n 3, 1) := by decide +kernel
theorem dX8_passOf_4 : decode cX8_passOf 4 = .ok (.iload_n 3, 1) := by decide +kernel
theorem dX8_passOf_5 : decode cX8_passOf 5 = .ok (.aload_n 0, 1) := by decide +kernel
theorem dX8_passOf_6 : decode cX8_passOf 6 = .ok (.getfield 86, 3) := by decide +kernel
theorem dX8_passOf_9 : decode cX8_passOf 9 = .ok (.if_icmp .ge 48, 3) := by decide +kernel
theorem dX8_passOf_12 : decode cX8_passOf 12 = .ok (.aload_n 0, 1) := by decide +kernel
theorem dX8_passOf_13 : decode cX8_passOf 13 = .ok (.getfield 22, 3) := by decide +kernel
theorem dX8_passOf_16 : decode cX8_passOf 16 = .ok (.aload_n 0, 1) := by decide +kernel
theorem dX8_passOf_17 : decode cX8_passOf 17 = .ok (.getfield 26, 3) := by decide +kernel
theorem dX8_passOf_20 : decode cX8_passOf 20 = .ok (.iload_n 3, 1) := by decide +kernel
theorem dX8_passOf_21 : decode cX8_passOf 21 = .ok (.iaload, 1) := by decide +kernel
theorem dX8_passOf_22 : decode cX8_passOf 22 = .ok (.baload, 1) := by decide +kernel
theorem dX8_passOf_23 : decode cX8_passOf 23 = .ok (.ifCond .ne 28, 3) := by decide +kernel
theorem dX8_passOf_26 : decode cX8_passOf 26 = .ok (.aload_n 0, 1) := by decide +kernel
theorem dX8_passOf_27 : decode cX8_passOf 27 = .ok (.aload_n 0, 1) := by decide +kernel
theorem dX8_passOf_28 : decode cX8_passOf 28 = .ok (.getfield 26, 3) := by decide +kernel
theorem dX8_passOf_31 : decode cX8_passOf 31 = .ok (.iload_n 3, 1) := by decide +kernel
theorem dX8_passOf_32 : decode cX8_passOf 32 = .ok (.iaload, 1) := by decide +kernel
theorem dX8_passOf_33 : decode cX8_passOf 33 = .ok (.iload_n 1, 1) := by decide +kernel
theorem dX8_passOf_34 : decode cX8_passOf 34 = .ok (.invokevirtual 178, 3) := by decide +kernel
theorem dX8_passOf_37 : decode cX8_passOf 37 = .ok (.istore 4, 2) := by decide +kernel
theorem dX8_passOf_39 : decode cX8_passOf 39 = .ok (.iload 4, 2) := by decide +kernel
theorem dX8_passOf_41 : decode cX8_passOf 41 = .ok (.ifCond .ge 5, 3) := by decide +kernel
theorem dX8_passOf_44 : decode cX8_passOf 44 = .ok (.iconst (-1), 1) := by decide +kernel
theorem dX8_passOf_45 : decode cX8_passOf 45 = .ok (.ireturn, 1) := by decide +kernel
theorem dX8_passOf_46 : decode cX8_passOf 46 = .ok (.iload_n 2, 1) := by decide +kernel
theorem dX8_passOf_47 : decode cX8_passOf 47 = .ok (.iload 4, 2) := by decide +kernel
theorem dX8_passOf_49 : decode cX8_passOf 49 = .ok (.iadd, 1) := by decide +kernel
theorem dX8_passOf_50 : decode cX8_passOf 50 = .ok (.istore_n 2, 1) := by decide +kernel
theorem dX8_passOf_51 : decode cX8_passOf 51 = .ok (.iinc 3 1, 3) := by decide +kernel
theorem dX8_passOf_54 : decode cX8_passOf 54 = .ok (.goto (-50), 3) := by decide +kernel
theorem dX8_passOf_57 : decode cX8_passOf 57 = .ok (.iload_n 2, 1) := by decide +kernel
theorem dX8_passOf_58 : decode cX8_passOf 58 = .ok (.ireturn, 1) := by decide +kernel
set_option maxRecDepth 20000 in
theorem ggX8_pass_X8_isAim : GoodIn wsX8_pass wsX8_isAim := goodIn_r _ [6, 7, 8, 9, 5, 10] (by decide +kernel) (by decide +kernel)
set_option maxRecDepth 20000 in
theorem gX8_pass_X8_isAim : GoodIn wsX8_pass (va_wsS RX8 175 yX8_isAim wsX8_isAim) := goodIn_app (goodIn_of _ (by decide +kernel)) ggX8_pass_X8_isAim
set_option maxRecDepth 20000 in
theorem ggX8_pass_X8_passOf : GoodIn wsX8_pass wsX8_passOf := goodIn_r _ [14, 15, 16, 17, 18, 19, 20, 5, 21, 22, 23, 24, 25, 26, 27, 28, 29, 30, 31, 32, 33, 34, 35, 36, 37, 38, 39, 40, 41, 42, 43, 44, 45, 46, 47, 48, 49, 50, 51, 52, 53, 54, 55, 56, 57, 58, 59, 60, 61, 62, 63, 64, 65, 66, 67, 68, 69, 70, 71, 72, 73, 74, 75, 76, 77, 78, 79, 80, 81, 82, 83, 84, 85, 86, 87, 88, 89, 90, 91, 92, 93, 94, 95, 96, 97, 98, 99, 100, 101, 102, 103, 104] (by decide +kernel) (by decide +kernel)
set_option maxRecDepth 20000 in
theorem gX8_pass_X8_passOf : GoodIn wsX8_pass (wsV RX8 185 RX8 yX8_passOf wsX8_passOf) := goodIn_app (goodIn_of _ (by decide +kernel)) ggX8_pass_X8_passOf
theorem dX8_pass_0 : decode cX8_pass 0 = .ok (.iload_n 1, 1) := by decide +kernel
theorem dX8_pass_1 : decode cX8_pass 1 = .ok (.invokestatic 175, 3) := by decide +kernel
theorem dX8_pass_4 : decode cX8_pass 4 = .ok (.ifCond .ne 6, 3) := by decide +kernel
theorem dX8_pass_7 : decode cX8_pass 7 = .ok (.ldc 105, 2) := by decide +kernel
theorem dX8_pass_9 : decode cX8_pass 9 = .ok (.ireturn, 1) := by decide +kernel
theorem dX8_pass_10 : decode cX8_pass 10 = .ok (.aload_n 0, 1) := by decide +kernel
theorem dX8_pass_11 : decode cX8_pass 11 = .ok (.iload_n 1, 1) := by decide +kernel
theorem dX8_pass_12 : decode cX8_pass 12 = .ok (.invokevirtual 185, 3) := by decide +kernel
theorem dX8_pass_15 : decode cX8_pass 15 = .ok (.istore_n 2, 1) := by decide +kernel
theorem dX8_pass_16 : decode cX8_pass 16 = .ok (.iload_n 2, 1) := by decide +kernel
theorem dX8_pass_17 : decode cX8_pass 17 = .ok (.ifCond .ge 8, 3) := by decide +kernel
theorem dX8_pass_20 : decode cX8_pass 20 = .ok (.ldc 121, 2) := by decide +kernel
theorem dX8_pass_22 : decode cX8_pass 22 = .ok (.goto 4, 3) := by decide +kernel
theorem dX8_pass_25 : decode cX8_pass 25 = .ok (.iload_n 2, 1) := by decide +kernel
theorem dX8_pass_26 : decode cX8_pass 26 = .ok (.ireturn, 1) := by decide +kernel
set_option maxRecDepth 20000 in
theorem ggX8_allHave_X8_findLifts : GoodIn wsX8_allHave wsX8_findLifts := goodIn_r _ [8, 1, 9, 2, 10, 11, 12, 7, 13, 14, 15, 16, 17, 18, 19, 20, 21, 22, 23, 24, 3, 25, 26, 27, 28, 29, 30, 31, 32, 33, 34, 35, 36, 37, 42, 43, 44, 45, 46, 47, 48, 49, 50, 51, 52, 53, 54, 55, 56, 57, 58, 59, 60, 61, 62, 63, 64, 65, 66, 67, 68, 69, 70, 71, 72, 73, 74, 75, 76, 77, 78, 79, 80, 81, 82] (by decide +kernel) (by decide +kernel)
set_option maxRecDepth 20000 in
theorem gX8_allHave_X8_findLifts : GoodIn wsX8_allHave (wsV RX8 145 RX8 yX8_findLifts wsX8_findLifts) := goodIn_app (goodIn_of _ (by decide +kernel)) ggX8_allHave_X8_findLifts
set_option maxRecDepth 20000 in
theorem ggX8_allHave_X8_pull : GoodIn wsX8_allHave wsX8_pull := goodIn_r _ [41, 19, 3, 25, 2, 17, 42, 43, 44, 45, 46, 47, 48, 49, 50, 51, 52, 53, 54, 55, 56, 57, 58, 59, 60, 61, 62, 63, 64, 65, 66, 67, 68, 69, 70, 71, 72, 73, 74, 75, 76, 77, 78, 79, 80, 81, 82] (by decide +kernel) (by decide +kernel)
set_option maxRecDepth 20000 in
theorem gX8_allHave_X8_pull : GoodIn wsX8_allHave (wsV RX8 148 RX8 yX8_pull wsX8_pull) := goodIn_app (goodIn_of _ (by decide +kernel)) ggX8_allHave_X8_pull
theorem dX8_allHave_0 : decode cX8_allHave 0 = .ok (.aload_n 0, 1) := by decide +kernel
theorem dX8_allHave_1 : decode cX8_allHave 1 = .ok (.invokevirtual 145, 3) := by decide +kernel
theorem dX8_allHave_4 : decode cX8_allHave 4 = .ok (.iconst 1, 1) := by decide +kernel
theorem dX8_allHave_5 : decode cX8_allHave 5 = .ok (.istore_n 2, 1) := by decide +kernel
theorem dX8_allHave_6 : decode cX8_allHave 6 = .ok (.iconst 0, 1) := by decide +kernel
theorem dX8_allHave_7 : decode cX8_allHave 7 = .ok (.istore_n 3, 1) := by decide +kernel
theorem dX8_allHave_8 : decode cX8_allHave 8 = .ok (.iload_n 3, 1) := by decide +kernel
theorem dX8_allHave_9 : decode cX8_allHave 9 = .ok (.aload_n 0, 1) := by decide +kernel
theorem dX8_allHave_10 : decode cX8_allHave 10 = .ok (.getfield 86, 3) := by decide +kernel
theorem dX8_allHave_13 : decode cX8_allHave 13 = .ok (.if_icmp .ge 44, 3) := by decide +kernel
theorem dX8_allHave_16 : decode cX8_allHave 16 = .ok (.iload_n 2, 1) := by decide +kernel
theorem dX8_allHave_17 : decode cX8_allHave 17 = .ok (.ifCond .eq 32, 3) := by decide +kernel
theorem dX8_allHave_20 : decode cX8_allHave 20 = .ok (.aload_n 0, 1) := by decide +kernel
theorem dX8_allHave_21 : decode cX8_allHave 21 = .ok (.getfield 22, 3) := by decide +kernel
theorem dX8_allHave_24 : decode cX8_allHave 24 = .ok (.iload_n 3, 1) := by decide +kernel
theorem dX8_allHave_25 : decode cX8_allHave 25 = .ok (.baload, 1) := by decide +kernel
theorem dX8_allHave_26 : decode cX8_allHave 26 = .ok (.ifCond .ne 19, 3) := by decide +kernel
theorem dX8_allHave_29 : decode cX8_allHave 29 = .ok (.aload_n 0, 1) := by decide +kernel
theorem dX8_allHave_30 : decode cX8_allHave 30 = .ok (.iload_n 3, 1) := by decide +kernel
theorem dX8_allHave_31 : decode cX8_allHave 31 = .ok (.invokevirtual 148, 3) := by decide +kernel
theorem dX8_allHave_34 : decode cX8_allHave 34 = .ok (.iload_n 1, 1) := by decide +kernel
theorem dX8_allHave_35 : decode cX8_allHave 35 = .ok (.i2l, 1) := by decide +kernel
theorem dX8_allHave_36 : decode cX8_allHave 36 = .ok (.aload_n 0, 1) := by decide +kernel
theorem dX8_allHave_37 : decode cX8_allHave 37 = .ok (.getfield 124, 3) := by decide +kernel
theorem dX8_allHave_40 : decode cX8_allHave 40 = .ok (.lmul, 1) := by decide +kernel
theorem dX8_allHave_41 : decode cX8_allHave 41 = .ok (.lcmp, 1) := by decide +kernel
theorem dX8_allHave_42 : decode cX8_allHave 42 = .ok (.ifCond .lt 7, 3) := by decide +kernel
theorem dX8_allHave_45 : decode cX8_allHave 45 = .ok (.iconst 1, 1) := by decide +kernel
theorem dX8_allHave_46 : decode cX8_allHave 46 = .ok (.goto 4, 3) := by decide +kernel
theorem dX8_allHave_49 : decode cX8_allHave 49 = .ok (.iconst 0, 1) := by decide +kernel
theorem dX8_allHave_50 : decode cX8_allHave 50 = .ok (.istore_n 2, 1) := by decide +kernel
theorem dX8_allHave_51 : decode cX8_allHave 51 = .ok (.iinc 3 1, 3) := by decide +kernel
theorem dX8_allHave_54 : decode cX8_allHave 54 = .ok (.goto (-46), 3) := by decide +kernel
theorem dX8_allHave_57 : decode cX8_allHave 57 = .ok (.iload_n 2, 1) := by decide +kernel
theorem dX8_allHave_58 : decode cX8_allHave 58 = .ok (.ireturn, 1) := by decide +kernel
theorem dX8_keep_0 : decode cX8_keep 0 = .ok (.iconst 0, 1) := by decide +kernel
theorem dX8_keep_1 : decode cX8_keep 1 = .ok (.istore_n 1, 1) := by decide +kernel
theorem dX8_keep_2 : decode cX8_keep 2 = .ok (.iload_n 1, 1) := by decide +kernel
theorem dX8_keep_3 : decode cX8_keep 3 = .ok (.aload_n 0, 1) := by decide +kernel
theorem dX8_keep_4 : decode cX8_keep 4 = .ok (.getfield 86, 3) := by decide +kernel
theorem dX8_keep_7 : decode cX8_keep 7 = .ok (.if_icmp .ge 21, 3) := by decide +kernel
theorem dX8_keep_10 : decode cX8_keep 10 = .ok (.aload_n 0, 1) := by decide +kernel
theorem dX8_keep_11 : decode cX8_keep 11 = .ok (.getfield 57, 3) := by decide +kernel
theorem dX8_keep_14 : decode cX8_keep 14 = .ok (.iload_n 1, 1) := by decide +kernel
theorem dX8_keep_15 : decode cX8_keep 15 = .ok (.aload_n 0, 1) := by decide +kernel
theorem dX8_keep_16 : decode cX8_keep 16 = .ok (.getfield 16, 3) := by decide +kernel
theorem dX8_keep_19 : decode cX8_keep 19 = .ok (.iload_n 1, 1) := by decide +kernel
theorem dX8_keep_20 : decode cX8_keep 20 = .ok (.iaload, 1) := by decide +kernel
theorem dX8_keep_21 : decode cX8_keep 21 = .ok (.iastore, 1) := by decide +kernel
theorem dX8_keep_22 : decode cX8_keep 22 = .ok (.iinc 1 1, 3) := by decide +kernel
theorem dX8_keep_25 : decode cX8_keep 25 = .ok (.goto (-23), 3) := by decide +kernel
theorem dX8_keep_28 : decode cX8_keep 28 = .ok (.return_, 1) := by decide +kernel
theorem dX8_back_0 : decode cX8_back 0 = .ok (.iconst 0, 1) := by decide +kernel
theorem dX8_back_1 : decode cX8_back 1 = .ok (.istore_n 1, 1) := by decide +kernel
theorem dX8_back_2 : decode cX8_back 2 = .ok (.iload_n 1, 1) := by decide +kernel
theorem dX8_back_3 : decode cX8_back 3 = .ok (.aload_n 0, 1) := by decide +kernel
theorem dX8_back_4 : decode cX8_back 4 = .ok (.getfield 86, 3) := by decide +kernel
theorem dX8_back_7 : decode cX8_back 7 = .ok (.if_icmp .ge 21, 3) := by decide +kernel
theorem dX8_back_10 : decode cX8_back 10 = .ok (.aload_n 0, 1) := by decide +kernel
theorem dX8_back_11 : decode cX8_back 11 = .ok (.getfield 16, 3) := by decide +kernel
theorem dX8_back_14 : decode cX8_back 14 = .ok (.iload_n 1, 1) := by decide +kernel
theorem dX8_back_15 : decode cX8_back 15 = .ok (.aload_n 0, 1) := by decide +kernel
theorem dX8_back_16 : decode cX8_back 16 = .ok (.getfield 57, 3) := by decide +kernel
theorem dX8_back_19 : decode cX8_back 19 = .ok (.iload_n 1, 1) := by decide +kernel
theorem dX8_back_20 : decode cX8_back 20 = .ok (.iaload, 1) := by decide +kernel
theorem dX8_back_21 : decode cX8_back 21 = .ok (.iastore, 1) := by decide +kernel
theorem dX8_back_22 : decode cX8_back 22 = .ok (.iinc 1 1, 3) := by decide +kernel
theorem dX8_back_25 : decode cX8_back 25 = .ok (.goto (-23), 3) := by decide +kernel
theorem dX8_back_28 : decode cX8_back 28 = .ok (.return_, 1) := by decide +kernel
set_option maxRecDepth 20000 in
theorem ggX8_passesOf_X8_allHave : GoodIn wsX8_passesOf wsX8_allHave := goodIn_r _ [6, 7, 8, 9, 10, 11, 12, 5, 13, 14, 15, 16, 17, 18, 19, 20, 21, 22, 23, 24, 25, 26, 27, 28, 29, 30, 31, 32, 33, 34, 35, 36, 37, 38, 39, 40, 41, 42, 43, 44, 45, 46, 60, 61, 62, 63, 64, 65, 66, 67, 68, 69, 70, 71, 72, 73, 74, 75, 76, 77, 78, 79, 80, 81, 82, 83, 84, 85, 86, 87, 88, 89, 90, 91, 92, 93, 94, 95, 96, 97, 98, 99, 100] (by decide +kernel) (by decide +kernel)
set_option maxRecDepth 20000 in
theorem gX8_passesOf_X8_allHave : GoodIn wsX8_passesOf (wsV RX8 191 RX8 yX8_allHave wsX8_allHave) := goodIn_app (goodIn_of _ (by decide +kernel)) ggX8_passesOf_X8_allHave
set_option maxRecDepth 20000 in
theorem ggX8_passesOf_X8_passOf : GoodIn wsX8_passesOf wsX8_passOf := goodIn_r _ [50, 7, 8, 51, 52, 53, 54, 5, 55, 24, 56, 57, 58, 59, 9, 10, 11, 12, 13, 14, 15, 16, 17, 18, 19, 20, 21, 22, 23, 25, 26, 27, 28, 29, 30, 31, 32, 33, 34, 35, 36, 37, 38, 39, 40, 41, 42, 43, 44, 45, 46, 60, 61, 62, 63, 64, 65, 66, 67, 68, 69, 70, 71, 72, 73, 74, 75, 76, 77, 78, 79, 80, 81, 82, 83, 84, 85, 86, 87, 88, 89, 90, 91, 92, 93, 94, 95, 96, 97, 98, 99, 100] (by decide +kernel) (by decide +kernel)
set_option maxRecDepth 20000 in
theorem gX8_passesOf_X8_passOf : GoodIn wsX8_passesOf (wsV RX8 185 RX8 yX8_passOf wsX8_passOf) := goodIn_app (goodIn_of _ (by decide +kernel)) ggX8_passesOf_X8_passOf
theorem dX8_passesOf_0 : decode cX8_passesOf 0 = .ok (.aload_n 0, 1) := by decide +kernel
theorem dX8_passesOf_1 : decode cX8_passesOf 1 = .ok (.iconst 0, 1) := by decide +kernel
theorem dX8_passesOf_2 : decode cX8_passesOf 2 = .ok (.putfield 188, 3) := by decide +kernel
theorem dX8_passesOf_5 : decode cX8_passesOf 5 = .ok (.iconst 0, 1) := by decide +kernel
theorem dX8_passesOf_6 : decode cX8_passesOf 6 = .ok (.istore_n 2, 1) := by decide +kernel
theorem dX8_passesOf_7 : decode cX8_passesOf 7 = .ok (.iload_n 2, 1) := by decide +kernel
theorem dX8_passesOf_8 : decode cX8_passesOf 8 = .ok (.bipush 20, 2) := by decide +kernel
theorem dX8_passesOf_10 : decode cX8_passesOf 10 = .ok (.if_icmp .gt 51, 3) := by decide +kernel
theorem dX8_passesOf_13 : decode cX8_passesOf 13 = .ok (.aload_n 0, 1) := by decide +kernel
theorem dX8_passesOf_14 : decode cX8_passesOf 14 = .ok (.iload_n 1, 1) := by decide +kernel
theorem dX8_passesOf_15 : decode cX8_passesOf 15 = .ok (.invokevirtual 191, 3) := by decide +kernel
theorem dX8_passesOf_18 : decode cX8_passesOf 18 = .ok (.ifCond .eq 5, 3) := by decide +kernel
theorem dX8_passesOf_21 : decode cX8_passesOf 21 = .ok (.iload_n 2, 1) := by decide +kernel
theorem dX8_passesOf_22 : decode cX8_passesOf 22 = .ok (.ireturn, 1) := by decide +kernel
theorem dX8_passesOf_23 : decode cX8_passesOf 23 = .ok (.iload_n 2, 1) := by decide +kernel
theorem dX8_passesOf_24 : decode cX8_passesOf 24 = .ok (.bipush 20, 2) := by decide +kernel
theorem dX8_passesOf_26 : decode cX8_passesOf 26 = .ok (.if_icmp .ge 11, 3) := by decide +kernel
theorem dX8_passesOf_29 : decode cX8_passesOf 29 = .ok (.aload_n 0, 1) := by decide +kernel
theorem dX8_passesOf_30 : decode cX8_passesOf 30 = .ok (.iload_n 1, 1) := by decide +kernel
theorem dX8_passesOf_31 : decode cX8_passesOf 31 = .ok (.invokevirtual 185, 3) := by decide +kernel
theorem dX8_passesOf_34 : decode cX8_passesOf 34 = .ok (.goto 4, 3) := by decide +kernel
theorem dX8_passesOf_37 : decode cX8_passesOf 37 = .ok (.iconst (-1), 1) := by decide +kernel
theorem dX8_passesOf_38 : decode cX8_passesOf 38 = .ok (.istore_n 3, 1) := by decide +kernel
theorem dX8_passesOf_39 : decode cX8_passesOf 39 = .ok (.iload_n 3, 1) := by decide +kernel
theorem dX8_passesOf_40 : decode cX8_passesOf 40 = .ok (.ifCond .ge 5, 3) := by decide +kernel
theorem dX8_passesOf_43 : decode cX8_passesOf 43 = .ok (.iconst (-1), 1) := by decide +kernel
theorem dX8_passesOf_44 : decode cX8_passesOf 44 = .ok (.ireturn, 1) := by decide +kernel
theorem dX8_passesOf_45 : decode cX8_passesOf 45 = .ok (.aload_n 0, 1) := by decide +kernel
theorem dX8_passesOf_46 : decode cX8_passesOf 46 = .ok (.dup, 1) := by decide +kernel
theorem dX8_passesOf_47 : decode cX8_passesOf 47 = .ok (.getfield 188, 3) := by decide +kernel
theorem dX8_passesOf_50 : decode cX8_passesOf 50 = .ok (.iload_n 3, 1) := by decide +kernel
theorem dX8_passesOf_51 : decode cX8_passesOf 51 = .ok (.iadd, 1) := by decide +kernel
theorem dX8_passesOf_52 : decode cX8_passesOf 52 = .ok (.putfield 188, 3) := by decide +kernel
theorem dX8_passesOf_55 : decode cX8_passesOf 55 = .ok (.iinc 2 1, 3) := by decide +kernel
theorem dX8_passesOf_58 : decode cX8_passesOf 58 = .ok (.goto (-51), 3) := by decide +kernel
theorem dX8_passesOf_61 : decode cX8_passesOf 61 = .ok (.iconst (-1), 1) := by decide +kernel
theorem dX8_passesOf_62 : decode cX8_passesOf 62 = .ok (.ireturn, 1) := by decide +kernel
set_option maxRecDepth 20000 in
theorem ggX8_passes_X8_isAim : GoodIn wsX8_passes wsX8_isAim := goodIn_r _ [6, 7, 8, 9, 5, 10] (by decide +kernel) (by decide +kernel)
set_option maxRecDepth 20000 in
theorem gX8_passes_X8_isAim : GoodIn wsX8_passes (va_wsS RX8 175 yX8_isAim wsX8_isAim) := goodIn_app (goodIn_of _ (by decide +kernel)) ggX8_passes_X8_isAim
set_option maxRecDepth 20000 in
theorem ggX8_passes_X8_keep : GoodIn wsX8_passes wsX8_keep := goodIn_r _ [14, 15, 16, 17, 82, 83, 84, 85, 86, 87, 88, 89, 90, 91, 92, 93, 94, 95, 96, 97, 98, 99, 100, 101, 102, 103, 104, 105, 106, 107, 108, 109, 110, 111, 112, 113, 114, 115, 116, 117, 118, 119, 120, 121, 122] (by decide +kernel) (by decide +kernel)
set_option maxRecDepth 20000 in
theorem gX8_passes_X8_keep : GoodIn wsX8_passes (wsV RX8 194 RX8 yX8_keep wsX8_keep) := goodIn_app (goodIn_of _ (by decide +kernel)) ggX8_passes_X8_keep
set_option maxRecDepth 20000 in
theorem ggX8_passes_X8_passesOf : GoodIn wsX8_passes wsX8_passesOf := goodIn_r _ [21, 22, 23, 24, 25, 5, 26, 15, 27, 28, 29, 30, 31, 32, 33, 34, 35, 36, 37, 38, 39, 40, 41, 42, 17, 43, 44, 45, 46, 47, 48, 49, 50, 51, 52, 53, 54, 55, 56, 57, 58, 59, 60, 61, 62, 63, 64, 65, 66, 67, 68, 69, 70, 71, 72, 73, 74, 75, 76, 77, 82, 83, 84, 85, 86, 87, 88, 89, 90, 91, 92, 93, 94, 95, 96, 97, 98, 99, 100, 101, 102, 103, 104, 105, 106, 107, 108, 109, 110, 111, 112, 113, 114, 115, 116, 117, 118, 119, 120, 121, 122] (by decide +kernel) (by decide +kernel)
set_option maxRecDepth 20000 in
theorem gX8_passes_X8_passesOf : GoodIn wsX8_passes (wsV RX8 197 RX8 yX8_passesOf wsX8_passesOf) := goodIn_app (goodIn_of _ (by decide +kernel)) ggX8_passes_X8_passesOf
set_option maxRecDepth 20000 in
theorem ggX8_passes_X8_back : GoodIn wsX8_passes wsX8_back := goodIn_r _ [81, 15, 17, 16, 82, 83, 84, 85, 86, 87, 88, 89, 90, 91, 92, 93, 94, 95, 96, 97, 98, 99, 100, 101, 102, 103, 104, 105, 106, 107, 108, 109, 110, 111, 112, 113, 114, 115, 116, 117, 118, 119, 120, 121, 122] (by decide +kernel) (by decide +kernel)
set_option maxRecDepth 20000 in
theorem gX8_passes_X8_back : GoodIn wsX8_passes (wsV RX8 200 RX8 yX8_back wsX8_back) := goodIn_app (goodIn_of _ (by decide +kernel)) ggX8_passes_X8_back
theorem dX8_passes_0 : decode cX8_passes 0 = .ok (.iload_n 1, 1) := by decide +kernel
theorem dX8_passes_1 : decode cX8_passes 1 = .ok (.invokestatic 175, 3) := by decide +kernel
theorem dX8_passes_4 : decode cX8_passes 4 = .ok (.ifCond .ne 6, 3) := by decide +kernel
theorem dX8_passes_7 : decode cX8_passes 7 = .ok (.ldc 105, 2) := by decide +kernel
theorem dX8_passes_9 : decode cX8_passes 9 = .ok (.ireturn, 1) := by decide +kernel
theorem dX8_passes_10 : decode cX8_passes 10 = .ok (.aload_n 0, 1) := by decide +kernel
theorem dX8_passes_11 : decode cX8_passes 11 = .ok (.invokevirtual 194, 3) := by decide +kernel
theorem dX8_passes_14 : decode cX8_passes 14 = .ok (.aload_n 0, 1) := by decide +kernel
theorem dX8_passes_15 : decode cX8_passes 15 = .ok (.iload_n 1, 1) := by decide +kernel
theorem dX8_passes_16 : decode cX8_passes 16 = .ok (.invokevirtual 197, 3) := by decide +kernel
theorem dX8_passes_19 : decode cX8_passes 19 = .ok (.istore_n 2, 1) := by decide +kernel
theorem dX8_passes_20 : decode cX8_passes 20 = .ok (.iload_n 2, 1) := by decide +kernel
theorem dX8_passes_21 : decode cX8_passes 21 = .ok (.ifCond .ge 10, 3) := by decide +kernel
theorem dX8_passes_24 : decode cX8_passes 24 = .ok (.aload_n 0, 1) := by decide +kernel
theorem dX8_passes_25 : decode cX8_passes 25 = .ok (.invokevirtual 200, 3) := by decide +kernel
theorem dX8_passes_28 : decode cX8_passes 28 = .ok (.ldc 121, 2) := by decide +kernel
theorem dX8_passes_30 : decode cX8_passes 30 = .ok (.ireturn, 1) := by decide +kernel
theorem dX8_passes_31 : decode cX8_passes 31 = .ok (.iload_n 2, 1) := by decide +kernel
theorem dX8_passes_32 : decode cX8_passes 32 = .ok (.ireturn, 1) := by decide +kernel
set_option maxRecDepth 20000 in
theorem ggX8_findBest_X8_keep : GoodIn wsX8_findBest wsX8_keep := goodIn_r _ [13, 2, 14, 15, 82, 83, 84, 85, 86, 87, 88, 89, 90, 91, 92, 93, 94, 95, 96, 97, 98, 99, 100, 101, 102, 103, 104, 105, 106, 107, 108, 109, 110, 111, 112, 113, 114, 115, 116, 117, 118, 119, 120, 121, 122] (by decide +kernel) (by decide +kernel)
set_option maxRecDepth 20000 in
theorem gX8_findBest_X8_keep : GoodIn wsX8_findBest (wsV RX8 194 RX8 yX8_keep wsX8_keep) := goodIn_app (goodIn_of _ (by decide +kernel)) ggX8_findBest_X8_keep
set_option maxRecDepth 20000 in
theorem ggX8_findBest_X8_isRow : GoodIn wsX8_findBest wsX8_isRow := goodIn_r _ [19, 2, 5, 82, 83, 84, 85, 86, 87, 88, 89, 90, 91, 92, 93, 94, 95, 96, 97, 98, 99, 100, 101, 102, 103, 104, 105, 106, 107, 108, 109, 110, 111, 112, 113, 114, 115, 116, 117, 118, 119, 120, 121, 122] (by decide +kernel) (by decide +kernel)
set_option maxRecDepth 20000 in
theorem gX8_findBest_X8_isRow : GoodIn wsX8_findBest (wsV RX8 182 RX8 yX8_isRow wsX8_isRow) := goodIn_app (goodIn_of _ (by decide +kernel)) ggX8_findBest_X8_isRow
set_option maxRecDepth 20000 in
theorem ggX8_findBest_X8_passesOf : GoodIn wsX8_findBest wsX8_passesOf := goodIn_r _ [23, 7, 24, 25, 26, 12, 27, 2, 28, 29, 30, 31, 32, 33, 34, 35, 36, 37, 38, 39, 40, 41, 42, 43, 15, 44, 45, 46, 47, 48, 49, 50, 51, 52, 53, 54, 55, 56, 57, 58, 59, 60, 61, 62, 63, 64, 65, 66, 67, 68, 69, 4, 70, 71, 72, 73, 74, 75, 76, 77, 82, 83, 84, 85, 86, 87, 88, 89, 90, 91, 92, 93, 94, 95, 96, 97, 98, 99, 100, 101, 102, 103, 104, 105, 106, 107, 108, 109, 110, 111, 112, 113, 114, 115, 116, 117, 118, 119, 120, 121, 122] (by decide +kernel) (by decide +kernel)
set_option maxRecDepth 20000 in
theorem gX8_findBest_X8_passesOf : GoodIn wsX8_findBest (wsV RX8 197 RX8 yX8_passesOf wsX8_passesOf) := goodIn_app (goodIn_of _ (by decide +kernel)) ggX8_findBest_X8_passesOf
set_option maxRecDepth 20000 in
theorem ggX8_findBest_X8_back : GoodIn wsX8_findBest wsX8_back := goodIn_r _ [81, 2, 15, 14, 82, 83, 84, 85, 86, 87, 88, 89, 90, 91, 92, 93, 94, 95, 96, 97, 98, 99, 100, 101, 102, 103, 104, 105, 106, 107, 108, 109, 110, 111, 112, 113, 114, 115, 116, 117, 118, 119, 120, 121, 122] (by decide +kernel) (by decide +kernel)
set_option maxRecDepth 20000 in
theorem gX8_findBest_X8_back : GoodIn wsX8_findBest (wsV RX8 200 RX8 yX8_back wsX8_back) := goodIn_app (goodIn_of _ (by decide +kernel)) ggX8_findBest_X8_back
theorem dX8_findBest_0 : decode cX8_findBest 0 = .ok (.aload_n 0, 1) := by decide +kernel
theorem dX8_findBest_1 : decode cX8_findBest 1 = .ok (.iconst (-1), 1) := by decide +kernel
theorem dX8_findBest_2 : decode cX8_findBest 2 = .ok (.putfield 203, 3) := by decide +kernel
theorem dX8_findBest_5 : decode cX8_findBest 5 = .ok (.aload_n 0, 1) := by decide +kernel
theorem dX8_findBest_6 : decode cX8_findBest 6 = .ok (.invokevirtual 194, 3) := by decide +kernel
theorem dX8_findBest_9 : decode cX8_findBest 9 = .ok (.iconst 0, 1) := by decide +kernel
theorem dX8_findBest_10 : decode cX8_findBest 10 = .ok (.istore_n 2, 1) := by decide +kernel
theorem dX8_findBest_11 : decode cX8_findBest 11 = .ok (.iload_n 2, 1) := by decide +kernel
theorem dX8_findBest_12 : decode cX8_findBest 12 = .ok (.aload_n 0, 1) := by decide +kernel
theorem dX8_findBest_13 : decode cX8_findBest 13 = .ok (.getfield 86, 3) := by decide +kernel
theorem dX8_findBest_16 : decode cX8_findBest 16 = .ok (.if_icmp .ge 21, 3) := by decide +kernel
theorem dX8_findBest_19 : decode cX8_findBest 19 = .ok (.aload_n 0, 1) := by decide +kernel
theorem dX8_findBest_20 : decode cX8_findBest 20 = .ok (.getfield 60, 3) := by decide +kernel
theorem dX8_findBest_23 : decode cX8_findBest 23 = .ok (.iload_n 2, 1) := by decide +kernel
theorem dX8_findBest_24 : decode cX8_findBest 24 = .ok (.aload_n 0, 1) := by decide +kernel
theorem dX8_findBest_25 : decode cX8_findBest 25 = .ok (.getfield 26, 3) := by decide +kernel
theorem dX8_findBest_28 : decode cX8_findBest 28 = .ok (.iload_n 2, 1) := by decide +kernel
theorem dX8_findBest_29 : decode cX8_findBest 29 = .ok (.iaload, 1) := by decide +kernel
theorem dX8_findBest_30 : decode cX8_findBest 30 = .ok (.iastore, 1) := by decide +kernel
theorem dX8_findBest_31 : decode cX8_findBest 31 = .ok (.iinc 2 1, 3) := by decide +kernel
theorem dX8_findBest_34 : decode cX8_findBest 34 = .ok (.goto (-23), 3) := by decide +kernel
theorem dX8_findBest_37 : decode cX8_findBest 37 = .ok (.iconst 1, 1) := by decide +kernel
theorem dX8_findBest_38 : decode cX8_findBest 38 = .ok (.istore_n 2, 1) := by decide +kernel
theorem dX8_findBest_39 : decode cX8_findBest 39 = .ok (.iconst 0, 1) := by decide +kernel
theorem dX8_findBest_40 : decode cX8_findBest 40 = .ok (.istore_n 3, 1) := by decide +kernel
theorem dX8_findBest_41 : decode cX8_findBest 41 = .ok (.iload_n 3, 1) := by decide +kernel
theorem dX8_findBest_42 : decode cX8_findBest 42 = .ok (.aload_n 0, 1) := by decide +kernel
theorem dX8_findBest_43 : decode cX8_findBest 43 = .ok (.getfield 86, 3) := by decide +kernel
theorem dX8_findBest_46 : decode cX8_findBest 46 = .ok (.if_icmp .ge 14, 3) := by decide +kernel
theorem dX8_findBest_49 : decode cX8_findBest 49 = .ok (.iload_n 2, 1) := by decide +kernel
theorem dX8_findBest_50 : decode cX8_findBest 50 = .ok (.bipush 10, 2) := by decide +kernel
theorem dX8_findBest_52 : decode cX8_findBest 52 = .ok (.imul, 1) := by decide +kernel
theorem dX8_findBest_53 : decode cX8_findBest 53 = .ok (.istore_n 2, 1) := by decide +kernel
theorem dX8_findBest_54 : decode cX8_findBest 54 = .ok (.iinc 3 1, 3) := by decide +kernel
theorem dX8_findBest_57 : decode cX8_findBest 57 = .ok (.goto (-16), 3) := by decide +kernel
theorem dX8_findBest_60 : decode cX8_findBest 60 = .ok (.iconst 0, 1) := by decide +kernel
theorem dX8_findBest_61 : decode cX8_findBest 61 = .ok (.istore_n 3, 1) := by decide +kernel
theorem dX8_findBest_62 : decode cX8_findBest 62 = .ok (.iload_n 3, 1) := by decide +kernel
theorem dX8_findBest_63 : decode cX8_findBest 63 = .ok (.iload_n 2, 1) := by decide +kernel
theorem dX8_findBest_64 : decode cX8_findBest 64 = .ok (.if_icmp .ge 120, 3) := by decide +kernel
theorem dX8_findBest_67 : decode cX8_findBest 67 = .ok (.aload_n 0, 1) := by decide +kernel
theorem dX8_findBest_68 : decode cX8_findBest 68 = .ok (.iload_n 3, 1) := by decide +kernel
theorem dX8_findBest_69 : decode cX8_findBest 69 = .ok (.invokevirtual 182, 3) := by decide +kernel
theorem dX8_findBest_72 : decode cX8_findBest 72 = .ok (.ifCond .eq 106, 3) := by decide +kernel
theorem dX8_findBest_75 : decode cX8_findBest 75 = .ok (.iconst 0, 1) := by decide +kernel
theorem dX8_findBest_76 : decode cX8_findBest 76 = .ok (.istore 4, 2) := by decide +kernel
theorem dX8_findBest_78 : decode cX8_findBest 78 = .ok (.iload 4, 2) := by decide +kernel
theorem dX8_findBest_80 : decode cX8_findBest 80 = .ok (.aload_n 0, 1) := by decide +kernel
theorem dX8_findBest_81 : decode cX8_findBest 81 = .ok (.getfield 86, 3) := by decide +kernel
theorem dX8_findBest_84 : decode cX8_findBest 84 = .ok (.if_icmp .ge 23, 3) := by decide +kernel
theorem dX8_findBest_87 : decode cX8_findBest 87 = .ok (.aload_n 0, 1) := by decide +kernel
theorem dX8_findBest_88 : decode cX8_findBest 88 = .ok (.getfield 26, 3) := by decide +kernel
theorem dX8_findBest_91 : decode cX8_findBest 91 = .ok (.iload 4, 2) := by decide +kernel
theorem dX8_findBest_93 : decode cX8_findBest 93 = .ok (.aload_n 0, 1) := by decide +kernel
theorem dX8_findBest_94 : decode cX8_findBest 94 = .ok (.getfield 54, 3) := by decide +kernel
theorem dX8_findBest_97 : decode cX8_findBest 97 = .ok (.iload 4, 2) := by decide +kernel
theorem dX8_findBest_99 : decode cX8_findBest 99 = .ok (.iaload, 1) := by decide +kernel
theorem dX8_findBest_100 : decode cX8_findBest 100 = .ok (.iastore, 1) := by decide +kernel
theorem dX8_findBest_101 : decode cX8_findBest 101 = .ok (.iinc 4 1, 3) := by decide +kernel
theorem dX8_findBest_104 : decode cX8_findBest 104 = .ok (.goto (-26), 3) := by decide +kernel
theorem dX8_findBest_107 : decode cX8_findBest 107 = .ok (.aload_n 0, 1) := by decide +kernel
theorem dX8_findBest_108 : decode cX8_findBest 108 = .ok (.iload_n 1, 1) := by decide +kernel
theorem dX8_findBest_109 : decode cX8_findBest 109 = .ok (.invokevirtual 197, 3) := by decide +kernel
theorem dX8_findBest_112 : decode cX8_findBest 112 = .ok (.istore 4, 2) := by decide +kernel
theorem dX8_findBest_114 : decode cX8_findBest 114 = .ok (.aload_n 0, 1) := by decide +kernel
theorem dX8_findBest_115 : decode cX8_findBest 115 = .ok (.invokevirtual 200, 3) := by decide +kernel
theorem dX8_findBest_118 : decode cX8_findBest 118 = .ok (.iload 4, 2) := by decide +kernel
theorem dX8_findBest_120 : decode cX8_findBest 120 = .ok (.ifCond .lt 58, 3) := by decide +kernel
theorem dX8_findBest_123 : decode cX8_findBest 123 = .ok (.aload_n 0, 1) := by decide +kernel
theorem dX8_findBest_124 : decode cX8_findBest 124 = .ok (.getfield 203, 3) := by decide +kernel
theorem dX8_findBest_127 : decode cX8_findBest 127 = .ok (.ifCond .lt 32, 3) := by decide +kernel
theorem dX8_findBest_130 : decode cX8_findBest 130 = .ok (.iload 4, 2) := by decide +kernel
theorem dX8_findBest_132 : decode cX8_findBest 132 = .ok (.aload_n 0, 1) := by decide +kernel
theorem dX8_findBest_133 : decode cX8_findBest 133 = .ok (.getfield 206, 3) := by decide +kernel
theorem dX8_findBest_136 : decode cX8_findBest 136 = .ok (.if_icmp .lt 23, 3) := by decide +kernel
theorem dX8_findBest_139 : decode cX8_findBest 139 = .ok (.iload 4, 2) := by decide +kernel
theorem dX8_findBest_141 : decode cX8_findBest 141 = .ok (.aload_n 0, 1) := by decide +kernel
theorem dX8_findBest_142 : decode cX8_findBest 142 = .ok (.getfield 206, 3) := by decide +kernel
theorem dX8_findBest_145 : decode cX8_findBest 145 = .ok (.if_icmp .ne 33, 3) := by decide +kernel
theorem dX8_findBest_148 : decode cX8_findBest 148 = .ok (.aload_n 0, 1) := by decide +kernel
theorem dX8_findBest_149 : decode cX8_findBest 149 = .ok (.getfield 188, 3) := by decide +kernel
theorem dX8_findBest_152 : decode cX8_findBest 152 = .ok (.aload_n 0, 1) := by decide +kernel
theorem dX8_findBest_153 : decode cX8_findBest 153 = .ok (.getfield 209, 3) := by decide +kernel
theorem dX8_findBest_156 : decode cX8_findBest 156 = .ok (.if_icmp .ge 22, 3) := by decide +kernel
theorem dX8_findBest_159 : decode cX8_findBest 159 = .ok (.aload_n 0, 1) := by decide +kernel
theorem dX8_findBest_160 : decode cX8_findBest 160 = .ok (.iload_n 3, 1) := by decide +kernel
theorem dX8_findBest_161 : decode cX8_findBest 161 = .ok (.putfield 203, 3) := by decide +kernel
theorem dX8_findBest_164 : decode cX8_findBest 164 = .ok (.aload_n 0, 1) := by decide +kernel
theorem dX8_findBest_165 : decode cX8_findBest 165 = .ok (.iload 4, 2) := by decide +kernel
theorem dX8_findBest_167 : decode cX8_findBest 167 = .ok (.putfield 206, 3) := by decide +kernel
theorem dX8_findBest_170 : decode cX8_findBest 170 = .ok (.aload_n 0, 1) := by decide +kernel
theorem dX8_findBest_171 : decode cX8_findBest 171 = .ok (.aload_n 0, 1) := by decide +kernel
theorem dX8_findBest_172 : decode cX8_findBest 172 = .ok (.getfield 188, 3) := by decide +kernel
theorem dX8_findBest_175 : decode cX8_findBest 175 = .ok (.putfield 209, 3) := by decide +kernel
theorem dX8_findBest_178 : decode cX8_findBest 178 = .ok (.iinc 3 1, 3) := by decide +kernel
theorem dX8_findBest_181 : decode cX8_findBest 181 = .ok (.goto (-119), 3) := by decide +kernel
theorem dX8_findBest_184 : decode cX8_findBest 184 = .ok (.iconst 0, 1) := by decide +kernel
theorem dX8_findBest_185 : decode cX8_findBest 185 = .ok (.istore_n 3, 1) := by decide +kernel
theorem dX8_findBest_186 : decode cX8_findBest 186 = .ok (.iload_n 3, 1) := by decide +kernel
theorem dX8_findBest_187 : decode cX8_findBest 187 = .ok (.aload_n 0, 1) := by decide +kernel
theorem dX8_findBest_188 : decode cX8_findBest 188 = .ok (.getfield 86, 3) := by decide +kernel
theorem dX8_findBest_191 : decode cX8_findBest 191 = .ok (.if_icmp .ge 21, 3) := by decide +kernel
theorem dX8_findBest_194 : decode cX8_findBest 194 = .ok (.aload_n 0, 1) := by decide +kernel
theorem dX8_findBest_195 : decode cX8_findBest 195 = .ok (.getfield 26, 3) := by decide +kernel
theorem dX8_findBest_198 : decode cX8_findBest 198 = .ok (.iload_n 3, 1) := by decide +kernel
theorem dX8_findBest_199 : decode cX8_findBest 199 = .ok (.aload_n 0, 1) := by decide +kernel
theorem dX8_findBest_200 : decode cX8_findBest 200 = .ok (.getfield 60, 3) := by decide +kernel
theorem dX8_findBest_203 : decode cX8_findBest 203 = .ok (.iload_n 3, 1) := by decide +kernel
theorem dX8_findBest_204 : decode cX8_findBest 204 = .ok (.iaload, 1) := by decide +kernel
theorem dX8_findBest_205 : decode cX8_findBest 205 = .ok (.iastore, 1) := by decide +kernel
theorem dX8_findBest_206 : decode cX8_findBest 206 = .ok (.iinc 3 1, 3) := by decide +kernel
theorem dX8_findBest_209 : decode cX8_findBest 209 = .ok (.goto (-23), 3) := by decide +kernel
theorem dX8_findBest_212 : decode cX8_findBest 212 = .ok (.return_, 1) := by decide +kernel
set_option maxRecDepth 20000 in
theorem ggX8_best_X8_isAim : GoodIn wsX8_best wsX8_isAim := goodIn_r _ [12, 13, 14, 15, 11, 16] (by decide +kernel) (by decide +kernel)
set_option maxRecDepth 20000 in
theorem gX8_best_X8_isAim : GoodIn wsX8_best (va_wsS RX8 175 yX8_isAim wsX8_isAim) := goodIn_app (goodIn_of _ (by decide +kernel)) ggX8_best_X8_isAim
set_option maxRecDepth 20000 in
theorem ggX8_best_X8_in : GoodIn wsX8_best wsX8_in := goodIn_r _ [16] (by decide +kernel) (by decide +kernel)
set_option maxRecDepth 20000 in
theorem gX8_best_X8_in : GoodIn wsX8_best (va_wsS RX8 99 yX8_in wsX8_in) := goodIn_app (goodIn_of _ (by decide +kernel)) ggX8_best_X8_in
set_option maxRecDepth 20000 in
theorem ggX8_best_X8_findBest : GoodIn wsX8_best wsX8_findBest := goodIn_r _ [20, 5, 3, 21, 22, 23, 7, 24, 8, 25, 26, 27, 11, 28, 29, 30, 31, 32, 33, 34, 35, 36, 37, 38, 39, 40, 41, 42, 43, 44, 45, 46, 47, 48, 49, 50, 51, 52, 53, 54, 1, 55, 56, 57, 58, 59, 60, 61, 62, 63, 64, 65, 66, 67, 68, 69, 70, 71, 72, 73, 74, 75, 76, 77, 78, 79, 80, 81, 82, 83, 84, 85, 86, 87, 88, 89, 90, 91, 92, 93, 94, 95, 96, 97, 98, 99, 100, 101, 102, 103, 104, 105, 106, 107, 108, 109, 110, 111, 112, 113, 114, 115, 116, 117, 118, 119, 120, 121, 122, 123, 124, 125, 126, 127, 128, 129, 130, 131, 132, 133, 134, 135, 136] (by decide +kernel) (by decide +kernel)
set_option maxRecDepth 20000 in
theorem gX8_best_X8_findBest : GoodIn wsX8_best (wsV RX8 213 RX8 yX8_findBest wsX8_findBest) := goodIn_app (goodIn_of _ (by decide +kernel)) ggX8_best_X8_findBest
theorem dX8_best_0 : decode cX8_best 0 = .ok (.iload_n 1, 1) := by decide +kernel
theorem dX8_best_1 : decode cX8_best 1 = .ok (.invokestatic 175, 3) := by decide +kernel
theorem dX8_best_4 : decode cX8_best 4 = .ok (.ifCond .eq 15, 3) := by decide +kernel
theorem dX8_best_7 : decode cX8_best 7 = .ok (.iload_n 2, 1) := by decide +kernel
theorem dX8_best_8 : decode cX8_best 8 = .ok (.i2l, 1) := by decide +kernel
theorem dX8_best_9 : decode cX8_best 9 = .ok (.lconst 0, 1) := by decide +kernel
theorem dX8_best_10 : decode cX8_best 10 = .ok (.ldc2_w 122, 3) := by decide +kernel
theorem dX8_best_13 : decode cX8_best 13 = .ok (.invokestatic 99, 3) := by decide +kernel
theorem dX8_best_16 : decode cX8_best 16 = .ok (.ifCond .ne 6, 3) := by decide +kernel
theorem dX8_best_19 : decode cX8_best 19 = .ok (.ldc 105, 2) := by decide +kernel
theorem dX8_best_21 : decode cX8_best 21 = .ok (.ireturn, 1) := by decide +kernel
theorem dX8_best_22 : decode cX8_best 22 = .ok (.aload_n 0, 1) := by decide +kernel
theorem dX8_best_23 : decode cX8_best 23 = .ok (.getfield 86, 3) := by decide +kernel
theorem dX8_best_26 : decode cX8_best 26 = .ok (.bipush 6, 2) := by decide +kernel
theorem dX8_best_28 : decode cX8_best 28 = .ok (.if_icmp .ne 6, 3) := by decide +kernel
theorem dX8_best_31 : decode cX8_best 31 = .ok (.ldc 212, 2) := by decide +kernel
theorem dX8_best_33 : decode cX8_best 33 = .ok (.ireturn, 1) := by decide +kernel
theorem dX8_best_34 : decode cX8_best 34 = .ok (.aload_n 0, 1) := by decide +kernel
theorem dX8_best_35 : decode cX8_best 35 = .ok (.iload_n 1, 1) := by decide +kernel
theorem dX8_best_36 : decode cX8_best 36 = .ok (.invokevirtual 213, 3) := by decide +kernel
theorem dX8_best_39 : decode cX8_best 39 = .ok (.aload_n 0, 1) := by decide +kernel
theorem dX8_best_40 : decode cX8_best 40 = .ok (.getfield 203, 3) := by decide +kernel
theorem dX8_best_43 : decode cX8_best 43 = .ok (.ifCond .ge 8, 3) := by decide +kernel
theorem dX8_best_46 : decode cX8_best 46 = .ok (.ldc 121, 2) := by decide +kernel
theorem dX8_best_48 : decode cX8_best 48 = .ok (.goto 30, 3) := by decide +kernel
theorem dX8_best_51 : decode cX8_best 51 = .ok (.iload_n 2, 1) := by decide +kernel
theorem dX8_best_52 : decode cX8_best 52 = .ok (.ifCond .ne 10, 3) := by decide +kernel
theorem dX8_best_55 : decode cX8_best 55 = .ok (.aload_n 0, 1) := by decide +kernel
theorem dX8_best_56 : decode cX8_best 56 = .ok (.getfield 203, 3) := by decide +kernel
theorem dX8_best_59 : decode cX8_best 59 = .ok (.goto 19, 3) := by decide +kernel
theorem dX8_best_62 : decode cX8_best 62 = .ok (.iload_n 2, 1) := by decide +kernel
theorem dX8_best_63 : decode cX8_best 63 = .ok (.iconst 1, 1) := by decide +kernel
theorem dX8_best_64 : decode cX8_best 64 = .ok (.if_icmp .ne 10, 3) := by decide +kernel
theorem dX8_best_67 : decode cX8_best 67 = .ok (.aload_n 0, 1) := by decide +kernel
theorem dX8_best_68 : decode cX8_best 68 = .ok (.getfield 206, 3) := by decide +kernel
theorem dX8_best_71 : decode cX8_best 71 = .ok (.goto 7, 3) := by decide +kernel
theorem dX8_best_74 : decode cX8_best 74 = .ok (.aload_n 0, 1) := by decide +kernel
theorem dX8_best_75 : decode cX8_best 75 = .ok (.getfield 209, 3) := by decide +kernel
theorem dX8_best_78 : decode cX8_best 78 = .ok (.ireturn, 1) := by decide +kernel
set_option maxRecDepth 20000 in
theorem ggX8_makeEven_X8_drawOf : GoodIn wsX8_makeEven wsX8_drawOf := goodIn_r _ [8, 2, 9, 10, 11, 7, 12, 13, 14, 15, 16, 17, 1, 18, 3, 19, 20, 21, 22, 23, 24, 25, 26, 27, 28, 29, 30, 31, 32, 33, 34, 35, 36, 37, 38, 39, 40, 41, 42, 43, 44, 45, 46, 47, 48, 49, 50, 51, 52, 53, 54, 55, 56, 57, 58, 59, 60, 61, 62, 63, 64, 65, 66, 67, 68, 69, 70, 71, 72, 73, 74, 75, 76, 77, 78, 79, 80, 81, 82, 83, 84, 85, 86, 87, 88, 89, 90] (by decide +kernel) (by decide +kernel)
set_option maxRecDepth 20000 in
theorem gX8_makeEven_X8_drawOf : GoodIn wsX8_makeEven (wsV RX8 178 RX8 yX8_drawOf wsX8_drawOf) := goodIn_app (goodIn_of _ (by decide +kernel)) ggX8_makeEven_X8_drawOf
theorem dX8_makeEven_0 : decode cX8_makeEven 0 = .ok (.iconst 0, 1) := by decide +kernel
theorem dX8_makeEven_1 : decode cX8_makeEven 1 = .ok (.istore_n 2, 1) := by decide +kernel
theorem dX8_makeEven_2 : decode cX8_makeEven 2 = .ok (.iload_n 2, 1) := by decide +kernel
theorem dX8_makeEven_3 : decode cX8_makeEven 3 = .ok (.aload_n 0, 1) := by decide +kernel
theorem dX8_makeEven_4 : decode cX8_makeEven 4 = .ok (.getfield 86, 3) := by decide +kernel
theorem dX8_makeEven_7 : decode cX8_makeEven 7 = .ok (.if_icmp .ge 34, 3) := by decide +kernel
theorem dX8_makeEven_10 : decode cX8_makeEven 10 = .ok (.aload_n 0, 1) := by decide +kernel
theorem dX8_makeEven_11 : decode cX8_makeEven 11 = .ok (.getfield 16, 3) := by decide +kernel
theorem dX8_makeEven_14 : decode cX8_makeEven 14 = .ok (.iload_n 2, 1) := by decide +kernel
theorem dX8_makeEven_15 : decode cX8_makeEven 15 = .ok (.aload_n 0, 1) := by decide +kernel
theorem dX8_makeEven_16 : decode cX8_makeEven 16 = .ok (.getfield 22, 3) := by decide +kernel
theorem dX8_makeEven_19 : decode cX8_makeEven 19 = .ok (.iload_n 2, 1) := by decide +kernel
theorem dX8_makeEven_20 : decode cX8_makeEven 20 = .ok (.baload, 1) := by decide +kernel
theorem dX8_makeEven_21 : decode cX8_makeEven 21 = .ok (.ifCond .eq 12, 3) := by decide +kernel
theorem dX8_makeEven_24 : decode cX8_makeEven 24 = .ok (.aload_n 0, 1) := by decide +kernel
theorem dX8_makeEven_25 : decode cX8_makeEven 25 = .ok (.getfield 16, 3) := by decide +kernel
theorem dX8_makeEven_28 : decode cX8_makeEven 28 = .ok (.iload_n 2, 1) := by decide +kernel
theorem dX8_makeEven_29 : decode cX8_makeEven 29 = .ok (.iaload, 1) := by decide +kernel
theorem dX8_makeEven_30 : decode cX8_makeEven 30 = .ok (.goto 4, 3) := by decide +kernel
theorem dX8_makeEven_33 : decode cX8_makeEven 33 = .ok (.iconst 0, 1) := by decide +kernel
theorem dX8_makeEven_34 : decode cX8_makeEven 34 = .ok (.iastore, 1) := by decide +kernel
theorem dX8_makeEven_35 : decode cX8_makeEven 35 = .ok (.iinc 2 1, 3) := by decide +kernel
theorem dX8_makeEven_38 : decode cX8_makeEven 38 = .ok (.goto (-36), 3) := by decide +kernel
theorem dX8_makeEven_41 : decode cX8_makeEven 41 = .ok (.iconst 1, 1) := by decide +kernel
theorem dX8_makeEven_42 : decode cX8_makeEven 42 = .ok (.istore_n 2, 1) := by decide +kernel
theorem dX8_makeEven_43 : decode cX8_makeEven 43 = .ok (.iload_n 2, 1) := by decide +kernel
theorem dX8_makeEven_44 : decode cX8_makeEven 44 = .ok (.ifCond .eq 67, 3) := by decide +kernel
theorem dX8_makeEven_47 : decode cX8_makeEven 47 = .ok (.iconst 0, 1) := by decide +kernel
theorem dX8_makeEven_48 : decode cX8_makeEven 48 = .ok (.istore_n 2, 1) := by decide +kernel
theorem dX8_makeEven_49 : decode cX8_makeEven 49 = .ok (.iconst 0, 1) := by decide +kernel
theorem dX8_makeEven_50 : decode cX8_makeEven 50 = .ok (.istore_n 3, 1) := by decide +kernel
theorem dX8_makeEven_51 : decode cX8_makeEven 51 = .ok (.iload_n 3, 1) := by decide +kernel
theorem dX8_makeEven_52 : decode cX8_makeEven 52 = .ok (.aload_n 0, 1) := by decide +kernel
theorem dX8_makeEven_53 : decode cX8_makeEven 53 = .ok (.getfield 86, 3) := by decide +kernel
theorem dX8_makeEven_56 : decode cX8_makeEven 56 = .ok (.if_icmp .ge 52, 3) := by decide +kernel
theorem dX8_makeEven_59 : decode cX8_makeEven 59 = .ok (.aload_n 0, 1) := by decide +kernel
theorem dX8_makeEven_60 : decode cX8_makeEven 60 = .ok (.getfield 22, 3) := by decide +kernel
theorem dX8_makeEven_63 : decode cX8_makeEven 63 = .ok (.iload_n 3, 1) := by decide +kernel
theorem dX8_makeEven_64 : decode cX8_makeEven 64 = .ok (.baload, 1) := by decide +kernel
theorem dX8_makeEven_65 : decode cX8_makeEven 65 = .ok (.ifCond .eq 7, 3) := by decide +kernel
theorem dX8_makeEven_68 : decode cX8_makeEven 68 = .ok (.iconst 0, 1) := by decide +kernel
theorem dX8_makeEven_69 : decode cX8_makeEven 69 = .ok (.goto 9, 3) := by decide +kernel
theorem dX8_makeEven_72 : decode cX8_makeEven 72 = .ok (.aload_n 0, 1) := by decide +kernel
theorem dX8_makeEven_73 : decode cX8_makeEven 73 = .ok (.iload_n 3, 1) := by decide +kernel
theorem dX8_makeEven_74 : decode cX8_makeEven 74 = .ok (.iload_n 1, 1) := by decide +kernel
theorem dX8_makeEven_75 : decode cX8_makeEven 75 = .ok (.invokevirtual 178, 3) := by decide +kernel
theorem dX8_makeEven_78 : decode cX8_makeEven 78 = .ok (.istore 4, 2) := by decide +kernel
theorem dX8_makeEven_80 : decode cX8_makeEven 80 = .ok (.iload 4, 2) := by decide +kernel
theorem dX8_makeEven_82 : decode cX8_makeEven 82 = .ok (.ifCond .ge 5, 3) := by decide +kernel
theorem dX8_makeEven_85 : decode cX8_makeEven 85 = .ok (.iconst 0, 1) := by decide +kernel
theorem dX8_makeEven_86 : decode cX8_makeEven 86 = .ok (.ireturn, 1) := by decide +kernel
theorem dX8_makeEven_87 : decode cX8_makeEven 87 = .ok (.iload_n 2, 1) := by decide +kernel
theorem dX8_makeEven_88 : decode cX8_makeEven 88 = .ok (.ifCond .ne 8, 3) := by decide +kernel
theorem dX8_makeEven_91 : decode cX8_makeEven 91 = .ok (.iload 4, 2) := by decide +kernel
theorem dX8_makeEven_93 : decode cX8_makeEven 93 = .ok (.ifCond .le 7, 3) := by decide +kernel
theorem dX8_makeEven_96 : decode cX8_makeEven 96 = .ok (.iconst 1, 1) := by decide +kernel
theorem dX8_makeEven_97 : decode cX8_makeEven 97 = .ok (.goto 4, 3) := by decide +kernel
theorem dX8_makeEven_100 : decode cX8_makeEven 100 = .ok (.iconst 0, 1) := by decide +kernel
theorem dX8_makeEven_101 : decode cX8_makeEven 101 = .ok (.istore_n 2, 1) := by decide +kernel
theorem dX8_makeEven_102 : decode cX8_makeEven 102 = .ok (.iinc 3 1, 3) := by decide +kernel
theorem dX8_makeEven_105 : decode cX8_makeEven 105 = .ok (.goto (-54), 3) := by decide +kernel
theorem dX8_makeEven_108 : decode cX8_makeEven 108 = .ok (.goto (-65), 3) := by decide +kernel
theorem dX8_makeEven_111 : decode cX8_makeEven 111 = .ok (.iconst 1, 1) := by decide +kernel
theorem dX8_makeEven_112 : decode cX8_makeEven 112 = .ok (.ireturn, 1) := by decide +kernel
set_option maxRecDepth 20000 in
theorem ggX8_even_X8_noBolt : GoodIn wsX8_even wsX8_noBolt := goodIn_r _ [10, 3, 11, 12, 9, 13, 77, 78, 79, 80, 81, 82, 83, 84, 85, 86, 87, 88, 89, 90, 91, 92, 93, 94, 95, 96, 97, 98, 99, 100, 101, 102, 103, 104, 105, 106, 107, 108, 109, 110, 111, 112, 113, 114, 115, 116, 117] (by decide +kernel) (by decide +kernel)
set_option maxRecDepth 20000 in
theorem gX8_even_X8_noBolt : GoodIn wsX8_even (wsV RX8 106 RX8 yX8_noBolt wsX8_noBolt) := goodIn_app (goodIn_of _ (by decide +kernel)) ggX8_even_X8_noBolt
set_option maxRecDepth 20000 in
theorem ggX8_even_X8_isAim : GoodIn wsX8_even wsX8_isAim := goodIn_r _ [16, 17, 11, 12, 9, 13] (by decide +kernel) (by decide +kernel)
set_option maxRecDepth 20000 in
theorem gX8_even_X8_isAim : GoodIn wsX8_even (va_wsS RX8 175 yX8_isAim wsX8_isAim) := goodIn_app (goodIn_of _ (by decide +kernel)) ggX8_even_X8_isAim
set_option maxRecDepth 20000 in
theorem ggX8_even_X8_keep : GoodIn wsX8_even wsX8_keep := goodIn_r _ [21, 3, 22, 4, 77, 78, 79, 80, 81, 82, 83, 84, 85, 86, 87, 88, 89, 90, 91, 92, 93, 94, 95, 96, 97, 98, 99, 100, 101, 102, 103, 104, 105, 106, 107, 108, 109, 110, 111, 112, 113, 114, 115, 116, 117] (by decide +kernel) (by decide +kernel)
set_option maxRecDepth 20000 in
theorem gX8_even_X8_keep : GoodIn wsX8_even (wsV RX8 194 RX8 yX8_keep wsX8_keep) := goodIn_app (goodIn_of _ (by decide +kernel)) ggX8_even_X8_keep
set_option maxRecDepth 20000 in
theorem ggX8_even_X8_makeEven : GoodIn wsX8_even wsX8_makeEven := goodIn_r _ [26, 3, 4, 27, 28, 29, 30, 9, 31, 32, 33, 34, 35, 36, 37, 38, 39, 40, 41, 42, 43, 44, 45, 46, 47, 48, 49, 50, 51, 52, 53, 54, 55, 56, 57, 58, 59, 60, 61, 62, 63, 64, 65, 66, 67, 68, 69, 70, 71, 72, 77, 78, 79, 80, 81, 82, 83, 84, 85, 86, 87, 88, 89, 90, 91, 92, 93, 94, 95, 96, 97, 98, 99, 100, 101, 102, 103, 104, 105, 106, 107, 108, 109, 110, 111, 112, 113, 114, 115, 116, 117] (by decide +kernel) (by decide +kernel)
set_option maxRecDepth 20000 in
theorem gX8_even_X8_makeEven : GoodIn wsX8_even (wsV RX8 217 RX8 yX8_makeEven wsX8_makeEven) := goodIn_app (goodIn_of _ (by decide +kernel)) ggX8_even_X8_makeEven
set_option maxRecDepth 20000 in
theorem ggX8_even_X8_back : GoodIn wsX8_even wsX8_back := goodIn_r _ [76, 3, 4, 22, 77, 78, 79, 80, 81, 82, 83, 84, 85, 86, 87, 88, 89, 90, 91, 92, 93, 94, 95, 96, 97, 98, 99, 100, 101, 102, 103, 104, 105, 106, 107, 108, 109, 110, 111, 112, 113, 114, 115, 116, 117] (by decide +kernel) (by decide +kernel)
set_option maxRecDepth 20000 in
theorem gX8_even_X8_back : GoodIn wsX8_even (wsV RX8 200 RX8 yX8_back wsX8_back) := goodIn_app (goodIn_of _ (by decide +kernel)) ggX8_even_X8_back
theorem dX8_even_0 : decode cX8_even 0 = .ok (.iload_n 2, 1) := by decide +kernel
