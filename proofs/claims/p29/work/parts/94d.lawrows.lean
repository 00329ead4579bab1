/-! the law: rows of the print -/
theorem dL_law_149 : decode cL_law 149 = .ok (.istore 12, 2) := by decide +kernel
theorem dL_law_151 : decode cL_law 151 = .ok (.iconst 0, 1) := by decide +kernel
theorem dL_law_152 : decode cL_law 152 = .ok (.istore 13, 2) := by decide +kernel
theorem dL_law_154 : decode cL_law 154 = .ok (.iload 13, 2) := by decide +kernel
theorem dL_law_156 : decode cL_law 156 = .ok (.iload_n 2, 1) := by decide +kernel
theorem dL_law_157 : decode cL_law 157 = .ok (.if_icmp .ge 28, 3) := by decide +kernel
theorem dL_law_160 : decode cL_law 160 = .ok (.iload 12, 2) := by decide +kernel
theorem dL_law_162 : decode cL_law 162 = .ok (.iconst 1, 1) := by decide +kernel
theorem dL_law_163 : decode cL_law 163 = .ok (.iload 11, 2) := by decide +kernel
theorem dL_law_165 : decode cL_law 165 = .ok (.bipush 10, 2) := by decide +kernel
theorem dL_law_167 : decode cL_law 167 = .ok (.irem, 1) := by decide +kernel
theorem dL_law_168 : decode cL_law 168 = .ok (.ishl, 1) := by decide +kernel
theorem dL_law_169 : decode cL_law 169 = .ok (.ior, 1) := by decide +kernel
theorem dL_law_170 : decode cL_law 170 = .ok (.istore 12, 2) := by decide +kernel
theorem dL_law_172 : decode cL_law 172 = .ok (.iload 11, 2) := by decide +kernel
theorem dL_law_174 : decode cL_law 174 = .ok (.bipush 10, 2) := by decide +kernel
theorem dL_law_176 : decode cL_law 176 = .ok (.idiv, 1) := by decide +kernel
theorem dL_law_177 : decode cL_law 177 = .ok (.istore 11, 2) := by decide +kernel
theorem dL_law_179 : decode cL_law 179 = .ok (.iinc 13 1, 3) := by decide +kernel
theorem dL_law_182 : decode cL_law 182 = .ok (.goto (-28), 3) := by decide +kernel
theorem dL_law_185 : decode cL_law 185 = .ok (.iload 12, 2) := by decide +kernel
theorem dL_law_187 : decode cL_law 187 = .ok (.iconst 1, 1) := by decide +kernel
theorem dL_law_188 : decode cL_law 188 = .ok (.iload_n 2, 1) := by decide +kernel
theorem dL_law_189 : decode cL_law 189 = .ok (.ishl, 1) := by decide +kernel
theorem dL_law_190 : decode cL_law 190 = .ok (.iconst 1, 1) := by decide +kernel
theorem dL_law_191 : decode cL_law 191 = .ok (.isub, 1) := by decide +kernel
theorem dL_law_192 : decode cL_law 192 = .ok (.if_icmp .ne 113, 3) := by decide +kernel
theorem dL_law_195 : decode cL_law 195 = .ok (.new 20, 3) := by decide +kernel
theorem dL_law_198 : decode cL_law 198 = .ok (.dup, 1) := by decide +kernel
theorem dL_law_199 : decode cL_law 199 = .ok (.invokespecial 32, 3) := by decide +kernel
theorem dL_law_202 : decode cL_law 202 = .ok (.astore 13, 2) := by decide +kernel
theorem dL_law_204 : decode cL_law 204 = .ok (.aload 13, 2) := by decide +kernel
theorem dL_law_206 : decode cL_law 206 = .ok (.aload_n 0, 1) := by decide +kernel
theorem dL_law_207 : decode cL_law 207 = .ok (.iload_n 2, 1) := by decide +kernel
theorem dL_law_208 : decode cL_law 208 = .ok (.invokestatic 33, 3) := by decide +kernel
theorem dL_law_211 : decode cL_law 211 = .ok (.ifCond .eq 14, 3) := by decide +kernel
theorem dL_law_214 : decode cL_law 214 = .ok (.aload 13, 2) := by decide +kernel
theorem dL_law_216 : decode cL_law 216 = .ok (.iload 10, 2) := by decide +kernel
theorem dL_law_218 : decode cL_law 218 = .ok (.invokevirtual 40, 3) := by decide +kernel
theorem dL_law_221 : decode cL_law 221 = .ok (.iconst 1, 1) := by decide +kernel
theorem dL_law_222 : decode cL_law 222 = .ok (.if_icmp .eq 5, 3) := by decide +kernel
theorem dL_law_225 : decode cL_law 225 = .ok (.iconst 0, 1) := by decide +kernel
theorem dL_law_226 : decode cL_law 226 = .ok (.ireturn, 1) := by decide +kernel
theorem dL_law_227 : decode cL_law 227 = .ok (.aload 13, 2) := by decide +kernel
theorem dL_law_229 : decode cL_law 229 = .ok (.iload_n 3, 1) := by decide +kernel
theorem dL_law_230 : decode cL_law 230 = .ok (.invokevirtual 44, 3) := by decide +kernel
theorem dL_law_233 : decode cL_law 233 = .ok (.istore 14, 2) := by decide +kernel
theorem dL_law_235 : decode cL_law 235 = .ok (.iload 14, 2) := by decide +kernel
theorem dL_law_237 : decode cL_law 237 = .ok (.ifCond .lt 55, 3) := by decide +kernel
theorem dL_law_240 : decode cL_law 240 = .ok (.aload 13, 2) := by decide +kernel
theorem dL_law_242 : decode cL_law 242 = .ok (.iconst 4, 1) := by decide +kernel
theorem dL_law_243 : decode cL_law 243 = .ok (.invokevirtual 47, 3) := by decide +kernel
theorem dL_law_246 : decode cL_law 246 = .ok (.iload 8, 2) := by decide +kernel
theorem dL_law_248 : decode cL_law 248 = .ok (.isub, 1) := by decide +kernel
theorem dL_law_249 : decode cL_law 249 = .ok (.istore 15, 2) := by decide +kernel
theorem dL_law_251 : decode cL_law 251 = .ok (.iload 4, 2) := by decide +kernel
theorem dL_law_253 : decode cL_law 253 = .ok (.ifCond .lt 24, 3) := by decide +kernel
theorem dL_law_256 : decode cL_law 256 = .ok (.iload 14, 2) := by decide +kernel
theorem dL_law_258 : decode cL_law 258 = .ok (.iload 5, 2) := by decide +kernel
theorem dL_law_260 : decode cL_law 260 = .ok (.if_icmp .lt 17, 3) := by decide +kernel
theorem dL_law_263 : decode cL_law 263 = .ok (.iload 14, 2) := by decide +kernel
theorem dL_law_265 : decode cL_law 265 = .ok (.iload 5, 2) := by decide +kernel
theorem dL_law_267 : decode cL_law 267 = .ok (.if_icmp .ne 22, 3) := by decide +kernel
theorem dL_law_270 : decode cL_law 270 = .ok (.iload 15, 2) := by decide +kernel
theorem dL_law_272 : decode cL_law 272 = .ok (.iload 6, 2) := by decide +kernel
theorem dL_law_274 : decode cL_law 274 = .ok (.if_icmp .ge 15, 3) := by decide +kernel
theorem dL_law_277 : decode cL_law 277 = .ok (.iload 10, 2) := by decide +kernel
theorem dL_law_279 : decode cL_law 279 = .ok (.istore 4, 2) := by decide +kernel
theorem dL_law_281 : decode cL_law 281 = .ok (.iload 14, 2) := by decide +kernel
theorem dL_law_283 : decode cL_law 283 = .ok (.istore 5, 2) := by decide +kernel
theorem dL_law_285 : decode cL_law 285 = .ok (.iload 15, 2) := by decide +kernel
theorem dL_law_287 : decode cL_law 287 = .ok (.istore 6, 2) := by decide +kernel
theorem dL_law_289 : decode cL_law 289 = .ok (.goto 16, 3) := by decide +kernel
theorem dL_law_292 : decode cL_law 292 = .ok (.aload 13, 2) := by decide +kernel
theorem dL_law_294 : decode cL_law 294 = .ok (.iconst 4, 1) := by decide +kernel
theorem dL_law_295 : decode cL_law 295 = .ok (.invokevirtual 47, 3) := by decide +kernel
theorem dL_law_298 : decode cL_law 298 = .ok (.iload 8, 2) := by decide +kernel
theorem dL_law_300 : decode cL_law 300 = .ok (.if_icmp .eq 5, 3) := by decide +kernel
theorem dL_law_303 : decode cL_law 303 = .ok (.iconst 0, 1) := by decide +kernel
theorem dL_law_304 : decode cL_law 304 = .ok (.ireturn, 1) := by decide +kernel
theorem dL_law_305 : decode cL_law 305 = .ok (.iinc 10 1, 3) := by decide +kernel
