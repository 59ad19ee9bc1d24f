theorem dL_cell_0 : decode cL_cell 0 = .ok (.iload_n 1, 1) := by decide +kernel
theorem dL_cell_1 : decode cL_cell 1 = .ok (.aload_n 0, 1) := by decide +kernel
theorem dL_cell_2 : decode cL_cell 2 = .ok (.arraylength, 1) := by decide +kernel
theorem dL_cell_3 : decode cL_cell 3 = .ok (.if_icmp .ge 9, 3) := by decide +kernel
theorem dL_cell_6 : decode cL_cell 6 = .ok (.aload_n 0, 1) := by decide +kernel
theorem dL_cell_7 : decode cL_cell 7 = .ok (.iload_n 1, 1) := by decide +kernel
theorem dL_cell_8 : decode cL_cell 8 = .ok (.iaload, 1) := by decide +kernel
theorem dL_cell_9 : decode cL_cell 9 = .ok (.goto 10, 3) := by decide +kernel
theorem dL_cell_12 : decode cL_cell 12 = .ok (.ldc 7, 2) := by decide +kernel
theorem dL_cell_14 : decode cL_cell 14 = .ok (.iload_n 1, 1) := by decide +kernel
theorem dL_cell_15 : decode cL_cell 15 = .ok (.imul, 1) := by decide +kernel
theorem dL_cell_16 : decode cL_cell 16 = .ok (.ldc 8, 2) := by decide +kernel
theorem dL_cell_18 : decode cL_cell 18 = .ok (.iadd, 1) := by decide +kernel
theorem dL_cell_19 : decode cL_cell 19 = .ok (.ireturn, 1) := by decide +kernel
theorem dL_low_0 : decode cL_low 0 = .ok (.iload_n 0, 1) := by decide +kernel
theorem dL_low_1 : decode cL_low 1 = .ok (.ldc 9, 2) := by decide +kernel
theorem dL_low_3 : decode cL_low 3 = .ok (.iand, 1) := by decide +kernel
theorem dL_low_4 : decode cL_low 4 = .ok (.iload_n 1, 1) := by decide +kernel
theorem dL_low_5 : decode cL_low 5 = .ok (.irem, 1) := by decide +kernel
theorem dL_low_6 : decode cL_low 6 = .ok (.ireturn, 1) := by decide +kernel
theorem dL_addUp_0 : decode cL_addUp 0 = .ok (.iconst 0, 1) := by decide +kernel
theorem dL_addUp_1 : decode cL_addUp 1 = .ok (.istore_n 1, 1) := by decide +kernel
theorem dL_addUp_2 : decode cL_addUp 2 = .ok (.iconst 0, 1) := by decide +kernel
theorem dL_addUp_3 : decode cL_addUp 3 = .ok (.istore_n 2, 1) := by decide +kernel
theorem dL_addUp_4 : decode cL_addUp 4 = .ok (.iconst 0, 1) := by decide +kernel
theorem dL_addUp_5 : decode cL_addUp 5 = .ok (.istore_n 3, 1) := by decide +kernel
theorem dL_addUp_6 : decode cL_addUp 6 = .ok (.iconst 0, 1) := by decide +kernel
theorem dL_addUp_7 : decode cL_addUp 7 = .ok (.istore 4, 2) := by decide +kernel
theorem dL_addUp_9 : decode cL_addUp 9 = .ok (.iconst 0, 1) := by decide +kernel
theorem dL_addUp_10 : decode cL_addUp 10 = .ok (.istore 5, 2) := by decide +kernel
theorem dL_addUp_12 : decode cL_addUp 12 = .ok (.iconst 0, 1) := by decide +kernel
theorem dL_addUp_13 : decode cL_addUp 13 = .ok (.istore 6, 2) := by decide +kernel
theorem dL_addUp_15 : decode cL_addUp 15 = .ok (.iload 6, 2) := by decide +kernel
theorem dL_addUp_17 : decode cL_addUp 17 = .ok (.bipush 8, 2) := by decide +kernel
theorem dL_addUp_19 : decode cL_addUp 19 = .ok (.if_icmp .ge 186, 3) := by decide +kernel
theorem dL_addUp_22 : decode cL_addUp 22 = .ok (.aload_n 0, 1) := by decide +kernel
theorem dL_addUp_23 : decode cL_addUp 23 = .ok (.iload 6, 2) := by decide +kernel
theorem dL_addUp_25 : decode cL_addUp 25 = .ok (.iconst 0, 1) := by decide +kernel
theorem dL_addUp_26 : decode cL_addUp 26 = .ok (.invokevirtual 10, 3) := by decide +kernel
theorem dL_addUp_29 : decode cL_addUp 29 = .ok (.istore 7, 2) := by decide +kernel
theorem dL_addUp_31 : decode cL_addUp 31 = .ok (.aload_n 0, 1) := by decide +kernel
theorem dL_addUp_32 : decode cL_addUp 32 = .ok (.iload 6, 2) := by decide +kernel
theorem dL_addUp_34 : decode cL_addUp 34 = .ok (.iconst 1, 1) := by decide +kernel
theorem dL_addUp_35 : decode cL_addUp 35 = .ok (.invokevirtual 10, 3) := by decide +kernel
theorem dL_addUp_38 : decode cL_addUp 38 = .ok (.istore 8, 2) := by decide +kernel
theorem dL_addUp_40 : decode cL_addUp 40 = .ok (.iload 7, 2) := by decide +kernel
theorem dL_addUp_42 : decode cL_addUp 42 = .ok (.ifCond .lt 93, 3) := by decide +kernel
theorem dL_addUp_45 : decode cL_addUp 45 = .ok (.iload 7, 2) := by decide +kernel
theorem dL_addUp_47 : decode cL_addUp 47 = .ok (.iconst 2, 1) := by decide +kernel
theorem dL_addUp_48 : decode cL_addUp 48 = .ok (.if_icmp .gt 87, 3) := by decide +kernel
theorem dL_addUp_51 : decode cL_addUp 51 = .ok (.iload 7, 2) := by decide +kernel
theorem dL_addUp_53 : decode cL_addUp 53 = .ok (.iconst 2, 1) := by decide +kernel
theorem dL_addUp_54 : decode cL_addUp 54 = .ok (.if_icmp .ne 7, 3) := by decide +kernel
theorem dL_addUp_57 : decode cL_addUp 57 = .ok (.iconst 1, 1) := by decide +kernel
theorem dL_addUp_58 : decode cL_addUp 58 = .ok (.goto 4, 3) := by decide +kernel
theorem dL_addUp_61 : decode cL_addUp 61 = .ok (.iconst 0, 1) := by decide +kernel
theorem dL_addUp_62 : decode cL_addUp 62 = .ok (.iload 8, 2) := by decide +kernel
theorem dL_addUp_64 : decode cL_addUp 64 = .ok (.ifCond .lt 7, 3) := by decide +kernel
theorem dL_addUp_67 : decode cL_addUp 67 = .ok (.iconst 1, 1) := by decide +kernel
theorem dL_addUp_68 : decode cL_addUp 68 = .ok (.goto 4, 3) := by decide +kernel
theorem dL_addUp_71 : decode cL_addUp 71 = .ok (.iconst 0, 1) := by decide +kernel
theorem dL_addUp_72 : decode cL_addUp 72 = .ok (.if_icmp .ne 63, 3) := by decide +kernel
theorem dL_addUp_75 : decode cL_addUp 75 = .ok (.iload 7, 2) := by decide +kernel
theorem dL_addUp_77 : decode cL_addUp 77 = .ok (.ifCond .ne 33, 3) := by decide +kernel
theorem dL_addUp_80 : decode cL_addUp 80 = .ok (.aload_n 0, 1) := by decide +kernel
theorem dL_addUp_81 : decode cL_addUp 81 = .ok (.iload 6, 2) := by decide +kernel
theorem dL_addUp_83 : decode cL_addUp 83 = .ok (.iconst 2, 1) := by decide +kernel
theorem dL_addUp_84 : decode cL_addUp 84 = .ok (.invokevirtual 10, 3) := by decide +kernel
theorem dL_addUp_87 : decode cL_addUp 87 = .ok (.ifCond .ne 48, 3) := by decide +kernel
theorem dL_addUp_90 : decode cL_addUp 90 = .ok (.aload_n 0, 1) := by decide +kernel
theorem dL_addUp_91 : decode cL_addUp 91 = .ok (.iload 6, 2) := by decide +kernel
theorem dL_addUp_93 : decode cL_addUp 93 = .ok (.iconst 3, 1) := by decide +kernel
theorem dL_addUp_94 : decode cL_addUp 94 = .ok (.invokevirtual 10, 3) := by decide +kernel
theorem dL_addUp_97 : decode cL_addUp 97 = .ok (.ifCond .ne 38, 3) := by decide +kernel
theorem dL_addUp_100 : decode cL_addUp 100 = .ok (.aload_n 0, 1) := by decide +kernel
theorem dL_addUp_101 : decode cL_addUp 101 = .ok (.iload 6, 2) := by decide +kernel
theorem dL_addUp_103 : decode cL_addUp 103 = .ok (.iconst 4, 1) := by decide +kernel
theorem dL_addUp_104 : decode cL_addUp 104 = .ok (.invokevirtual 10, 3) := by decide +kernel
theorem dL_addUp_107 : decode cL_addUp 107 = .ok (.ifCond .ne 28, 3) := by decide +kernel
theorem dL_addUp_110 : decode cL_addUp 110 = .ok (.aload_n 0, 1) := by decide +kernel
theorem dL_addUp_111 : decode cL_addUp 111 = .ok (.iload 6, 2) := by decide +kernel
theorem dL_addUp_113 : decode cL_addUp 113 = .ok (.iconst 4, 1) := by decide +kernel
theorem dL_addUp_114 : decode cL_addUp 114 = .ok (.invokevirtual 10, 3) := by decide +kernel
theorem dL_addUp_117 : decode cL_addUp 117 = .ok (.ifCond .lt 18, 3) := by decide +kernel
theorem dL_addUp_120 : decode cL_addUp 120 = .ok (.aload_n 0, 1) := by decide +kernel
theorem dL_addUp_121 : decode cL_addUp 121 = .ok (.iload 6, 2) := by decide +kernel
theorem dL_addUp_123 : decode cL_addUp 123 = .ok (.iconst 4, 1) := by decide +kernel
theorem dL_addUp_124 : decode cL_addUp 124 = .ok (.invokevirtual 10, 3) := by decide +kernel
theorem dL_addUp_127 : decode cL_addUp 127 = .ok (.aload_n 0, 1) := by decide +kernel
theorem dL_addUp_128 : decode cL_addUp 128 = .ok (.iconst 0, 1) := by decide +kernel
theorem dL_addUp_129 : decode cL_addUp 129 = .ok (.invokevirtual 16, 3) := by decide +kernel
theorem dL_addUp_132 : decode cL_addUp 132 = .ok (.if_icmp .le 5, 3) := by decide +kernel
theorem dL_addUp_135 : decode cL_addUp 135 = .ok (.iconst 0, 1) := by decide +kernel
theorem dL_addUp_136 : decode cL_addUp 136 = .ok (.ireturn, 1) := by decide +kernel
theorem dL_addUp_137 : decode cL_addUp 137 = .ok (.iload_n 1, 1) := by decide +kernel
theorem dL_addUp_138 : decode cL_addUp 138 = .ok (.iload 7, 2) := by decide +kernel
theorem dL_addUp_140 : decode cL_addUp 140 = .ok (.iconst 1, 1) := by decide +kernel
theorem dL_addUp_141 : decode cL_addUp 141 = .ok (.if_icmp .ne 7, 3) := by decide +kernel
theorem dL_addUp_144 : decode cL_addUp 144 = .ok (.iconst 1, 1) := by decide +kernel
theorem dL_addUp_145 : decode cL_addUp 145 = .ok (.goto 4, 3) := by decide +kernel
theorem dL_addUp_148 : decode cL_addUp 148 = .ok (.iconst 0, 1) := by decide +kernel
theorem dL_addUp_149 : decode cL_addUp 149 = .ok (.iadd, 1) := by decide +kernel
theorem dL_addUp_150 : decode cL_addUp 150 = .ok (.istore_n 1, 1) := by decide +kernel
theorem dL_addUp_151 : decode cL_addUp 151 = .ok (.iload_n 2, 1) := by decide +kernel
theorem dL_addUp_152 : decode cL_addUp 152 = .ok (.iload 7, 2) := by decide +kernel
theorem dL_addUp_154 : decode cL_addUp 154 = .ok (.iconst 2, 1) := by decide +kernel
theorem dL_addUp_155 : decode cL_addUp 155 = .ok (.if_icmp .ne 7, 3) := by decide +kernel
theorem dL_addUp_158 : decode cL_addUp 158 = .ok (.iconst 1, 1) := by decide +kernel
theorem dL_addUp_159 : decode cL_addUp 159 = .ok (.goto 4, 3) := by decide +kernel
theorem dL_addUp_162 : decode cL_addUp 162 = .ok (.iconst 0, 1) := by decide +kernel
theorem dL_addUp_163 : decode cL_addUp 163 = .ok (.iadd, 1) := by decide +kernel
theorem dL_addUp_164 : decode cL_addUp 164 = .ok (.istore_n 2, 1) := by decide +kernel
theorem dL_addUp_165 : decode cL_addUp 165 = .ok (.iload_n 3, 1) := by decide +kernel
theorem dL_addUp_166 : decode cL_addUp 166 = .ok (.aload_n 0, 1) := by decide +kernel
theorem dL_addUp_167 : decode cL_addUp 167 = .ok (.iload 6, 2) := by decide +kernel
theorem dL_addUp_169 : decode cL_addUp 169 = .ok (.iconst 2, 1) := by decide +kernel
theorem dL_addUp_170 : decode cL_addUp 170 = .ok (.invokevirtual 10, 3) := by decide +kernel
theorem dL_addUp_173 : decode cL_addUp 173 = .ok (.iadd, 1) := by decide +kernel
theorem dL_addUp_174 : decode cL_addUp 174 = .ok (.istore_n 3, 1) := by decide +kernel
theorem dL_addUp_175 : decode cL_addUp 175 = .ok (.iload 4, 2) := by decide +kernel
theorem dL_addUp_177 : decode cL_addUp 177 = .ok (.aload_n 0, 1) := by decide +kernel
theorem dL_addUp_178 : decode cL_addUp 178 = .ok (.iload 6, 2) := by decide +kernel
theorem dL_addUp_180 : decode cL_addUp 180 = .ok (.iconst 5, 1) := by decide +kernel
theorem dL_addUp_181 : decode cL_addUp 181 = .ok (.invokevirtual 10, 3) := by decide +kernel
theorem dL_addUp_184 : decode cL_addUp 184 = .ok (.iadd, 1) := by decide +kernel
theorem dL_addUp_185 : decode cL_addUp 185 = .ok (.istore 4, 2) := by decide +kernel
theorem dL_addUp_187 : decode cL_addUp 187 = .ok (.iload 5, 2) := by decide +kernel
theorem dL_addUp_189 : decode cL_addUp 189 = .ok (.aload_n 0, 1) := by decide +kernel
theorem dL_addUp_190 : decode cL_addUp 190 = .ok (.iload 6, 2) := by decide +kernel
theorem dL_addUp_192 : decode cL_addUp 192 = .ok (.iconst 3, 1) := by decide +kernel
theorem dL_addUp_193 : decode cL_addUp 193 = .ok (.invokevirtual 10, 3) := by decide +kernel
theorem dL_addUp_196 : decode cL_addUp 196 = .ok (.iadd, 1) := by decide +kernel
theorem dL_addUp_197 : decode cL_addUp 197 = .ok (.istore 5, 2) := by decide +kernel
theorem dL_addUp_199 : decode cL_addUp 199 = .ok (.iinc 6 1, 3) := by decide +kernel
theorem dL_addUp_202 : decode cL_addUp 202 = .ok (.goto (-187), 3) := by decide +kernel
theorem dL_addUp_205 : decode cL_addUp 205 = .ok (.iconst 0, 1) := by decide +kernel
theorem dL_addUp_206 : decode cL_addUp 206 = .ok (.istore 6, 2) := by decide +kernel
theorem dL_addUp_208 : decode cL_addUp 208 = .ok (.iconst 0, 1) := by decide +kernel
theorem dL_addUp_209 : decode cL_addUp 209 = .ok (.istore 7, 2) := by decide +kernel
theorem dL_addUp_211 : decode cL_addUp 211 = .ok (.iconst 0, 1) := by decide +kernel
theorem dL_addUp_212 : decode cL_addUp 212 = .ok (.istore 8, 2) := by decide +kernel
theorem dL_addUp_214 : decode cL_addUp 214 = .ok (.iconst 0, 1) := by decide +kernel
theorem dL_addUp_215 : decode cL_addUp 215 = .ok (.istore 9, 2) := by decide +kernel
theorem dL_addUp_217 : decode cL_addUp 217 = .ok (.iconst 0, 1) := by decide +kernel
theorem dL_addUp_218 : decode cL_addUp 218 = .ok (.istore 10, 2) := by decide +kernel
theorem dL_addUp_220 : decode cL_addUp 220 = .ok (.iconst 0, 1) := by decide +kernel
theorem dL_addUp_221 : decode cL_addUp 221 = .ok (.istore 11, 2) := by decide +kernel
theorem dL_addUp_223 : decode cL_addUp 223 = .ok (.iload_n 1, 1) := by decide +kernel
theorem dL_addUp_224 : decode cL_addUp 224 = .ok (.ifCond .gt 14, 3) := by decide +kernel
theorem dL_addUp_227 : decode cL_addUp 227 = .ok (.iload_n 1, 1) := by decide +kernel
theorem dL_addUp_228 : decode cL_addUp 228 = .ok (.iload_n 2, 1) := by decide +kernel
theorem dL_addUp_229 : decode cL_addUp 229 = .ok (.iadd, 1) := by decide +kernel
theorem dL_addUp_230 : decode cL_addUp 230 = .ok (.aload_n 0, 1) := by decide +kernel
theorem dL_addUp_231 : decode cL_addUp 231 = .ok (.iconst 0, 1) := by decide +kernel
theorem dL_addUp_232 : decode cL_addUp 232 = .ok (.invokevirtual 20, 3) := by decide +kernel
theorem dL_addUp_235 : decode cL_addUp 235 = .ok (.if_icmp .ge 7, 3) := by decide +kernel
theorem dL_addUp_238 : decode cL_addUp 238 = .ok (.iconst 1, 1) := by decide +kernel
theorem dL_addUp_239 : decode cL_addUp 239 = .ok (.goto 4, 3) := by decide +kernel
theorem dL_addUp_242 : decode cL_addUp 242 = .ok (.iconst 0, 1) := by decide +kernel
theorem dL_addUp_243 : decode cL_addUp 243 = .ok (.istore 12, 2) := by decide +kernel
theorem dL_addUp_245 : decode cL_addUp 245 = .ok (.iconst (-1), 1) := by decide +kernel
theorem dL_addUp_246 : decode cL_addUp 246 = .ok (.istore 13, 2) := by decide +kernel
theorem dL_addUp_248 : decode cL_addUp 248 = .ok (.iconst 0, 1) := by decide +kernel
theorem dL_addUp_249 : decode cL_addUp 249 = .ok (.istore 14, 2) := by decide +kernel
theorem dL_addUp_251 : decode cL_addUp 251 = .ok (.iload 14, 2) := by decide +kernel
theorem dL_addUp_253 : decode cL_addUp 253 = .ok (.bipush 8, 2) := by decide +kernel
theorem dL_addUp_255 : decode cL_addUp 255 = .ok (.if_icmp .ge 294, 3) := by decide +kernel
theorem dL_addUp_258 : decode cL_addUp 258 = .ok (.aload_n 0, 1) := by decide +kernel
theorem dL_addUp_259 : decode cL_addUp 259 = .ok (.iload 14, 2) := by decide +kernel
theorem dL_addUp_261 : decode cL_addUp 261 = .ok (.iconst 1, 1) := by decide +kernel
theorem dL_addUp_262 : decode cL_addUp 262 = .ok (.invokevirtual 23, 3) := by decide +kernel
theorem dL_addUp_265 : decode cL_addUp 265 = .ok (.istore 15, 2) := by decide +kernel
theorem dL_addUp_267 : decode cL_addUp 267 = .ok (.aload_n 0, 1) := by decide +kernel
theorem dL_addUp_268 : decode cL_addUp 268 = .ok (.iload 14, 2) := by decide +kernel
theorem dL_addUp_270 : decode cL_addUp 270 = .ok (.iconst 2, 1) := by decide +kernel
theorem dL_addUp_271 : decode cL_addUp 271 = .ok (.invokevirtual 23, 3) := by decide +kernel
theorem dL_addUp_274 : decode cL_addUp 274 = .ok (.istore 16, 2) := by decide +kernel
theorem dL_addUp_276 : decode cL_addUp 276 = .ok (.aload_n 0, 1) := by decide +kernel
theorem dL_addUp_277 : decode cL_addUp 277 = .ok (.iload 14, 2) := by decide +kernel
theorem dL_addUp_279 : decode cL_addUp 279 = .ok (.iconst 4, 1) := by decide +kernel
theorem dL_addUp_280 : decode cL_addUp 280 = .ok (.invokevirtual 23, 3) := by decide +kernel
theorem dL_addUp_283 : decode cL_addUp 283 = .ok (.istore 17, 2) := by decide +kernel
theorem dL_addUp_285 : decode cL_addUp 285 = .ok (.iconst 0, 1) := by decide +kernel
theorem dL_addUp_286 : decode cL_addUp 286 = .ok (.istore 18, 2) := by decide +kernel
theorem dL_addUp_288 : decode cL_addUp 288 = .ok (.iconst 0, 1) := by decide +kernel
theorem dL_addUp_289 : decode cL_addUp 289 = .ok (.istore 19, 2) := by decide +kernel
theorem dL_addUp_291 : decode cL_addUp 291 = .ok (.iload 19, 2) := by decide +kernel
theorem dL_addUp_293 : decode cL_addUp 293 = .ok (.bipush 8, 2) := by decide +kernel
theorem dL_addUp_295 : decode cL_addUp 295 = .ok (.if_icmp .ge 31, 3) := by decide +kernel
theorem dL_addUp_298 : decode cL_addUp 298 = .ok (.iload 18, 2) := by decide +kernel
theorem dL_addUp_300 : decode cL_addUp 300 = .ok (.aload_n 0, 1) := by decide +kernel
theorem dL_addUp_301 : decode cL_addUp 301 = .ok (.iload 19, 2) := by decide +kernel
theorem dL_addUp_303 : decode cL_addUp 303 = .ok (.iconst 1, 1) := by decide +kernel
theorem dL_addUp_304 : decode cL_addUp 304 = .ok (.invokevirtual 10, 3) := by decide +kernel
theorem dL_addUp_307 : decode cL_addUp 307 = .ok (.iload 14, 2) := by decide +kernel
theorem dL_addUp_309 : decode cL_addUp 309 = .ok (.if_icmp .ne 7, 3) := by decide +kernel
theorem dL_addUp_312 : decode cL_addUp 312 = .ok (.iconst 1, 1) := by decide +kernel
theorem dL_addUp_313 : decode cL_addUp 313 = .ok (.goto 4, 3) := by decide +kernel
theorem dL_addUp_316 : decode cL_addUp 316 = .ok (.iconst 0, 1) := by decide +kernel
theorem dL_addUp_317 : decode cL_addUp 317 = .ok (.iadd, 1) := by decide +kernel
theorem dL_addUp_318 : decode cL_addUp 318 = .ok (.istore 18, 2) := by decide +kernel
theorem dL_addUp_320 : decode cL_addUp 320 = .ok (.iinc 19 1, 3) := by decide +kernel
theorem dL_addUp_323 : decode cL_addUp 323 = .ok (.goto (-32), 3) := by decide +kernel
theorem dL_addUp_326 : decode cL_addUp 326 = .ok (.iload 16, 2) := by decide +kernel
theorem dL_addUp_328 : decode cL_addUp 328 = .ok (.ifCond .lt 7, 3) := by decide +kernel
theorem dL_addUp_331 : decode cL_addUp 331 = .ok (.iconst 1, 1) := by decide +kernel
theorem dL_addUp_332 : decode cL_addUp 332 = .ok (.goto 4, 3) := by decide +kernel
theorem dL_addUp_335 : decode cL_addUp 335 = .ok (.iconst 0, 1) := by decide +kernel
theorem dL_addUp_336 : decode cL_addUp 336 = .ok (.istore 19, 2) := by decide +kernel
theorem dL_addUp_338 : decode cL_addUp 338 = .ok (.iload 15, 2) := by decide +kernel
theorem dL_addUp_340 : decode cL_addUp 340 = .ok (.iload 18, 2) := by decide +kernel
theorem dL_addUp_342 : decode cL_addUp 342 = .ok (.if_icmp .ne 79, 3) := by decide +kernel
theorem dL_addUp_345 : decode cL_addUp 345 = .ok (.iload 19, 2) := by decide +kernel
theorem dL_addUp_347 : decode cL_addUp 347 = .ok (.ifCond .eq 39, 3) := by decide +kernel
theorem dL_addUp_350 : decode cL_addUp 350 = .ok (.aload_n 0, 1) := by decide +kernel
theorem dL_addUp_351 : decode cL_addUp 351 = .ok (.iload 14, 2) := by decide +kernel
theorem dL_addUp_353 : decode cL_addUp 353 = .ok (.iconst 0, 1) := by decide +kernel
theorem dL_addUp_354 : decode cL_addUp 354 = .ok (.invokevirtual 23, 3) := by decide +kernel
theorem dL_addUp_357 : decode cL_addUp 357 = .ok (.ifCond .eq 64, 3) := by decide +kernel
theorem dL_addUp_360 : decode cL_addUp 360 = .ok (.iload 12, 2) := by decide +kernel
theorem dL_addUp_362 : decode cL_addUp 362 = .ok (.ifCond .eq 13, 3) := by decide +kernel
theorem dL_addUp_365 : decode cL_addUp 365 = .ok (.iload 15, 2) := by decide +kernel
theorem dL_addUp_367 : decode cL_addUp 367 = .ok (.aload_n 0, 1) := by decide +kernel
theorem dL_addUp_368 : decode cL_addUp 368 = .ok (.iconst 1, 1) := by decide +kernel
theorem dL_addUp_369 : decode cL_addUp 369 = .ok (.invokevirtual 20, 3) := by decide +kernel
theorem dL_addUp_372 : decode cL_addUp 372 = .ok (.if_icmp .lt 49, 3) := by decide +kernel
theorem dL_addUp_375 : decode cL_addUp 375 = .ok (.iload 11, 2) := by decide +kernel
theorem dL_addUp_377 : decode cL_addUp 377 = .ok (.iload 16, 2) := by decide +kernel
theorem dL_addUp_379 : decode cL_addUp 379 = .ok (.ishr, 1) := by decide +kernel
theorem dL_addUp_380 : decode cL_addUp 380 = .ok (.iconst 1, 1) := by decide +kernel
theorem dL_addUp_381 : decode cL_addUp 381 = .ok (.iand, 1) := by decide +kernel
theorem dL_addUp_382 : decode cL_addUp 382 = .ok (.iconst 1, 1) := by decide +kernel
theorem dL_addUp_383 : decode cL_addUp 383 = .ok (.if_icmp .eq 38, 3) := by decide +kernel
theorem dL_addUp_386 : decode cL_addUp 386 = .ok (.iload 19, 2) := by decide +kernel
theorem dL_addUp_388 : decode cL_addUp 388 = .ok (.ifCond .ne 13, 3) := by decide +kernel
theorem dL_addUp_391 : decode cL_addUp 391 = .ok (.aload_n 0, 1) := by decide +kernel
theorem dL_addUp_392 : decode cL_addUp 392 = .ok (.iload 14, 2) := by decide +kernel
theorem dL_addUp_394 : decode cL_addUp 394 = .ok (.iconst 3, 1) := by decide +kernel
theorem dL_addUp_395 : decode cL_addUp 395 = .ok (.invokevirtual 23, 3) := by decide +kernel
theorem dL_addUp_398 : decode cL_addUp 398 = .ok (.ifCond .ne 23, 3) := by decide +kernel
theorem dL_addUp_401 : decode cL_addUp 401 = .ok (.iload 19, 2) := by decide +kernel
theorem dL_addUp_403 : decode cL_addUp 403 = .ok (.ifCond .eq 20, 3) := by decide +kernel
theorem dL_addUp_406 : decode cL_addUp 406 = .ok (.aload_n 0, 1) := by decide +kernel
theorem dL_addUp_407 : decode cL_addUp 407 = .ok (.iload 14, 2) := by decide +kernel
theorem dL_addUp_409 : decode cL_addUp 409 = .ok (.iconst 3, 1) := by decide +kernel
theorem dL_addUp_410 : decode cL_addUp 410 = .ok (.invokevirtual 23, 3) := by decide +kernel
theorem dL_addUp_413 : decode cL_addUp 413 = .ok (.aload_n 0, 1) := by decide +kernel
theorem dL_addUp_414 : decode cL_addUp 414 = .ok (.iconst 0, 1) := by decide +kernel
theorem dL_addUp_415 : decode cL_addUp 415 = .ok (.invokevirtual 16, 3) := by decide +kernel
theorem dL_addUp_418 : decode cL_addUp 418 = .ok (.if_icmp .le 5, 3) := by decide +kernel
theorem dL_addUp_421 : decode cL_addUp 421 = .ok (.iconst 0, 1) := by decide +kernel
theorem dL_addUp_422 : decode cL_addUp 422 = .ok (.ireturn, 1) := by decide +kernel
theorem dL_addUp_423 : decode cL_addUp 423 = .ok (.iload 11, 2) := by decide +kernel
theorem dL_addUp_425 : decode cL_addUp 425 = .ok (.iload 19, 2) := by decide +kernel
theorem dL_addUp_427 : decode cL_addUp 427 = .ok (.ifCond .eq 10, 3) := by decide +kernel
theorem dL_addUp_430 : decode cL_addUp 430 = .ok (.iconst 1, 1) := by decide +kernel
theorem dL_addUp_431 : decode cL_addUp 431 = .ok (.iload 16, 2) := by decide +kernel
theorem dL_addUp_433 : decode cL_addUp 433 = .ok (.ishl, 1) := by decide +kernel
theorem dL_addUp_434 : decode cL_addUp 434 = .ok (.goto 4, 3) := by decide +kernel
theorem dL_addUp_437 : decode cL_addUp 437 = .ok (.iconst 0, 1) := by decide +kernel
theorem dL_addUp_438 : decode cL_addUp 438 = .ok (.ior, 1) := by decide +kernel
theorem dL_addUp_439 : decode cL_addUp 439 = .ok (.istore 11, 2) := by decide +kernel
theorem dL_addUp_441 : decode cL_addUp 441 = .ok (.iload 8, 2) := by decide +kernel
theorem dL_addUp_443 : decode cL_addUp 443 = .ok (.iload 19, 2) := by decide +kernel
theorem dL_addUp_445 : decode cL_addUp 445 = .ok (.ifCond .eq 7, 3) := by decide +kernel
theorem dL_addUp_448 : decode cL_addUp 448 = .ok (.iconst 1, 1) := by decide +kernel
theorem dL_addUp_449 : decode cL_addUp 449 = .ok (.goto 4, 3) := by decide +kernel
theorem dL_addUp_452 : decode cL_addUp 452 = .ok (.iconst 0, 1) := by decide +kernel
theorem dL_addUp_453 : decode cL_addUp 453 = .ok (.iadd, 1) := by decide +kernel
theorem dL_addUp_454 : decode cL_addUp 454 = .ok (.istore 8, 2) := by decide +kernel
theorem dL_addUp_456 : decode cL_addUp 456 = .ok (.iload 7, 2) := by decide +kernel
theorem dL_addUp_458 : decode cL_addUp 458 = .ok (.iload 15, 2) := by decide +kernel
theorem dL_addUp_460 : decode cL_addUp 460 = .ok (.iadd, 1) := by decide +kernel
theorem dL_addUp_461 : decode cL_addUp 461 = .ok (.istore 7, 2) := by decide +kernel
theorem dL_addUp_463 : decode cL_addUp 463 = .ok (.iload 6, 2) := by decide +kernel
theorem dL_addUp_465 : decode cL_addUp 465 = .ok (.iload 17, 2) := by decide +kernel
theorem dL_addUp_467 : decode cL_addUp 467 = .ok (.iadd, 1) := by decide +kernel
theorem dL_addUp_468 : decode cL_addUp 468 = .ok (.istore 6, 2) := by decide +kernel
theorem dL_addUp_470 : decode cL_addUp 470 = .ok (.iload 17, 2) := by decide +kernel
theorem dL_addUp_472 : decode cL_addUp 472 = .ok (.iload 9, 2) := by decide +kernel
theorem dL_addUp_474 : decode cL_addUp 474 = .ok (.if_icmp .le 8, 3) := by decide +kernel
theorem dL_addUp_477 : decode cL_addUp 477 = .ok (.iload 17, 2) := by decide +kernel
theorem dL_addUp_479 : decode cL_addUp 479 = .ok (.goto 5, 3) := by decide +kernel
theorem dL_addUp_482 : decode cL_addUp 482 = .ok (.iload 9, 2) := by decide +kernel
theorem dL_addUp_484 : decode cL_addUp 484 = .ok (.istore 9, 2) := by decide +kernel
theorem dL_addUp_486 : decode cL_addUp 486 = .ok (.iload 17, 2) := by decide +kernel
theorem dL_addUp_488 : decode cL_addUp 488 = .ok (.ifCond .le 20, 3) := by decide +kernel
theorem dL_addUp_491 : decode cL_addUp 491 = .ok (.iload 10, 2) := by decide +kernel
theorem dL_addUp_493 : decode cL_addUp 493 = .ok (.ifCond .eq 10, 3) := by decide +kernel
theorem dL_addUp_496 : decode cL_addUp 496 = .ok (.iload 17, 2) := by decide +kernel
theorem dL_addUp_498 : decode cL_addUp 498 = .ok (.iload 10, 2) := by decide +kernel
theorem dL_addUp_500 : decode cL_addUp 500 = .ok (.if_icmp .ge 8, 3) := by decide +kernel
theorem dL_addUp_503 : decode cL_addUp 503 = .ok (.iload 17, 2) := by decide +kernel
theorem dL_addUp_505 : decode cL_addUp 505 = .ok (.goto 5, 3) := by decide +kernel
theorem dL_addUp_508 : decode cL_addUp 508 = .ok (.iload 10, 2) := by decide +kernel
theorem dL_addUp_510 : decode cL_addUp 510 = .ok (.istore 10, 2) := by decide +kernel
theorem dL_addUp_512 : decode cL_addUp 512 = .ok (.iload 15, 2) := by decide +kernel
theorem dL_addUp_514 : decode cL_addUp 514 = .ok (.ifCond .le 25, 3) := by decide +kernel
theorem dL_addUp_517 : decode cL_addUp 517 = .ok (.iload 13, 2) := by decide +kernel
theorem dL_addUp_519 : decode cL_addUp 519 = .ok (.ifCond .lt 15, 3) := by decide +kernel
theorem dL_addUp_522 : decode cL_addUp 522 = .ok (.iload 15, 2) := by decide +kernel
theorem dL_addUp_524 : decode cL_addUp 524 = .ok (.aload_n 0, 1) := by decide +kernel
theorem dL_addUp_525 : decode cL_addUp 525 = .ok (.iload 13, 2) := by decide +kernel
theorem dL_addUp_527 : decode cL_addUp 527 = .ok (.iconst 1, 1) := by decide +kernel
theorem dL_addUp_528 : decode cL_addUp 528 = .ok (.invokevirtual 23, 3) := by decide +kernel
theorem dL_addUp_531 : decode cL_addUp 531 = .ok (.if_icmp .le 8, 3) := by decide +kernel
theorem dL_addUp_534 : decode cL_addUp 534 = .ok (.iload 14, 2) := by decide +kernel
theorem dL_addUp_536 : decode cL_addUp 536 = .ok (.goto 5, 3) := by decide +kernel
theorem dL_addUp_539 : decode cL_addUp 539 = .ok (.iload 13, 2) := by decide +kernel
theorem dL_addUp_541 : decode cL_addUp 541 = .ok (.istore 13, 2) := by decide +kernel
theorem dL_addUp_543 : decode cL_addUp 543 = .ok (.iinc 14 1, 3) := by decide +kernel
theorem dL_addUp_546 : decode cL_addUp 546 = .ok (.goto (-295), 3) := by decide +kernel
theorem dL_addUp_549 : decode cL_addUp 549 = .ok (.aload_n 0, 1) := by decide +kernel
theorem dL_addUp_550 : decode cL_addUp 550 = .ok (.iconst 1, 1) := by decide +kernel
theorem dL_addUp_551 : decode cL_addUp 551 = .ok (.invokevirtual 16, 3) := by decide +kernel
theorem dL_addUp_554 : decode cL_addUp 554 = .ok (.iload_n 1, 1) := by decide +kernel
theorem dL_addUp_555 : decode cL_addUp 555 = .ok (.iload_n 2, 1) := by decide +kernel
theorem dL_addUp_556 : decode cL_addUp 556 = .ok (.iadd, 1) := by decide +kernel
theorem dL_addUp_557 : decode cL_addUp 557 = .ok (.if_icmp .ne 61, 3) := by decide +kernel
theorem dL_addUp_560 : decode cL_addUp 560 = .ok (.aload_n 0, 1) := by decide +kernel
theorem dL_addUp_561 : decode cL_addUp 561 = .ok (.iconst 2, 1) := by decide +kernel
theorem dL_addUp_562 : decode cL_addUp 562 = .ok (.invokevirtual 16, 3) := by decide +kernel
theorem dL_addUp_565 : decode cL_addUp 565 = .ok (.iload_n 1, 1) := by decide +kernel
theorem dL_addUp_566 : decode cL_addUp 566 = .ok (.if_icmp .ne 52, 3) := by decide +kernel
theorem dL_addUp_569 : decode cL_addUp 569 = .ok (.aload_n 0, 1) := by decide +kernel
theorem dL_addUp_570 : decode cL_addUp 570 = .ok (.iconst 3, 1) := by decide +kernel
theorem dL_addUp_571 : decode cL_addUp 571 = .ok (.invokevirtual 16, 3) := by decide +kernel
theorem dL_addUp_574 : decode cL_addUp 574 = .ok (.iload_n 2, 1) := by decide +kernel
theorem dL_addUp_575 : decode cL_addUp 575 = .ok (.if_icmp .ne 43, 3) := by decide +kernel
theorem dL_addUp_578 : decode cL_addUp 578 = .ok (.iload 7, 2) := by decide +kernel
theorem dL_addUp_580 : decode cL_addUp 580 = .ok (.iload_n 2, 1) := by decide +kernel
theorem dL_addUp_581 : decode cL_addUp 581 = .ok (.if_icmp .ne 37, 3) := by decide +kernel
theorem dL_addUp_584 : decode cL_addUp 584 = .ok (.aload_n 0, 1) := by decide +kernel
theorem dL_addUp_585 : decode cL_addUp 585 = .ok (.iconst 4, 1) := by decide +kernel
theorem dL_addUp_586 : decode cL_addUp 586 = .ok (.invokevirtual 16, 3) := by decide +kernel
theorem dL_addUp_589 : decode cL_addUp 589 = .ok (.iload_n 3, 1) := by decide +kernel
theorem dL_addUp_590 : decode cL_addUp 590 = .ok (.if_icmp .ne 28, 3) := by decide +kernel
theorem dL_addUp_593 : decode cL_addUp 593 = .ok (.aload_n 0, 1) := by decide +kernel
theorem dL_addUp_594 : decode cL_addUp 594 = .ok (.iconst 5, 1) := by decide +kernel
theorem dL_addUp_595 : decode cL_addUp 595 = .ok (.invokevirtual 16, 3) := by decide +kernel
theorem dL_addUp_598 : decode cL_addUp 598 = .ok (.iload 8, 2) := by decide +kernel
theorem dL_addUp_600 : decode cL_addUp 600 = .ok (.if_icmp .ne 18, 3) := by decide +kernel
theorem dL_addUp_603 : decode cL_addUp 603 = .ok (.iload 11, 2) := by decide +kernel
theorem dL_addUp_605 : decode cL_addUp 605 = .ok (.iconst 1, 1) := by decide +kernel
theorem dL_addUp_606 : decode cL_addUp 606 = .ok (.iload 8, 2) := by decide +kernel
theorem dL_addUp_608 : decode cL_addUp 608 = .ok (.ishl, 1) := by decide +kernel
theorem dL_addUp_609 : decode cL_addUp 609 = .ok (.iconst 1, 1) := by decide +kernel
theorem dL_addUp_610 : decode cL_addUp 610 = .ok (.isub, 1) := by decide +kernel
theorem dL_addUp_611 : decode cL_addUp 611 = .ok (.if_icmp .ne 7, 3) := by decide +kernel
theorem dL_addUp_614 : decode cL_addUp 614 = .ok (.iconst 1, 1) := by decide +kernel
theorem dL_addUp_615 : decode cL_addUp 615 = .ok (.goto 4, 3) := by decide +kernel
theorem dL_addUp_618 : decode cL_addUp 618 = .ok (.iconst 0, 1) := by decide +kernel
theorem dL_addUp_619 : decode cL_addUp 619 = .ok (.istore 14, 2) := by decide +kernel
theorem dL_addUp_621 : decode cL_addUp 621 = .ok (.iload 14, 2) := by decide +kernel
theorem dL_addUp_623 : decode cL_addUp 623 = .ok (.ifCond .eq 84, 3) := by decide +kernel
theorem dL_addUp_626 : decode cL_addUp 626 = .ok (.aload_n 0, 1) := by decide +kernel
theorem dL_addUp_627 : decode cL_addUp 627 = .ok (.bipush 6, 2) := by decide +kernel
theorem dL_addUp_629 : decode cL_addUp 629 = .ok (.invokevirtual 16, 3) := by decide +kernel
theorem dL_addUp_632 : decode cL_addUp 632 = .ok (.iload 4, 2) := by decide +kernel
theorem dL_addUp_634 : decode cL_addUp 634 = .ok (.if_icmp .ne 73, 3) := by decide +kernel
theorem dL_addUp_637 : decode cL_addUp 637 = .ok (.aload_n 0, 1) := by decide +kernel
theorem dL_addUp_638 : decode cL_addUp 638 = .ok (.bipush 6, 2) := by decide +kernel
theorem dL_addUp_640 : decode cL_addUp 640 = .ok (.invokevirtual 16, 3) := by decide +kernel
theorem dL_addUp_643 : decode cL_addUp 643 = .ok (.aload_n 0, 1) := by decide +kernel
theorem dL_addUp_644 : decode cL_addUp 644 = .ok (.bipush 7, 2) := by decide +kernel
theorem dL_addUp_646 : decode cL_addUp 646 = .ok (.invokevirtual 16, 3) := by decide +kernel
theorem dL_addUp_649 : decode cL_addUp 649 = .ok (.isub, 1) := by decide +kernel
theorem dL_addUp_650 : decode cL_addUp 650 = .ok (.iload_n 1, 1) := by decide +kernel
theorem dL_addUp_651 : decode cL_addUp 651 = .ok (.iload_n 2, 1) := by decide +kernel
theorem dL_addUp_652 : decode cL_addUp 652 = .ok (.iadd, 1) := by decide +kernel
theorem dL_addUp_653 : decode cL_addUp 653 = .ok (.if_icmp .ne 54, 3) := by decide +kernel
theorem dL_addUp_656 : decode cL_addUp 656 = .ok (.aload_n 0, 1) := by decide +kernel
theorem dL_addUp_657 : decode cL_addUp 657 = .ok (.bipush 8, 2) := by decide +kernel
theorem dL_addUp_659 : decode cL_addUp 659 = .ok (.invokevirtual 16, 3) := by decide +kernel
theorem dL_addUp_662 : decode cL_addUp 662 = .ok (.aload_n 0, 1) := by decide +kernel
theorem dL_addUp_663 : decode cL_addUp 663 = .ok (.bipush 9, 2) := by decide +kernel
theorem dL_addUp_665 : decode cL_addUp 665 = .ok (.invokevirtual 16, 3) := by decide +kernel
theorem dL_addUp_668 : decode cL_addUp 668 = .ok (.iadd, 1) := by decide +kernel
theorem dL_addUp_669 : decode cL_addUp 669 = .ok (.aload_n 0, 1) := by decide +kernel
theorem dL_addUp_670 : decode cL_addUp 670 = .ok (.bipush 10, 2) := by decide +kernel
theorem dL_addUp_672 : decode cL_addUp 672 = .ok (.invokevirtual 16, 3) := by decide +kernel
theorem dL_addUp_675 : decode cL_addUp 675 = .ok (.iadd, 1) := by decide +kernel
theorem dL_addUp_676 : decode cL_addUp 676 = .ok (.aload_n 0, 1) := by decide +kernel
theorem dL_addUp_677 : decode cL_addUp 677 = .ok (.bipush 7, 2) := by decide +kernel
theorem dL_addUp_679 : decode cL_addUp 679 = .ok (.invokevirtual 16, 3) := by decide +kernel
theorem dL_addUp_682 : decode cL_addUp 682 = .ok (.if_icmp .gt 25, 3) := by decide +kernel
theorem dL_addUp_685 : decode cL_addUp 685 = .ok (.aload_n 0, 1) := by decide +kernel
theorem dL_addUp_686 : decode cL_addUp 686 = .ok (.bipush 12, 2) := by decide +kernel
theorem dL_addUp_688 : decode cL_addUp 688 = .ok (.invokevirtual 16, 3) := by decide +kernel
theorem dL_addUp_691 : decode cL_addUp 691 = .ok (.iload 6, 2) := by decide +kernel
theorem dL_addUp_693 : decode cL_addUp 693 = .ok (.if_icmp .ne 14, 3) := by decide +kernel
theorem dL_addUp_696 : decode cL_addUp 696 = .ok (.iload 5, 2) := by decide +kernel
theorem dL_addUp_698 : decode cL_addUp 698 = .ok (.iload 6, 2) := by decide +kernel
theorem dL_addUp_700 : decode cL_addUp 700 = .ok (.if_icmp .gt 7, 3) := by decide +kernel
theorem dL_addUp_703 : decode cL_addUp 703 = .ok (.iconst 1, 1) := by decide +kernel
theorem dL_addUp_704 : decode cL_addUp 704 = .ok (.goto 4, 3) := by decide +kernel
theorem dL_addUp_707 : decode cL_addUp 707 = .ok (.iconst 0, 1) := by decide +kernel
theorem dL_addUp_708 : decode cL_addUp 708 = .ok (.istore 14, 2) := by decide +kernel
theorem dL_addUp_710 : decode cL_addUp 710 = .ok (.iload 14, 2) := by decide +kernel
theorem dL_addUp_712 : decode cL_addUp 712 = .ok (.ifCond .eq 49, 3) := by decide +kernel
theorem dL_addUp_715 : decode cL_addUp 715 = .ok (.aload_n 0, 1) := by decide +kernel
theorem dL_addUp_716 : decode cL_addUp 716 = .ok (.invokevirtual 26, 3) := by decide +kernel
theorem dL_addUp_719 : decode cL_addUp 719 = .ok (.iload 8, 2) := by decide +kernel
theorem dL_addUp_721 : decode cL_addUp 721 = .ok (.ifCond .ne 7, 3) := by decide +kernel
theorem dL_addUp_724 : decode cL_addUp 724 = .ok (.iconst (-1), 1) := by decide +kernel
theorem dL_addUp_725 : decode cL_addUp 725 = .ok (.goto 5, 3) := by decide +kernel
theorem dL_addUp_728 : decode cL_addUp 728 = .ok (.iload 13, 2) := by decide +kernel
theorem dL_addUp_730 : decode cL_addUp 730 = .ok (.if_icmp .ne 31, 3) := by decide +kernel
theorem dL_addUp_733 : decode cL_addUp 733 = .ok (.aload_n 0, 1) := by decide +kernel
theorem dL_addUp_734 : decode cL_addUp 734 = .ok (.invokevirtual 30, 3) := by decide +kernel
theorem dL_addUp_737 : decode cL_addUp 737 = .ok (.iload 9, 2) := by decide +kernel
theorem dL_addUp_739 : decode cL_addUp 739 = .ok (.ifCond .ne 7, 3) := by decide +kernel
theorem dL_addUp_742 : decode cL_addUp 742 = .ok (.dconst 1, 1) := by decide +kernel
theorem dL_addUp_743 : decode cL_addUp 743 = .ok (.goto 10, 3) := by decide +kernel
theorem dL_addUp_746 : decode cL_addUp 746 = .ok (.iload 10, 2) := by decide +kernel
theorem dL_addUp_748 : decode cL_addUp 748 = .ok (.i2d, 1) := by decide +kernel
theorem dL_addUp_749 : decode cL_addUp 749 = .ok (.iload 9, 2) := by decide +kernel
theorem dL_addUp_751 : decode cL_addUp 751 = .ok (.i2d, 1) := by decide +kernel
theorem dL_addUp_752 : decode cL_addUp 752 = .ok (.ddiv, 1) := by decide +kernel
theorem dL_addUp_753 : decode cL_addUp 753 = .ok (.dcmp .l, 1) := by decide +kernel
theorem dL_addUp_754 : decode cL_addUp 754 = .ok (.ifCond .ne 7, 3) := by decide +kernel
theorem dL_addUp_757 : decode cL_addUp 757 = .ok (.iconst 1, 1) := by decide +kernel
theorem dL_addUp_758 : decode cL_addUp 758 = .ok (.goto 4, 3) := by decide +kernel
theorem dL_addUp_761 : decode cL_addUp 761 = .ok (.iconst 0, 1) := by decide +kernel
theorem dL_addUp_762 : decode cL_addUp 762 = .ok (.ireturn, 1) := by decide +kernel
theorem dL_ask_0 : decode cL_ask 0 = .ok (.aload_n 0, 1) := by decide +kernel
theorem dL_ask_1 : decode cL_ask 1 = .ok (.iload_n 1, 1) := by decide +kernel
theorem dL_ask_2 : decode cL_ask 2 = .ok (.iconst 0, 1) := by decide +kernel
theorem dL_ask_3 : decode cL_ask 3 = .ok (.invokevirtual 34, 3) := by decide +kernel
theorem dL_ask_6 : decode cL_ask 6 = .ok (.istore_n 2, 1) := by decide +kernel
theorem dL_ask_7 : decode cL_ask 7 = .ok (.aload_n 0, 1) := by decide +kernel
theorem dL_ask_8 : decode cL_ask 8 = .ok (.bipush 6, 2) := by decide +kernel
theorem dL_ask_10 : decode cL_ask 10 = .ok (.invokevirtual 16, 3) := by decide +kernel
theorem dL_ask_13 : decode cL_ask 13 = .ok (.istore_n 3, 1) := by decide +kernel
theorem dL_ask_14 : decode cL_ask 14 = .ok (.aload_n 0, 1) := by decide +kernel
theorem dL_ask_15 : decode cL_ask 15 = .ok (.iload_n 1, 1) := by decide +kernel
theorem dL_ask_16 : decode cL_ask 16 = .ok (.iconst 1, 1) := by decide +kernel
theorem dL_ask_17 : decode cL_ask 17 = .ok (.invokevirtual 34, 3) := by decide +kernel
theorem dL_ask_20 : decode cL_ask 20 = .ok (.istore 4, 2) := by decide +kernel
theorem dL_ask_22 : decode cL_ask 22 = .ok (.aload_n 0, 1) := by decide +kernel
theorem dL_ask_23 : decode cL_ask 23 = .ok (.bipush 7, 2) := by decide +kernel
theorem dL_ask_25 : decode cL_ask 25 = .ok (.invokevirtual 16, 3) := by decide +kernel
theorem dL_ask_28 : decode cL_ask 28 = .ok (.aload_n 0, 1) := by decide +kernel
theorem dL_ask_29 : decode cL_ask 29 = .ok (.iload_n 1, 1) := by decide +kernel
theorem dL_ask_30 : decode cL_ask 30 = .ok (.iconst 2, 1) := by decide +kernel
theorem dL_ask_31 : decode cL_ask 31 = .ok (.invokevirtual 34, 3) := by decide +kernel
theorem dL_ask_34 : decode cL_ask 34 = .ok (.iadd, 1) := by decide +kernel
theorem dL_ask_35 : decode cL_ask 35 = .ok (.istore 5, 2) := by decide +kernel
theorem dL_ask_37 : decode cL_ask 37 = .ok (.aload_n 0, 1) := by decide +kernel
theorem dL_ask_38 : decode cL_ask 38 = .ok (.iload_n 1, 1) := by decide +kernel
theorem dL_ask_39 : decode cL_ask 39 = .ok (.iconst 4, 1) := by decide +kernel
theorem dL_ask_40 : decode cL_ask 40 = .ok (.invokevirtual 23, 3) := by decide +kernel
theorem dL_ask_43 : decode cL_ask 43 = .ok (.istore 6, 2) := by decide +kernel
theorem dL_ask_45 : decode cL_ask 45 = .ok (.aload_n 0, 1) := by decide +kernel
theorem dL_ask_46 : decode cL_ask 46 = .ok (.iload_n 1, 1) := by decide +kernel
theorem dL_ask_47 : decode cL_ask 47 = .ok (.iconst 1, 1) := by decide +kernel
theorem dL_ask_48 : decode cL_ask 48 = .ok (.invokevirtual 23, 3) := by decide +kernel
theorem dL_ask_51 : decode cL_ask 51 = .ok (.istore 7, 2) := by decide +kernel
theorem dL_ask_53 : decode cL_ask 53 = .ok (.aload_n 0, 1) := by decide +kernel
theorem dL_ask_54 : decode cL_ask 54 = .ok (.iload_n 1, 1) := by decide +kernel
theorem dL_ask_55 : decode cL_ask 55 = .ok (.iconst 0, 1) := by decide +kernel
theorem dL_ask_56 : decode cL_ask 56 = .ok (.invokevirtual 23, 3) := by decide +kernel
theorem dL_ask_59 : decode cL_ask 59 = .ok (.ifCond .eq 12, 3) := by decide +kernel
theorem dL_ask_62 : decode cL_ask 62 = .ok (.aload_n 0, 1) := by decide +kernel
theorem dL_ask_63 : decode cL_ask 63 = .ok (.iload_n 1, 1) := by decide +kernel
theorem dL_ask_64 : decode cL_ask 64 = .ok (.iconst 2, 1) := by decide +kernel
theorem dL_ask_65 : decode cL_ask 65 = .ok (.invokevirtual 23, 3) := by decide +kernel
theorem dL_ask_68 : decode cL_ask 68 = .ok (.ifCond .lt 30, 3) := by decide +kernel
theorem dL_ask_71 : decode cL_ask 71 = .ok (.iload_n 2, 1) := by decide +kernel
theorem dL_ask_72 : decode cL_ask 72 = .ok (.iconst (-1), 1) := by decide +kernel
theorem dL_ask_73 : decode cL_ask 73 = .ok (.if_icmp .ne 23, 3) := by decide +kernel
theorem dL_ask_76 : decode cL_ask 76 = .ok (.iload 4, 2) := by decide +kernel
theorem dL_ask_78 : decode cL_ask 78 = .ok (.ifCond .ne 18, 3) := by decide +kernel
theorem dL_ask_81 : decode cL_ask 81 = .ok (.iload 5, 2) := by decide +kernel
theorem dL_ask_83 : decode cL_ask 83 = .ok (.aload_n 0, 1) := by decide +kernel
theorem dL_ask_84 : decode cL_ask 84 = .ok (.bipush 7, 2) := by decide +kernel
theorem dL_ask_86 : decode cL_ask 86 = .ok (.invokevirtual 16, 3) := by decide +kernel
theorem dL_ask_89 : decode cL_ask 89 = .ok (.if_icmp .ne 7, 3) := by decide +kernel
theorem dL_ask_92 : decode cL_ask 92 = .ok (.iconst 1, 1) := by decide +kernel
theorem dL_ask_93 : decode cL_ask 93 = .ok (.goto 4, 3) := by decide +kernel
theorem dL_ask_96 : decode cL_ask 96 = .ok (.iconst 0, 1) := by decide +kernel
theorem dL_ask_97 : decode cL_ask 97 = .ok (.ireturn, 1) := by decide +kernel
theorem dL_ask_98 : decode cL_ask 98 = .ok (.iload 7, 2) := by decide +kernel
theorem dL_ask_100 : decode cL_ask 100 = .ok (.aload_n 0, 1) := by decide +kernel
theorem dL_ask_101 : decode cL_ask 101 = .ok (.iconst 1, 1) := by decide +kernel
theorem dL_ask_102 : decode cL_ask 102 = .ok (.invokevirtual 20, 3) := by decide +kernel
theorem dL_ask_105 : decode cL_ask 105 = .ok (.if_icmp .ge 7, 3) := by decide +kernel
theorem dL_ask_108 : decode cL_ask 108 = .ok (.iconst 1, 1) := by decide +kernel
theorem dL_ask_109 : decode cL_ask 109 = .ok (.goto 4, 3) := by decide +kernel
theorem dL_ask_112 : decode cL_ask 112 = .ok (.iconst 0, 1) := by decide +kernel
theorem dL_ask_113 : decode cL_ask 113 = .ok (.istore 8, 2) := by decide +kernel
theorem dL_ask_115 : decode cL_ask 115 = .ok (.aload_n 0, 1) := by decide +kernel
theorem dL_ask_116 : decode cL_ask 116 = .ok (.iload_n 1, 1) := by decide +kernel
theorem dL_ask_117 : decode cL_ask 117 = .ok (.invokevirtual 37, 3) := by decide +kernel
theorem dL_ask_120 : decode cL_ask 120 = .ok (.iload_n 2, 1) := by decide +kernel
theorem dL_ask_121 : decode cL_ask 121 = .ok (.if_icmp .ne 40, 3) := by decide +kernel
theorem dL_ask_124 : decode cL_ask 124 = .ok (.aload_n 0, 1) := by decide +kernel
theorem dL_ask_125 : decode cL_ask 125 = .ok (.bipush 7, 2) := by decide +kernel
theorem dL_ask_127 : decode cL_ask 127 = .ok (.invokevirtual 16, 3) := by decide +kernel
theorem dL_ask_130 : decode cL_ask 130 = .ok (.iload 5, 2) := by decide +kernel
theorem dL_ask_132 : decode cL_ask 132 = .ok (.if_icmp .ne 29, 3) := by decide +kernel
theorem dL_ask_135 : decode cL_ask 135 = .ok (.aload_n 0, 1) := by decide +kernel
theorem dL_ask_136 : decode cL_ask 136 = .ok (.bipush 6, 2) := by decide +kernel
theorem dL_ask_138 : decode cL_ask 138 = .ok (.invokevirtual 16, 3) := by decide +kernel
theorem dL_ask_141 : decode cL_ask 141 = .ok (.iload_n 3, 1) := by decide +kernel
theorem dL_ask_142 : decode cL_ask 142 = .ok (.iload 4, 2) := by decide +kernel
theorem dL_ask_144 : decode cL_ask 144 = .ok (.iadd, 1) := by decide +kernel
theorem dL_ask_145 : decode cL_ask 145 = .ok (.if_icmp .lt 16, 3) := by decide +kernel
theorem dL_ask_148 : decode cL_ask 148 = .ok (.iload_n 2, 1) := by decide +kernel
theorem dL_ask_149 : decode cL_ask 149 = .ok (.ifCond .lt 8, 3) := by decide +kernel
theorem dL_ask_152 : decode cL_ask 152 = .ok (.iload 8, 2) := by decide +kernel
theorem dL_ask_154 : decode cL_ask 154 = .ok (.ifCond .eq 7, 3) := by decide +kernel
theorem dL_ask_157 : decode cL_ask 157 = .ok (.iconst 1, 1) := by decide +kernel
theorem dL_ask_158 : decode cL_ask 158 = .ok (.goto 4, 3) := by decide +kernel
theorem dL_ask_161 : decode cL_ask 161 = .ok (.iconst 0, 1) := by decide +kernel
theorem dL_ask_162 : decode cL_ask 162 = .ok (.istore 9, 2) := by decide +kernel
theorem dL_ask_164 : decode cL_ask 164 = .ok (.iload_n 2, 1) := by decide +kernel
theorem dL_ask_165 : decode cL_ask 165 = .ok (.ifCond .ge 50, 3) := by decide +kernel
theorem dL_ask_168 : decode cL_ask 168 = .ok (.iload 9, 2) := by decide +kernel
theorem dL_ask_170 : decode cL_ask 170 = .ok (.ifCond .eq 43, 3) := by decide +kernel
theorem dL_ask_173 : decode cL_ask 173 = .ok (.aload_n 0, 1) := by decide +kernel
theorem dL_ask_174 : decode cL_ask 174 = .ok (.iload_n 1, 1) := by decide +kernel
theorem dL_ask_175 : decode cL_ask 175 = .ok (.iconst 2, 1) := by decide +kernel
theorem dL_ask_176 : decode cL_ask 176 = .ok (.invokevirtual 23, 3) := by decide +kernel
theorem dL_ask_179 : decode cL_ask 179 = .ok (.aload_n 0, 1) := by decide +kernel
theorem dL_ask_180 : decode cL_ask 180 = .ok (.iconst 5, 1) := by decide +kernel
theorem dL_ask_181 : decode cL_ask 181 = .ok (.invokevirtual 16, 3) := by decide +kernel
theorem dL_ask_184 : decode cL_ask 184 = .ok (.iconst 1, 1) := by decide +kernel
theorem dL_ask_185 : decode cL_ask 185 = .ok (.isub, 1) := by decide +kernel
theorem dL_ask_186 : decode cL_ask 186 = .ok (.if_icmp .ne 27, 3) := by decide +kernel
theorem dL_ask_189 : decode cL_ask 189 = .ok (.aload_n 0, 1) := by decide +kernel
theorem dL_ask_190 : decode cL_ask 190 = .ok (.iload_n 1, 1) := by decide +kernel
theorem dL_ask_191 : decode cL_ask 191 = .ok (.iconst 3, 1) := by decide +kernel
theorem dL_ask_192 : decode cL_ask 192 = .ok (.invokevirtual 23, 3) := by decide +kernel
theorem dL_ask_195 : decode cL_ask 195 = .ok (.ifCond .ne 18, 3) := by decide +kernel
theorem dL_ask_198 : decode cL_ask 198 = .ok (.aload_n 0, 1) := by decide +kernel
theorem dL_ask_199 : decode cL_ask 199 = .ok (.iload_n 1, 1) := by decide +kernel
theorem dL_ask_200 : decode cL_ask 200 = .ok (.iconst 4, 1) := by decide +kernel
theorem dL_ask_201 : decode cL_ask 201 = .ok (.invokevirtual 23, 3) := by decide +kernel
theorem dL_ask_204 : decode cL_ask 204 = .ok (.iload 6, 2) := by decide +kernel
theorem dL_ask_206 : decode cL_ask 206 = .ok (.if_icmp .ne 7, 3) := by decide +kernel
theorem dL_ask_209 : decode cL_ask 209 = .ok (.iconst 1, 1) := by decide +kernel
theorem dL_ask_210 : decode cL_ask 210 = .ok (.goto 4, 3) := by decide +kernel
theorem dL_ask_213 : decode cL_ask 213 = .ok (.iconst 0, 1) := by decide +kernel
theorem dL_ask_214 : decode cL_ask 214 = .ok (.ireturn, 1) := by decide +kernel
theorem dL_ask_215 : decode cL_ask 215 = .ok (.iload 9, 2) := by decide +kernel
theorem dL_ask_217 : decode cL_ask 217 = .ok (.ifCond .eq 104, 3) := by decide +kernel
theorem dL_ask_220 : decode cL_ask 220 = .ok (.aload_n 0, 1) := by decide +kernel
theorem dL_ask_221 : decode cL_ask 221 = .ok (.iload_n 2, 1) := by decide +kernel
theorem dL_ask_222 : decode cL_ask 222 = .ok (.iconst 0, 1) := by decide +kernel
theorem dL_ask_223 : decode cL_ask 223 = .ok (.invokevirtual 10, 3) := by decide +kernel
theorem dL_ask_226 : decode cL_ask 226 = .ok (.iconst 2, 1) := by decide +kernel
theorem dL_ask_227 : decode cL_ask 227 = .ok (.if_icmp .ne 94, 3) := by decide +kernel
theorem dL_ask_230 : decode cL_ask 230 = .ok (.aload_n 0, 1) := by decide +kernel
theorem dL_ask_231 : decode cL_ask 231 = .ok (.iload_n 2, 1) := by decide +kernel
theorem dL_ask_232 : decode cL_ask 232 = .ok (.iconst 1, 1) := by decide +kernel
theorem dL_ask_233 : decode cL_ask 233 = .ok (.invokevirtual 10, 3) := by decide +kernel
theorem dL_ask_236 : decode cL_ask 236 = .ok (.iload_n 1, 1) := by decide +kernel
theorem dL_ask_237 : decode cL_ask 237 = .ok (.if_icmp .ne 84, 3) := by decide +kernel
theorem dL_ask_240 : decode cL_ask 240 = .ok (.aload_n 0, 1) := by decide +kernel
theorem dL_ask_241 : decode cL_ask 241 = .ok (.iload_n 2, 1) := by decide +kernel
theorem dL_ask_242 : decode cL_ask 242 = .ok (.iconst 4, 1) := by decide +kernel
theorem dL_ask_243 : decode cL_ask 243 = .ok (.invokevirtual 10, 3) := by decide +kernel
theorem dL_ask_246 : decode cL_ask 246 = .ok (.ifCond .ne 75, 3) := by decide +kernel
theorem dL_ask_249 : decode cL_ask 249 = .ok (.aload_n 0, 1) := by decide +kernel
theorem dL_ask_250 : decode cL_ask 250 = .ok (.iload_n 1, 1) := by decide +kernel
theorem dL_ask_251 : decode cL_ask 251 = .ok (.iconst 2, 1) := by decide +kernel
theorem dL_ask_252 : decode cL_ask 252 = .ok (.invokevirtual 23, 3) := by decide +kernel
theorem dL_ask_255 : decode cL_ask 255 = .ok (.iconst (-1), 1) := by decide +kernel
theorem dL_ask_256 : decode cL_ask 256 = .ok (.if_icmp .ne 65, 3) := by decide +kernel
theorem dL_ask_259 : decode cL_ask 259 = .ok (.aload_n 0, 1) := by decide +kernel
theorem dL_ask_260 : decode cL_ask 260 = .ok (.iload_n 1, 1) := by decide +kernel
theorem dL_ask_261 : decode cL_ask 261 = .ok (.iconst 4, 1) := by decide +kernel
theorem dL_ask_262 : decode cL_ask 262 = .ok (.invokevirtual 23, 3) := by decide +kernel
theorem dL_ask_265 : decode cL_ask 265 = .ok (.iload 6, 2) := by decide +kernel
theorem dL_ask_267 : decode cL_ask 267 = .ok (.iconst 1, 1) := by decide +kernel
theorem dL_ask_268 : decode cL_ask 268 = .ok (.iadd, 1) := by decide +kernel
theorem dL_ask_269 : decode cL_ask 269 = .ok (.if_icmp .ne 52, 3) := by decide +kernel
theorem dL_ask_272 : decode cL_ask 272 = .ok (.aload_n 0, 1) := by decide +kernel
theorem dL_ask_273 : decode cL_ask 273 = .ok (.iload_n 1, 1) := by decide +kernel
theorem dL_ask_274 : decode cL_ask 274 = .ok (.iconst 1, 1) := by decide +kernel
theorem dL_ask_275 : decode cL_ask 275 = .ok (.invokevirtual 23, 3) := by decide +kernel
theorem dL_ask_278 : decode cL_ask 278 = .ok (.iload 7, 2) := by decide +kernel
theorem dL_ask_280 : decode cL_ask 280 = .ok (.iconst 1, 1) := by decide +kernel
theorem dL_ask_281 : decode cL_ask 281 = .ok (.iadd, 1) := by decide +kernel
theorem dL_ask_282 : decode cL_ask 282 = .ok (.if_icmp .ne 39, 3) := by decide +kernel
theorem dL_ask_285 : decode cL_ask 285 = .ok (.aload_n 0, 1) := by decide +kernel
theorem dL_ask_286 : decode cL_ask 286 = .ok (.iconst 4, 1) := by decide +kernel
theorem dL_ask_287 : decode cL_ask 287 = .ok (.invokevirtual 20, 3) := by decide +kernel
theorem dL_ask_290 : decode cL_ask 290 = .ok (.ifCond .eq 12, 3) := by decide +kernel
theorem dL_ask_293 : decode cL_ask 293 = .ok (.aload_n 0, 1) := by decide +kernel
theorem dL_ask_294 : decode cL_ask 294 = .ok (.iload_n 2, 1) := by decide +kernel
theorem dL_ask_295 : decode cL_ask 295 = .ok (.iconst 2, 1) := by decide +kernel
theorem dL_ask_296 : decode cL_ask 296 = .ok (.invokevirtual 10, 3) := by decide +kernel
theorem dL_ask_299 : decode cL_ask 299 = .ok (.ifCond .ne 22, 3) := by decide +kernel
theorem dL_ask_302 : decode cL_ask 302 = .ok (.iload 4, 2) := by decide +kernel
theorem dL_ask_304 : decode cL_ask 304 = .ok (.ifCond .eq 13, 3) := by decide +kernel
theorem dL_ask_307 : decode cL_ask 307 = .ok (.aload_n 0, 1) := by decide +kernel
theorem dL_ask_308 : decode cL_ask 308 = .ok (.iload_n 2, 1) := by decide +kernel
theorem dL_ask_309 : decode cL_ask 309 = .ok (.iconst 3, 1) := by decide +kernel
theorem dL_ask_310 : decode cL_ask 310 = .ok (.invokevirtual 10, 3) := by decide +kernel
theorem dL_ask_313 : decode cL_ask 313 = .ok (.iconst 1, 1) := by decide +kernel
theorem dL_ask_314 : decode cL_ask 314 = .ok (.if_icmp .ne 7, 3) := by decide +kernel
theorem dL_ask_317 : decode cL_ask 317 = .ok (.iconst 1, 1) := by decide +kernel
theorem dL_ask_318 : decode cL_ask 318 = .ok (.goto 4, 3) := by decide +kernel
theorem dL_ask_321 : decode cL_ask 321 = .ok (.iconst 0, 1) := by decide +kernel
theorem dL_ask_322 : decode cL_ask 322 = .ok (.ireturn, 1) := by decide +kernel
theorem dL_give_0 : decode cL_give 0 = .ok (.aload_n 0, 1) := by decide +kernel
theorem dL_give_1 : decode cL_give 1 = .ok (.iload_n 1, 1) := by decide +kernel
theorem dL_give_2 : decode cL_give 2 = .ok (.iconst 1, 1) := by decide +kernel
theorem dL_give_3 : decode cL_give 3 = .ok (.invokevirtual 10, 3) := by decide +kernel
theorem dL_give_6 : decode cL_give 6 = .ok (.istore_n 2, 1) := by decide +kernel
theorem dL_give_7 : decode cL_give 7 = .ok (.iload_n 2, 1) := by decide +kernel
theorem dL_give_8 : decode cL_give 8 = .ok (.ifCond .lt 12, 3) := by decide +kernel
theorem dL_give_11 : decode cL_give 11 = .ok (.aload_n 0, 1) := by decide +kernel
theorem dL_give_12 : decode cL_give 12 = .ok (.iload_n 2, 1) := by decide +kernel
theorem dL_give_13 : decode cL_give 13 = .ok (.iconst 0, 1) := by decide +kernel
theorem dL_give_14 : decode cL_give 14 = .ok (.invokevirtual 23, 3) := by decide +kernel
theorem dL_give_17 : decode cL_give 17 = .ok (.ifCond .ne 5, 3) := by decide +kernel
theorem dL_give_20 : decode cL_give 20 = .ok (.iconst 1, 1) := by decide +kernel
theorem dL_give_21 : decode cL_give 21 = .ok (.ireturn, 1) := by decide +kernel
theorem dL_give_22 : decode cL_give 22 = .ok (.aload_n 0, 1) := by decide +kernel
theorem dL_give_23 : decode cL_give 23 = .ok (.iconst 5, 1) := by decide +kernel
theorem dL_give_24 : decode cL_give 24 = .ok (.invokevirtual 16, 3) := by decide +kernel
theorem dL_give_27 : decode cL_give 27 = .ok (.istore_n 3, 1) := by decide +kernel
theorem dL_give_28 : decode cL_give 28 = .ok (.aload_n 0, 1) := by decide +kernel
theorem dL_give_29 : decode cL_give 29 = .ok (.iload_n 1, 1) := by decide +kernel
theorem dL_give_30 : decode cL_give 30 = .ok (.invokevirtual 40, 3) := by decide +kernel
theorem dL_give_33 : decode cL_give 33 = .ok (.istore 4, 2) := by decide +kernel
theorem dL_give_35 : decode cL_give 35 = .ok (.iload 4, 2) := by decide +kernel
theorem dL_give_37 : decode cL_give 37 = .ok (.aload_n 0, 1) := by decide +kernel
theorem dL_give_38 : decode cL_give 38 = .ok (.iload_n 1, 1) := by decide +kernel
theorem dL_give_39 : decode cL_give 39 = .ok (.iconst 1, 1) := by decide +kernel
theorem dL_give_40 : decode cL_give 40 = .ok (.invokevirtual 10, 3) := by decide +kernel
theorem dL_give_43 : decode cL_give 43 = .ok (.if_icmp .ne 22, 3) := by decide +kernel
theorem dL_give_46 : decode cL_give 46 = .ok (.iload 4, 2) := by decide +kernel
theorem dL_give_48 : decode cL_give 48 = .ok (.ifCond .lt 13, 3) := by decide +kernel
theorem dL_give_51 : decode cL_give 51 = .ok (.aload_n 0, 1) := by decide +kernel
theorem dL_give_52 : decode cL_give 52 = .ok (.iload_n 1, 1) := by decide +kernel
theorem dL_give_53 : decode cL_give 53 = .ok (.iconst 0, 1) := by decide +kernel
theorem dL_give_54 : decode cL_give 54 = .ok (.invokevirtual 10, 3) := by decide +kernel
theorem dL_give_57 : decode cL_give 57 = .ok (.iconst 2, 1) := by decide +kernel
theorem dL_give_58 : decode cL_give 58 = .ok (.if_icmp .ne 7, 3) := by decide +kernel
theorem dL_give_61 : decode cL_give 61 = .ok (.iconst 1, 1) := by decide +kernel
theorem dL_give_62 : decode cL_give 62 = .ok (.goto 4, 3) := by decide +kernel
theorem dL_give_65 : decode cL_give 65 = .ok (.iconst 0, 1) := by decide +kernel
theorem dL_give_66 : decode cL_give 66 = .ok (.istore 5, 2) := by decide +kernel
theorem dL_give_68 : decode cL_give 68 = .ok (.iload 5, 2) := by decide +kernel
theorem dL_give_70 : decode cL_give 70 = .ok (.ifCond .eq 36, 3) := by decide +kernel
theorem dL_give_73 : decode cL_give 73 = .ok (.iload_n 3, 1) := by decide +kernel
theorem dL_give_74 : decode cL_give 74 = .ok (.ifCond .gt 28, 3) := by decide +kernel
theorem dL_give_77 : decode cL_give 77 = .ok (.iload 4, 2) := by decide +kernel
theorem dL_give_79 : decode cL_give 79 = .ok (.iconst (-1), 1) := by decide +kernel
theorem dL_give_80 : decode cL_give 80 = .ok (.if_icmp .ne 26, 3) := by decide +kernel
theorem dL_give_83 : decode cL_give 83 = .ok (.aload_n 0, 1) := by decide +kernel
theorem dL_give_84 : decode cL_give 84 = .ok (.iload_n 1, 1) := by decide +kernel
theorem dL_give_85 : decode cL_give 85 = .ok (.iconst 0, 1) := by decide +kernel
theorem dL_give_86 : decode cL_give 86 = .ok (.invokevirtual 10, 3) := by decide +kernel
theorem dL_give_89 : decode cL_give 89 = .ok (.iconst 1, 1) := by decide +kernel
theorem dL_give_90 : decode cL_give 90 = .ok (.if_icmp .ne 16, 3) := by decide +kernel
theorem dL_give_93 : decode cL_give 93 = .ok (.aload_n 0, 1) := by decide +kernel
theorem dL_give_94 : decode cL_give 94 = .ok (.iload_n 1, 1) := by decide +kernel
theorem dL_give_95 : decode cL_give 95 = .ok (.iconst 4, 1) := by decide +kernel
theorem dL_give_96 : decode cL_give 96 = .ok (.invokevirtual 10, 3) := by decide +kernel
theorem dL_give_99 : decode cL_give 99 = .ok (.ifCond .ne 7, 3) := by decide +kernel
theorem dL_give_102 : decode cL_give 102 = .ok (.iconst 1, 1) := by decide +kernel
theorem dL_give_103 : decode cL_give 103 = .ok (.goto 4, 3) := by decide +kernel
theorem dL_give_106 : decode cL_give 106 = .ok (.iconst 0, 1) := by decide +kernel
theorem dL_give_107 : decode cL_give 107 = .ok (.ireturn, 1) := by decide +kernel
theorem dL_pass_0 : decode cL_pass 0 = .ok (.aload_n 0, 1) := by decide +kernel
theorem dL_pass_1 : decode cL_pass 1 = .ok (.iload_n 1, 1) := by decide +kernel
theorem dL_pass_2 : decode cL_pass 2 = .ok (.iconst 0, 1) := by decide +kernel
theorem dL_pass_3 : decode cL_pass 3 = .ok (.invokevirtual 43, 3) := by decide +kernel
theorem dL_pass_6 : decode cL_pass 6 = .ok (.istore_n 3, 1) := by decide +kernel
theorem dL_pass_7 : decode cL_pass 7 = .ok (.aload_n 0, 1) := by decide +kernel
theorem dL_pass_8 : decode cL_pass 8 = .ok (.bipush 7, 2) := by decide +kernel
theorem dL_pass_10 : decode cL_pass 10 = .ok (.invokevirtual 16, 3) := by decide +kernel
theorem dL_pass_13 : decode cL_pass 13 = .ok (.aload_n 0, 1) := by decide +kernel
theorem dL_pass_14 : decode cL_pass 14 = .ok (.iload_n 1, 1) := by decide +kernel
theorem dL_pass_15 : decode cL_pass 15 = .ok (.iconst 1, 1) := by decide +kernel
theorem dL_pass_16 : decode cL_pass 16 = .ok (.invokevirtual 43, 3) := by decide +kernel
theorem dL_pass_19 : decode cL_pass 19 = .ok (.iadd, 1) := by decide +kernel
theorem dL_pass_20 : decode cL_pass 20 = .ok (.istore 4, 2) := by decide +kernel
theorem dL_pass_22 : decode cL_pass 22 = .ok (.aload_n 0, 1) := by decide +kernel
theorem dL_pass_23 : decode cL_pass 23 = .ok (.iload_n 1, 1) := by decide +kernel
theorem dL_pass_24 : decode cL_pass 24 = .ok (.iconst 2, 1) := by decide +kernel
theorem dL_pass_25 : decode cL_pass 25 = .ok (.invokevirtual 43, 3) := by decide +kernel
theorem dL_pass_28 : decode cL_pass 28 = .ok (.istore 5, 2) := by decide +kernel
theorem dL_pass_30 : decode cL_pass 30 = .ok (.aload_n 0, 1) := by decide +kernel
theorem dL_pass_31 : decode cL_pass 31 = .ok (.iload_n 1, 1) := by decide +kernel
theorem dL_pass_32 : decode cL_pass 32 = .ok (.iconst 3, 1) := by decide +kernel
theorem dL_pass_33 : decode cL_pass 33 = .ok (.invokevirtual 43, 3) := by decide +kernel
theorem dL_pass_36 : decode cL_pass 36 = .ok (.istore 6, 2) := by decide +kernel
theorem dL_pass_38 : decode cL_pass 38 = .ok (.aload_n 0, 1) := by decide +kernel
theorem dL_pass_39 : decode cL_pass 39 = .ok (.iload_n 2, 1) := by decide +kernel
theorem dL_pass_40 : decode cL_pass 40 = .ok (.invokevirtual 46, 3) := by decide +kernel
theorem dL_pass_43 : decode cL_pass 43 = .ok (.istore 7, 2) := by decide +kernel
theorem dL_pass_45 : decode cL_pass 45 = .ok (.aload_n 0, 1) := by decide +kernel
theorem dL_pass_46 : decode cL_pass 46 = .ok (.iload_n 2, 1) := by decide +kernel
theorem dL_pass_47 : decode cL_pass 47 = .ok (.iconst 2, 1) := by decide +kernel
theorem dL_pass_48 : decode cL_pass 48 = .ok (.invokevirtual 23, 3) := by decide +kernel
theorem dL_pass_51 : decode cL_pass 51 = .ok (.ifCond .lt 7, 3) := by decide +kernel
theorem dL_pass_54 : decode cL_pass 54 = .ok (.iconst 1, 1) := by decide +kernel
theorem dL_pass_55 : decode cL_pass 55 = .ok (.goto 4, 3) := by decide +kernel
theorem dL_pass_58 : decode cL_pass 58 = .ok (.iconst 0, 1) := by decide +kernel
theorem dL_pass_59 : decode cL_pass 59 = .ok (.istore 8, 2) := by decide +kernel
theorem dL_pass_61 : decode cL_pass 61 = .ok (.aload_n 0, 1) := by decide +kernel
theorem dL_pass_62 : decode cL_pass 62 = .ok (.iload_n 2, 1) := by decide +kernel
theorem dL_pass_63 : decode cL_pass 63 = .ok (.iconst 3, 1) := by decide +kernel
theorem dL_pass_64 : decode cL_pass 64 = .ok (.invokevirtual 23, 3) := by decide +kernel
theorem dL_pass_67 : decode cL_pass 67 = .ok (.istore 9, 2) := by decide +kernel
theorem dL_pass_69 : decode cL_pass 69 = .ok (.aload_n 0, 1) := by decide +kernel
theorem dL_pass_70 : decode cL_pass 70 = .ok (.iload_n 2, 1) := by decide +kernel
theorem dL_pass_71 : decode cL_pass 71 = .ok (.iconst 4, 1) := by decide +kernel
theorem dL_pass_72 : decode cL_pass 72 = .ok (.invokevirtual 23, 3) := by decide +kernel
theorem dL_pass_75 : decode cL_pass 75 = .ok (.istore 10, 2) := by decide +kernel
theorem dL_pass_77 : decode cL_pass 77 = .ok (.aload_n 0, 1) := by decide +kernel
theorem dL_pass_78 : decode cL_pass 78 = .ok (.iload_n 2, 1) := by decide +kernel
theorem dL_pass_79 : decode cL_pass 79 = .ok (.iconst 5, 1) := by decide +kernel
theorem dL_pass_80 : decode cL_pass 80 = .ok (.invokevirtual 23, 3) := by decide +kernel
theorem dL_pass_83 : decode cL_pass 83 = .ok (.istore 11, 2) := by decide +kernel
theorem dL_pass_85 : decode cL_pass 85 = .ok (.aload_n 0, 1) := by decide +kernel
theorem dL_pass_86 : decode cL_pass 86 = .ok (.iload_n 2, 1) := by decide +kernel
theorem dL_pass_87 : decode cL_pass 87 = .ok (.bipush 6, 2) := by decide +kernel
theorem dL_pass_89 : decode cL_pass 89 = .ok (.invokevirtual 23, 3) := by decide +kernel
theorem dL_pass_92 : decode cL_pass 92 = .ok (.istore 12, 2) := by decide +kernel
theorem dL_pass_94 : decode cL_pass 94 = .ok (.aload_n 0, 1) := by decide +kernel
theorem dL_pass_95 : decode cL_pass 95 = .ok (.iconst 0, 1) := by decide +kernel
theorem dL_pass_96 : decode cL_pass 96 = .ok (.invokevirtual 16, 3) := by decide +kernel
theorem dL_pass_99 : decode cL_pass 99 = .ok (.istore 13, 2) := by decide +kernel
theorem dL_pass_101 : decode cL_pass 101 = .ok (.aload_n 0, 1) := by decide +kernel
theorem dL_pass_102 : decode cL_pass 102 = .ok (.iload_n 1, 1) := by decide +kernel
theorem dL_pass_103 : decode cL_pass 103 = .ok (.invokevirtual 49, 3) := by decide +kernel
theorem dL_pass_106 : decode cL_pass 106 = .ok (.iload_n 3, 1) := by decide +kernel
theorem dL_pass_107 : decode cL_pass 107 = .ok (.if_icmp .ne 46, 3) := by decide +kernel
theorem dL_pass_110 : decode cL_pass 110 = .ok (.aload_n 0, 1) := by decide +kernel
theorem dL_pass_111 : decode cL_pass 111 = .ok (.bipush 7, 2) := by decide +kernel
theorem dL_pass_113 : decode cL_pass 113 = .ok (.invokevirtual 16, 3) := by decide +kernel
theorem dL_pass_116 : decode cL_pass 116 = .ok (.iload 4, 2) := by decide +kernel
theorem dL_pass_118 : decode cL_pass 118 = .ok (.if_icmp .ne 35, 3) := by decide +kernel
theorem dL_pass_121 : decode cL_pass 121 = .ok (.aload_n 0, 1) := by decide +kernel
theorem dL_pass_122 : decode cL_pass 122 = .ok (.iconst 1, 1) := by decide +kernel
theorem dL_pass_123 : decode cL_pass 123 = .ok (.invokevirtual 16, 3) := by decide +kernel
theorem dL_pass_126 : decode cL_pass 126 = .ok (.iload 5, 2) := by decide +kernel
theorem dL_pass_128 : decode cL_pass 128 = .ok (.if_icmp .ne 25, 3) := by decide +kernel
theorem dL_pass_131 : decode cL_pass 131 = .ok (.aload_n 0, 1) := by decide +kernel
theorem dL_pass_132 : decode cL_pass 132 = .ok (.iconst 5, 1) := by decide +kernel
theorem dL_pass_133 : decode cL_pass 133 = .ok (.invokevirtual 16, 3) := by decide +kernel
theorem dL_pass_136 : decode cL_pass 136 = .ok (.iload 6, 2) := by decide +kernel
theorem dL_pass_138 : decode cL_pass 138 = .ok (.if_icmp .ne 15, 3) := by decide +kernel
theorem dL_pass_141 : decode cL_pass 141 = .ok (.aload_n 0, 1) := by decide +kernel
theorem dL_pass_142 : decode cL_pass 142 = .ok (.iconst 0, 1) := by decide +kernel
theorem dL_pass_143 : decode cL_pass 143 = .ok (.invokevirtual 16, 3) := by decide +kernel
theorem dL_pass_146 : decode cL_pass 146 = .ok (.iload 13, 2) := by decide +kernel
theorem dL_pass_148 : decode cL_pass 148 = .ok (.iload_n 1, 1) := by decide +kernel
theorem dL_pass_149 : decode cL_pass 149 = .ok (.iadd, 1) := by decide +kernel
theorem dL_pass_150 : decode cL_pass 150 = .ok (.if_icmp .eq 5, 3) := by decide +kernel
theorem dL_pass_153 : decode cL_pass 153 = .ok (.iconst 0, 1) := by decide +kernel
theorem dL_pass_154 : decode cL_pass 154 = .ok (.ireturn, 1) := by decide +kernel
theorem dL_pass_155 : decode cL_pass 155 = .ok (.iload 8, 2) := by decide +kernel
theorem dL_pass_157 : decode cL_pass 157 = .ok (.ifCond .ne 26, 3) := by decide +kernel
theorem dL_pass_160 : decode cL_pass 160 = .ok (.iload 7, 2) := by decide +kernel
theorem dL_pass_162 : decode cL_pass 162 = .ok (.iconst (-1), 1) := by decide +kernel
theorem dL_pass_163 : decode cL_pass 163 = .ok (.if_icmp .ne 18, 3) := by decide +kernel
theorem dL_pass_166 : decode cL_pass 166 = .ok (.aload_n 0, 1) := by decide +kernel
theorem dL_pass_167 : decode cL_pass 167 = .ok (.iload_n 2, 1) := by decide +kernel
theorem dL_pass_168 : decode cL_pass 168 = .ok (.iconst 4, 1) := by decide +kernel
theorem dL_pass_169 : decode cL_pass 169 = .ok (.invokevirtual 23, 3) := by decide +kernel
theorem dL_pass_172 : decode cL_pass 172 = .ok (.iload 10, 2) := by decide +kernel
theorem dL_pass_174 : decode cL_pass 174 = .ok (.if_icmp .ne 7, 3) := by decide +kernel
theorem dL_pass_177 : decode cL_pass 177 = .ok (.iconst 1, 1) := by decide +kernel
theorem dL_pass_178 : decode cL_pass 178 = .ok (.goto 4, 3) := by decide +kernel
theorem dL_pass_181 : decode cL_pass 181 = .ok (.iconst 0, 1) := by decide +kernel
theorem dL_pass_182 : decode cL_pass 182 = .ok (.ireturn, 1) := by decide +kernel
theorem dL_pass_183 : decode cL_pass 183 = .ok (.iload 9, 2) := by decide +kernel
theorem dL_pass_185 : decode cL_pass 185 = .ok (.aload_n 0, 1) := by decide +kernel
theorem dL_pass_186 : decode cL_pass 186 = .ok (.bipush 8, 2) := by decide +kernel
theorem dL_pass_188 : decode cL_pass 188 = .ok (.invokevirtual 20, 3) := by decide +kernel
theorem dL_pass_191 : decode cL_pass 191 = .ok (.if_icmp .lt 7, 3) := by decide +kernel
theorem dL_pass_194 : decode cL_pass 194 = .ok (.iconst 1, 1) := by decide +kernel
theorem dL_pass_195 : decode cL_pass 195 = .ok (.goto 12, 3) := by decide +kernel
theorem dL_pass_198 : decode cL_pass 198 = .ok (.aload_n 0, 1) := by decide +kernel
theorem dL_pass_199 : decode cL_pass 199 = .ok (.bipush 8, 2) := by decide +kernel
theorem dL_pass_201 : decode cL_pass 201 = .ok (.invokevirtual 20, 3) := by decide +kernel
theorem dL_pass_204 : decode cL_pass 204 = .ok (.iload 9, 2) := by decide +kernel
theorem dL_pass_206 : decode cL_pass 206 = .ok (.isub, 1) := by decide +kernel
theorem dL_pass_207 : decode cL_pass 207 = .ok (.istore 14, 2) := by decide +kernel
theorem dL_pass_209 : decode cL_pass 209 = .ok (.iload 7, 2) := by decide +kernel
theorem dL_pass_211 : decode cL_pass 211 = .ok (.ifCond .lt 13, 3) := by decide +kernel
theorem dL_pass_214 : decode cL_pass 214 = .ok (.iload 7, 2) := by decide +kernel
theorem dL_pass_216 : decode cL_pass 216 = .ok (.iload_n 1, 1) := by decide +kernel
theorem dL_pass_217 : decode cL_pass 217 = .ok (.if_icmp .gt 7, 3) := by decide +kernel
theorem dL_pass_220 : decode cL_pass 220 = .ok (.iconst 1, 1) := by decide +kernel
theorem dL_pass_221 : decode cL_pass 221 = .ok (.goto 4, 3) := by decide +kernel
theorem dL_pass_224 : decode cL_pass 224 = .ok (.iconst 0, 1) := by decide +kernel
theorem dL_pass_225 : decode cL_pass 225 = .ok (.istore 15, 2) := by decide +kernel
theorem dL_pass_227 : decode cL_pass 227 = .ok (.iload 7, 2) := by decide +kernel
theorem dL_pass_229 : decode cL_pass 229 = .ok (.ifCond .ge 13, 3) := by decide +kernel
theorem dL_pass_232 : decode cL_pass 232 = .ok (.iload 14, 2) := by decide +kernel
theorem dL_pass_234 : decode cL_pass 234 = .ok (.iload_n 1, 1) := by decide +kernel
theorem dL_pass_235 : decode cL_pass 235 = .ok (.if_icmp .gt 7, 3) := by decide +kernel
theorem dL_pass_238 : decode cL_pass 238 = .ok (.iconst 1, 1) := by decide +kernel
theorem dL_pass_239 : decode cL_pass 239 = .ok (.goto 4, 3) := by decide +kernel
theorem dL_pass_242 : decode cL_pass 242 = .ok (.iconst 0, 1) := by decide +kernel
theorem dL_pass_243 : decode cL_pass 243 = .ok (.istore 16, 2) := by decide +kernel
theorem dL_pass_245 : decode cL_pass 245 = .ok (.iload 7, 2) := by decide +kernel
theorem dL_pass_247 : decode cL_pass 247 = .ok (.ifCond .lt 16, 3) := by decide +kernel
theorem dL_pass_250 : decode cL_pass 250 = .ok (.iload 7, 2) := by decide +kernel
theorem dL_pass_252 : decode cL_pass 252 = .ok (.iconst 1, 1) := by decide +kernel
theorem dL_pass_253 : decode cL_pass 253 = .ok (.if_icmp .lt 14, 3) := by decide +kernel
theorem dL_pass_256 : decode cL_pass 256 = .ok (.iload 7, 2) := by decide +kernel
theorem dL_pass_258 : decode cL_pass 258 = .ok (.iload 14, 2) := by decide +kernel
theorem dL_pass_260 : decode cL_pass 260 = .ok (.if_icmp .ge 7, 3) := by decide +kernel
theorem dL_pass_263 : decode cL_pass 263 = .ok (.iconst 1, 1) := by decide +kernel
theorem dL_pass_264 : decode cL_pass 264 = .ok (.goto 4, 3) := by decide +kernel
theorem dL_pass_267 : decode cL_pass 267 = .ok (.iconst 0, 1) := by decide +kernel
theorem dL_pass_268 : decode cL_pass 268 = .ok (.istore 17, 2) := by decide +kernel
theorem dL_pass_270 : decode cL_pass 270 = .ok (.iload 17, 2) := by decide +kernel
theorem dL_pass_272 : decode cL_pass 272 = .ok (.ifCond .eq 83, 3) := by decide +kernel
theorem dL_pass_275 : decode cL_pass 275 = .ok (.aload_n 0, 1) := by decide +kernel
theorem dL_pass_276 : decode cL_pass 276 = .ok (.iload_n 2, 1) := by decide +kernel
theorem dL_pass_277 : decode cL_pass 277 = .ok (.iconst 4, 1) := by decide +kernel
theorem dL_pass_278 : decode cL_pass 278 = .ok (.invokevirtual 23, 3) := by decide +kernel
theorem dL_pass_281 : decode cL_pass 281 = .ok (.iload 10, 2) := by decide +kernel
theorem dL_pass_283 : decode cL_pass 283 = .ok (.iload 15, 2) := by decide +kernel
theorem dL_pass_285 : decode cL_pass 285 = .ok (.ifCond .eq 7, 3) := by decide +kernel
theorem dL_pass_288 : decode cL_pass 288 = .ok (.iconst 1, 1) := by decide +kernel
theorem dL_pass_289 : decode cL_pass 289 = .ok (.goto 4, 3) := by decide +kernel
theorem dL_pass_292 : decode cL_pass 292 = .ok (.iconst 0, 1) := by decide +kernel
theorem dL_pass_293 : decode cL_pass 293 = .ok (.iadd, 1) := by decide +kernel
theorem dL_pass_294 : decode cL_pass 294 = .ok (.if_icmp .ne 61, 3) := by decide +kernel
theorem dL_pass_297 : decode cL_pass 297 = .ok (.aload_n 0, 1) := by decide +kernel
theorem dL_pass_298 : decode cL_pass 298 = .ok (.iload_n 2, 1) := by decide +kernel
theorem dL_pass_299 : decode cL_pass 299 = .ok (.iconst 5, 1) := by decide +kernel
theorem dL_pass_300 : decode cL_pass 300 = .ok (.invokevirtual 23, 3) := by decide +kernel
theorem dL_pass_303 : decode cL_pass 303 = .ok (.iload 11, 2) := by decide +kernel
theorem dL_pass_305 : decode cL_pass 305 = .ok (.iload 16, 2) := by decide +kernel
theorem dL_pass_307 : decode cL_pass 307 = .ok (.ifCond .eq 7, 3) := by decide +kernel
theorem dL_pass_310 : decode cL_pass 310 = .ok (.iconst 1, 1) := by decide +kernel
theorem dL_pass_311 : decode cL_pass 311 = .ok (.goto 4, 3) := by decide +kernel
theorem dL_pass_314 : decode cL_pass 314 = .ok (.iconst 0, 1) := by decide +kernel
theorem dL_pass_315 : decode cL_pass 315 = .ok (.iadd, 1) := by decide +kernel
theorem dL_pass_316 : decode cL_pass 316 = .ok (.if_icmp .ne 39, 3) := by decide +kernel
theorem dL_pass_319 : decode cL_pass 319 = .ok (.aload_n 0, 1) := by decide +kernel
theorem dL_pass_320 : decode cL_pass 320 = .ok (.iload_n 2, 1) := by decide +kernel
theorem dL_pass_321 : decode cL_pass 321 = .ok (.iconst 2, 1) := by decide +kernel
theorem dL_pass_322 : decode cL_pass 322 = .ok (.invokevirtual 23, 3) := by decide +kernel
theorem dL_pass_325 : decode cL_pass 325 = .ok (.ifCond .lt 7, 3) := by decide +kernel
theorem dL_pass_328 : decode cL_pass 328 = .ok (.iconst 1, 1) := by decide +kernel
theorem dL_pass_329 : decode cL_pass 329 = .ok (.goto 4, 3) := by decide +kernel
theorem dL_pass_332 : decode cL_pass 332 = .ok (.iconst 0, 1) := by decide +kernel
theorem dL_pass_333 : decode cL_pass 333 = .ok (.iload 15, 2) := by decide +kernel
theorem dL_pass_335 : decode cL_pass 335 = .ok (.ifCond .ne 12, 3) := by decide +kernel
theorem dL_pass_338 : decode cL_pass 338 = .ok (.iload 16, 2) := by decide +kernel
theorem dL_pass_340 : decode cL_pass 340 = .ok (.ifCond .ne 7, 3) := by decide +kernel
theorem dL_pass_343 : decode cL_pass 343 = .ok (.iconst 1, 1) := by decide +kernel
theorem dL_pass_344 : decode cL_pass 344 = .ok (.goto 4, 3) := by decide +kernel
theorem dL_pass_347 : decode cL_pass 347 = .ok (.iconst 0, 1) := by decide +kernel
theorem dL_pass_348 : decode cL_pass 348 = .ok (.if_icmp .ne 7, 3) := by decide +kernel
theorem dL_pass_351 : decode cL_pass 351 = .ok (.iconst 1, 1) := by decide +kernel
theorem dL_pass_352 : decode cL_pass 352 = .ok (.goto 4, 3) := by decide +kernel
theorem dL_pass_355 : decode cL_pass 355 = .ok (.iconst 0, 1) := by decide +kernel
theorem dL_pass_356 : decode cL_pass 356 = .ok (.istore 17, 2) := by decide +kernel
theorem dL_pass_358 : decode cL_pass 358 = .ok (.iload 17, 2) := by decide +kernel
theorem dL_pass_360 : decode cL_pass 360 = .ok (.ifCond .eq 34, 3) := by decide +kernel
theorem dL_pass_363 : decode cL_pass 363 = .ok (.aload_n 0, 1) := by decide +kernel
theorem dL_pass_364 : decode cL_pass 364 = .ok (.iload_n 2, 1) := by decide +kernel
theorem dL_pass_365 : decode cL_pass 365 = .ok (.bipush 6, 2) := by decide +kernel
theorem dL_pass_367 : decode cL_pass 367 = .ok (.invokevirtual 23, 3) := by decide +kernel
theorem dL_pass_370 : decode cL_pass 370 = .ok (.iload 12, 2) := by decide +kernel
theorem dL_pass_372 : decode cL_pass 372 = .ok (.iload 15, 2) := by decide +kernel
theorem dL_pass_374 : decode cL_pass 374 = .ok (.ifCond .eq 11, 3) := by decide +kernel
theorem dL_pass_377 : decode cL_pass 377 = .ok (.iload 9, 2) := by decide +kernel
theorem dL_pass_379 : decode cL_pass 379 = .ok (.iload 7, 2) := by decide +kernel
theorem dL_pass_381 : decode cL_pass 381 = .ok (.iadd, 1) := by decide +kernel
theorem dL_pass_382 : decode cL_pass 382 = .ok (.goto 4, 3) := by decide +kernel
theorem dL_pass_385 : decode cL_pass 385 = .ok (.iconst 0, 1) := by decide +kernel
theorem dL_pass_386 : decode cL_pass 386 = .ok (.iadd, 1) := by decide +kernel
theorem dL_pass_387 : decode cL_pass 387 = .ok (.if_icmp .ne 7, 3) := by decide +kernel
theorem dL_pass_390 : decode cL_pass 390 = .ok (.iconst 1, 1) := by decide +kernel
theorem dL_pass_391 : decode cL_pass 391 = .ok (.goto 4, 3) := by decide +kernel
theorem dL_pass_394 : decode cL_pass 394 = .ok (.iconst 0, 1) := by decide +kernel
theorem dL_pass_395 : decode cL_pass 395 = .ok (.ireturn, 1) := by decide +kernel
theorem dL_holds_0 : decode cL_holds 0 = .ok (.iconst 1, 1) := by decide +kernel
theorem dL_holds_1 : decode cL_holds 1 = .ok (.istore_n 1, 1) := by decide +kernel
theorem dL_holds_2 : decode cL_holds 2 = .ok (.iconst 0, 1) := by decide +kernel
theorem dL_holds_3 : decode cL_holds 3 = .ok (.istore_n 2, 1) := by decide +kernel
theorem dL_holds_4 : decode cL_holds 4 = .ok (.iload_n 2, 1) := by decide +kernel
theorem dL_holds_5 : decode cL_holds 5 = .ok (.bipush 8, 2) := by decide +kernel
theorem dL_holds_7 : decode cL_holds 7 = .ok (.if_icmp .ge 102, 3) := by decide +kernel
theorem dL_holds_10 : decode cL_holds 10 = .ok (.aload_n 0, 1) := by decide +kernel
theorem dL_holds_11 : decode cL_holds 11 = .ok (.iload_n 2, 1) := by decide +kernel
theorem dL_holds_12 : decode cL_holds 12 = .ok (.iconst 1, 1) := by decide +kernel
theorem dL_holds_13 : decode cL_holds 13 = .ok (.invokevirtual 10, 3) := by decide +kernel
theorem dL_holds_16 : decode cL_holds 16 = .ok (.istore_n 3, 1) := by decide +kernel
theorem dL_holds_17 : decode cL_holds 17 = .ok (.iload_n 1, 1) := by decide +kernel
theorem dL_holds_18 : decode cL_holds 18 = .ok (.ifCond .eq 35, 3) := by decide +kernel
theorem dL_holds_21 : decode cL_holds 21 = .ok (.iload_n 3, 1) := by decide +kernel
theorem dL_holds_22 : decode cL_holds 22 = .ok (.ifCond .lt 27, 3) := by decide +kernel
theorem dL_holds_25 : decode cL_holds 25 = .ok (.aload_n 0, 1) := by decide +kernel
theorem dL_holds_26 : decode cL_holds 26 = .ok (.iload_n 3, 1) := by decide +kernel
theorem dL_holds_27 : decode cL_holds 27 = .ok (.iconst 0, 1) := by decide +kernel
theorem dL_holds_28 : decode cL_holds 28 = .ok (.invokevirtual 23, 3) := by decide +kernel
theorem dL_holds_31 : decode cL_holds 31 = .ok (.iconst 1, 1) := by decide +kernel
theorem dL_holds_32 : decode cL_holds 32 = .ok (.if_icmp .eq 17, 3) := by decide +kernel
theorem dL_holds_35 : decode cL_holds 35 = .ok (.aload_n 0, 1) := by decide +kernel
theorem dL_holds_36 : decode cL_holds 36 = .ok (.iload_n 2, 1) := by decide +kernel
theorem dL_holds_37 : decode cL_holds 37 = .ok (.iconst 4, 1) := by decide +kernel
theorem dL_holds_38 : decode cL_holds 38 = .ok (.invokevirtual 10, 3) := by decide +kernel
theorem dL_holds_41 : decode cL_holds 41 = .ok (.aload_n 0, 1) := by decide +kernel
theorem dL_holds_42 : decode cL_holds 42 = .ok (.iconst 5, 1) := by decide +kernel
theorem dL_holds_43 : decode cL_holds 43 = .ok (.invokevirtual 20, 3) := by decide +kernel
theorem dL_holds_46 : decode cL_holds 46 = .ok (.if_icmp .ge 7, 3) := by decide +kernel
theorem dL_holds_49 : decode cL_holds 49 = .ok (.iconst 1, 1) := by decide +kernel
theorem dL_holds_50 : decode cL_holds 50 = .ok (.goto 4, 3) := by decide +kernel
theorem dL_holds_53 : decode cL_holds 53 = .ok (.iconst 0, 1) := by decide +kernel
theorem dL_holds_54 : decode cL_holds 54 = .ok (.istore_n 1, 1) := by decide +kernel
theorem dL_holds_55 : decode cL_holds 55 = .ok (.iload_n 1, 1) := by decide +kernel
theorem dL_holds_56 : decode cL_holds 56 = .ok (.ifCond .eq 45, 3) := by decide +kernel
theorem dL_holds_59 : decode cL_holds 59 = .ok (.aload_n 0, 1) := by decide +kernel
theorem dL_holds_60 : decode cL_holds 60 = .ok (.iload_n 2, 1) := by decide +kernel
theorem dL_holds_61 : decode cL_holds 61 = .ok (.iconst 0, 1) := by decide +kernel
theorem dL_holds_62 : decode cL_holds 62 = .ok (.invokevirtual 10, 3) := by decide +kernel
theorem dL_holds_65 : decode cL_holds 65 = .ok (.iconst 1, 1) := by decide +kernel
theorem dL_holds_66 : decode cL_holds 66 = .ok (.if_icmp .ne 31, 3) := by decide +kernel
theorem dL_holds_69 : decode cL_holds 69 = .ok (.aload_n 0, 1) := by decide +kernel
theorem dL_holds_70 : decode cL_holds 70 = .ok (.iconst 1, 1) := by decide +kernel
theorem dL_holds_71 : decode cL_holds 71 = .ok (.invokevirtual 16, 3) := by decide +kernel
theorem dL_holds_74 : decode cL_holds 74 = .ok (.aload_n 0, 1) := by decide +kernel
theorem dL_holds_75 : decode cL_holds 75 = .ok (.iconst 2, 1) := by decide +kernel
theorem dL_holds_76 : decode cL_holds 76 = .ok (.invokevirtual 20, 3) := by decide +kernel
theorem dL_holds_79 : decode cL_holds 79 = .ok (.if_icmp .le 18, 3) := by decide +kernel
theorem dL_holds_82 : decode cL_holds 82 = .ok (.aload_n 0, 1) := by decide +kernel
theorem dL_holds_83 : decode cL_holds 83 = .ok (.iload_n 2, 1) := by decide +kernel
theorem dL_holds_84 : decode cL_holds 84 = .ok (.iconst 4, 1) := by decide +kernel
theorem dL_holds_85 : decode cL_holds 85 = .ok (.invokevirtual 10, 3) := by decide +kernel
theorem dL_holds_88 : decode cL_holds 88 = .ok (.aload_n 0, 1) := by decide +kernel
theorem dL_holds_89 : decode cL_holds 89 = .ok (.bipush 7, 2) := by decide +kernel
theorem dL_holds_91 : decode cL_holds 91 = .ok (.invokevirtual 20, 3) := by decide +kernel
theorem dL_holds_94 : decode cL_holds 94 = .ok (.if_icmp .ge 7, 3) := by decide +kernel
theorem dL_holds_97 : decode cL_holds 97 = .ok (.iconst 1, 1) := by decide +kernel
theorem dL_holds_98 : decode cL_holds 98 = .ok (.goto 4, 3) := by decide +kernel
theorem dL_holds_101 : decode cL_holds 101 = .ok (.iconst 0, 1) := by decide +kernel
theorem dL_holds_102 : decode cL_holds 102 = .ok (.istore_n 1, 1) := by decide +kernel
theorem dL_holds_103 : decode cL_holds 103 = .ok (.iinc 2 1, 3) := by decide +kernel
theorem dL_holds_106 : decode cL_holds 106 = .ok (.goto (-102), 3) := by decide +kernel
theorem dL_holds_109 : decode cL_holds 109 = .ok (.iconst 0, 1) := by decide +kernel
theorem dL_holds_110 : decode cL_holds 110 = .ok (.istore_n 2, 1) := by decide +kernel
theorem dL_holds_111 : decode cL_holds 111 = .ok (.iload_n 2, 1) := by decide +kernel
theorem dL_holds_112 : decode cL_holds 112 = .ok (.bipush 8, 2) := by decide +kernel
theorem dL_holds_114 : decode cL_holds 114 = .ok (.if_icmp .ge 34, 3) := by decide +kernel
theorem dL_holds_117 : decode cL_holds 117 = .ok (.iload_n 1, 1) := by decide +kernel
theorem dL_holds_118 : decode cL_holds 118 = .ok (.ifCond .eq 22, 3) := by decide +kernel
theorem dL_holds_121 : decode cL_holds 121 = .ok (.aload_n 0, 1) := by decide +kernel
theorem dL_holds_122 : decode cL_holds 122 = .ok (.iload_n 2, 1) := by decide +kernel
theorem dL_holds_123 : decode cL_holds 123 = .ok (.iconst 3, 1) := by decide +kernel
theorem dL_holds_124 : decode cL_holds 124 = .ok (.invokevirtual 23, 3) := by decide +kernel
theorem dL_holds_127 : decode cL_holds 127 = .ok (.aload_n 0, 1) := by decide +kernel
theorem dL_holds_128 : decode cL_holds 128 = .ok (.bipush 8, 2) := by decide +kernel
theorem dL_holds_130 : decode cL_holds 130 = .ok (.invokevirtual 20, 3) := by decide +kernel
theorem dL_holds_133 : decode cL_holds 133 = .ok (.if_icmp .ge 7, 3) := by decide +kernel
theorem dL_holds_136 : decode cL_holds 136 = .ok (.iconst 1, 1) := by decide +kernel
theorem dL_holds_137 : decode cL_holds 137 = .ok (.goto 4, 3) := by decide +kernel
theorem dL_holds_140 : decode cL_holds 140 = .ok (.iconst 0, 1) := by decide +kernel
theorem dL_holds_141 : decode cL_holds 141 = .ok (.istore_n 1, 1) := by decide +kernel
theorem dL_holds_142 : decode cL_holds 142 = .ok (.iinc 2 1, 3) := by decide +kernel
theorem dL_holds_145 : decode cL_holds 145 = .ok (.goto (-34), 3) := by decide +kernel
theorem dL_holds_148 : decode cL_holds 148 = .ok (.iload_n 1, 1) := by decide +kernel
theorem dL_holds_149 : decode cL_holds 149 = .ok (.ireturn, 1) := by decide +kernel
theorem dL_law_0 : decode cL_law 0 = .ok (.new 11, 3) := by decide +kernel
theorem dL_law_3 : decode cL_law 3 = .ok (.dup, 1) := by decide +kernel
theorem dL_law_4 : decode cL_law 4 = .ok (.invokespecial 52, 3) := by decide +kernel
theorem dL_law_7 : decode cL_law 7 = .ok (.astore_n 1, 1) := by decide +kernel
theorem dL_law_8 : decode cL_law 8 = .ok (.aload_n 1, 1) := by decide +kernel
theorem dL_law_9 : decode cL_law 9 = .ok (.invokestatic 53, 3) := by decide +kernel
theorem dL_law_12 : decode cL_law 12 = .ok (.ifCond .ne 5, 3) := by decide +kernel
theorem dL_law_15 : decode cL_law 15 = .ok (.iconst 0, 1) := by decide +kernel
theorem dL_law_16 : decode cL_law 16 = .ok (.ireturn, 1) := by decide +kernel
theorem dL_law_17 : decode cL_law 17 = .ok (.aload_n 0, 1) := by decide +kernel
theorem dL_law_18 : decode cL_law 18 = .ok (.iconst 0, 1) := by decide +kernel
theorem dL_law_19 : decode cL_law 19 = .ok (.invokestatic 59, 3) := by decide +kernel
theorem dL_law_22 : decode cL_law 22 = .ok (.istore_n 2, 1) := by decide +kernel
theorem dL_law_23 : decode cL_law 23 = .ok (.aload_n 1, 1) := by decide +kernel
theorem dL_law_24 : decode cL_law 24 = .ok (.iconst 0, 1) := by decide +kernel
theorem dL_law_25 : decode cL_law 25 = .ok (.iconst 1, 1) := by decide +kernel
theorem dL_law_26 : decode cL_law 26 = .ok (.iload_n 2, 1) := by decide +kernel
theorem dL_law_27 : decode cL_law 27 = .ok (.bipush 8, 2) := by decide +kernel
theorem dL_law_29 : decode cL_law 29 = .ok (.invokestatic 63, 3) := by decide +kernel
theorem dL_law_32 : decode cL_law 32 = .ok (.iadd, 1) := by decide +kernel
theorem dL_law_33 : decode cL_law 33 = .ok (.invokevirtual 66, 3) := by decide +kernel
theorem dL_law_36 : decode cL_law 36 = .ok (.iconst 4, 1) := by decide +kernel
theorem dL_law_37 : decode cL_law 37 = .ok (.if_icmp .ne 74, 3) := by decide +kernel
theorem dL_law_40 : decode cL_law 40 = .ok (.aload_n 1, 1) := by decide +kernel
theorem dL_law_41 : decode cL_law 41 = .ok (.iconst 1, 1) := by decide +kernel
theorem dL_law_42 : decode cL_law 42 = .ok (.iconst 1, 1) := by decide +kernel
theorem dL_law_43 : decode cL_law 43 = .ok (.iload_n 2, 1) := by decide +kernel
theorem dL_law_44 : decode cL_law 44 = .ok (.iconst 3, 1) := by decide +kernel
theorem dL_law_45 : decode cL_law 45 = .ok (.ishr, 1) := by decide +kernel
theorem dL_law_46 : decode cL_law 46 = .ok (.iconst 3, 1) := by decide +kernel
theorem dL_law_47 : decode cL_law 47 = .ok (.invokestatic 63, 3) := by decide +kernel
theorem dL_law_50 : decode cL_law 50 = .ok (.iadd, 1) := by decide +kernel
theorem dL_law_51 : decode cL_law 51 = .ok (.invokevirtual 66, 3) := by decide +kernel
theorem dL_law_54 : decode cL_law 54 = .ok (.iconst 2, 1) := by decide +kernel
theorem dL_law_55 : decode cL_law 55 = .ok (.if_icmp .ne 56, 3) := by decide +kernel
theorem dL_law_58 : decode cL_law 58 = .ok (.aload_n 1, 1) := by decide +kernel
theorem dL_law_59 : decode cL_law 59 = .ok (.iconst 2, 1) := by decide +kernel
theorem dL_law_60 : decode cL_law 60 = .ok (.iload_n 2, 1) := by decide +kernel
theorem dL_law_61 : decode cL_law 61 = .ok (.iconst 5, 1) := by decide +kernel
theorem dL_law_62 : decode cL_law 62 = .ok (.ishr, 1) := by decide +kernel
theorem dL_law_63 : decode cL_law 63 = .ok (.iconst 4, 1) := by decide +kernel
theorem dL_law_64 : decode cL_law 64 = .ok (.invokestatic 63, 3) := by decide +kernel
theorem dL_law_67 : decode cL_law 67 = .ok (.invokevirtual 66, 3) := by decide +kernel
theorem dL_law_70 : decode cL_law 70 = .ok (.iconst 1, 1) := by decide +kernel
theorem dL_law_71 : decode cL_law 71 = .ok (.if_icmp .ne 40, 3) := by decide +kernel
theorem dL_law_74 : decode cL_law 74 = .ok (.aload_n 1, 1) := by decide +kernel
theorem dL_law_75 : decode cL_law 75 = .ok (.iconst 3, 1) := by decide +kernel
theorem dL_law_76 : decode cL_law 76 = .ok (.iload_n 2, 1) := by decide +kernel
theorem dL_law_77 : decode cL_law 77 = .ok (.bipush 7, 2) := by decide +kernel
theorem dL_law_79 : decode cL_law 79 = .ok (.ishr, 1) := by decide +kernel
theorem dL_law_80 : decode cL_law 80 = .ok (.iconst 2, 1) := by decide +kernel
theorem dL_law_81 : decode cL_law 81 = .ok (.invokestatic 63, 3) := by decide +kernel
theorem dL_law_84 : decode cL_law 84 = .ok (.invokevirtual 66, 3) := by decide +kernel
theorem dL_law_87 : decode cL_law 87 = .ok (.ifCond .ne 24, 3) := by decide +kernel
theorem dL_law_90 : decode cL_law 90 = .ok (.aload_n 1, 1) := by decide +kernel
theorem dL_law_91 : decode cL_law 91 = .ok (.iconst 4, 1) := by decide +kernel
theorem dL_law_92 : decode cL_law 92 = .ok (.iload_n 2, 1) := by decide +kernel
theorem dL_law_93 : decode cL_law 93 = .ok (.bipush 8, 2) := by decide +kernel
theorem dL_law_95 : decode cL_law 95 = .ok (.ishr, 1) := by decide +kernel
theorem dL_law_96 : decode cL_law 96 = .ok (.iconst 2, 1) := by decide +kernel
theorem dL_law_97 : decode cL_law 97 = .ok (.invokestatic 63, 3) := by decide +kernel
theorem dL_law_100 : decode cL_law 100 = .ok (.invokevirtual 66, 3) := by decide +kernel
theorem dL_law_103 : decode cL_law 103 = .ok (.iconst 1, 1) := by decide +kernel
theorem dL_law_104 : decode cL_law 104 = .ok (.if_icmp .ne 7, 3) := by decide +kernel
theorem dL_law_107 : decode cL_law 107 = .ok (.iconst 1, 1) := by decide +kernel
theorem dL_law_108 : decode cL_law 108 = .ok (.goto 4, 3) := by decide +kernel
theorem dL_law_111 : decode cL_law 111 = .ok (.iconst 0, 1) := by decide +kernel
theorem dL_law_112 : decode cL_law 112 = .ok (.istore_n 3, 1) := by decide +kernel
theorem dL_law_113 : decode cL_law 113 = .ok (.iload_n 3, 1) := by decide +kernel
theorem dL_law_114 : decode cL_law 114 = .ok (.ifCond .eq 91, 3) := by decide +kernel
theorem dL_law_117 : decode cL_law 117 = .ok (.aload_n 1, 1) := by decide +kernel
theorem dL_law_118 : decode cL_law 118 = .ok (.iconst 5, 1) := by decide +kernel
theorem dL_law_119 : decode cL_law 119 = .ok (.iconst 1, 1) := by decide +kernel
theorem dL_law_120 : decode cL_law 120 = .ok (.iload_n 2, 1) := by decide +kernel
theorem dL_law_121 : decode cL_law 121 = .ok (.bipush 9, 2) := by decide +kernel
theorem dL_law_123 : decode cL_law 123 = .ok (.ishr, 1) := by decide +kernel
theorem dL_law_124 : decode cL_law 124 = .ok (.bipush 9, 2) := by decide +kernel
theorem dL_law_126 : decode cL_law 126 = .ok (.invokestatic 63, 3) := by decide +kernel
theorem dL_law_129 : decode cL_law 129 = .ok (.iadd, 1) := by decide +kernel
theorem dL_law_130 : decode cL_law 130 = .ok (.invokevirtual 66, 3) := by decide +kernel
theorem dL_law_133 : decode cL_law 133 = .ok (.bipush 10, 2) := by decide +kernel
theorem dL_law_135 : decode cL_law 135 = .ok (.if_icmp .ne 70, 3) := by decide +kernel
theorem dL_law_138 : decode cL_law 138 = .ok (.aload_n 1, 1) := by decide +kernel
theorem dL_law_139 : decode cL_law 139 = .ok (.bipush 6, 2) := by decide +kernel
theorem dL_law_141 : decode cL_law 141 = .ok (.iload_n 2, 1) := by decide +kernel
theorem dL_law_142 : decode cL_law 142 = .ok (.bipush 13, 2) := by decide +kernel
theorem dL_law_144 : decode cL_law 144 = .ok (.ishr, 1) := by decide +kernel
theorem dL_law_145 : decode cL_law 145 = .ok (.bipush 6, 2) := by decide +kernel
theorem dL_law_147 : decode cL_law 147 = .ok (.invokestatic 63, 3) := by decide +kernel
theorem dL_law_150 : decode cL_law 150 = .ok (.invokevirtual 66, 3) := by decide +kernel
theorem dL_law_153 : decode cL_law 153 = .ok (.iconst 5, 1) := by decide +kernel
theorem dL_law_154 : decode cL_law 154 = .ok (.if_icmp .ne 51, 3) := by decide +kernel
theorem dL_law_157 : decode cL_law 157 = .ok (.aload_n 1, 1) := by decide +kernel
theorem dL_law_158 : decode cL_law 158 = .ok (.bipush 7, 2) := by decide +kernel
theorem dL_law_160 : decode cL_law 160 = .ok (.iconst 1, 1) := by decide +kernel
theorem dL_law_161 : decode cL_law 161 = .ok (.iload_n 2, 1) := by decide +kernel
theorem dL_law_162 : decode cL_law 162 = .ok (.bipush 16, 2) := by decide +kernel
theorem dL_law_164 : decode cL_law 164 = .ok (.ishr, 1) := by decide +kernel
theorem dL_law_165 : decode cL_law 165 = .ok (.bipush 12, 2) := by decide +kernel
theorem dL_law_167 : decode cL_law 167 = .ok (.invokestatic 63, 3) := by decide +kernel
theorem dL_law_170 : decode cL_law 170 = .ok (.iadd, 1) := by decide +kernel
theorem dL_law_171 : decode cL_law 171 = .ok (.invokevirtual 66, 3) := by decide +kernel
theorem dL_law_174 : decode cL_law 174 = .ok (.bipush 20, 2) := by decide +kernel
theorem dL_law_176 : decode cL_law 176 = .ok (.if_icmp .ne 29, 3) := by decide +kernel
theorem dL_law_179 : decode cL_law 179 = .ok (.aload_n 1, 1) := by decide +kernel
theorem dL_law_180 : decode cL_law 180 = .ok (.bipush 8, 2) := by decide +kernel
theorem dL_law_182 : decode cL_law 182 = .ok (.iconst 1, 1) := by decide +kernel
theorem dL_law_183 : decode cL_law 183 = .ok (.iload_n 2, 1) := by decide +kernel
theorem dL_law_184 : decode cL_law 184 = .ok (.bipush 20, 2) := by decide +kernel
theorem dL_law_186 : decode cL_law 186 = .ok (.ishr, 1) := by decide +kernel
theorem dL_law_187 : decode cL_law 187 = .ok (.bipush 12, 2) := by decide +kernel
theorem dL_law_189 : decode cL_law 189 = .ok (.invokestatic 63, 3) := by decide +kernel
theorem dL_law_192 : decode cL_law 192 = .ok (.iadd, 1) := by decide +kernel
theorem dL_law_193 : decode cL_law 193 = .ok (.invokevirtual 66, 3) := by decide +kernel
theorem dL_law_196 : decode cL_law 196 = .ok (.bipush 15, 2) := by decide +kernel
theorem dL_law_198 : decode cL_law 198 = .ok (.if_icmp .ne 7, 3) := by decide +kernel
theorem dL_law_201 : decode cL_law 201 = .ok (.iconst 1, 1) := by decide +kernel
theorem dL_law_202 : decode cL_law 202 = .ok (.goto 4, 3) := by decide +kernel
theorem dL_law_205 : decode cL_law 205 = .ok (.iconst 0, 1) := by decide +kernel
theorem dL_law_206 : decode cL_law 206 = .ok (.istore_n 3, 1) := by decide +kernel
theorem dL_law_207 : decode cL_law 207 = .ok (.iconst 0, 1) := by decide +kernel
theorem dL_law_208 : decode cL_law 208 = .ok (.istore 4, 2) := by decide +kernel
theorem dL_law_210 : decode cL_law 210 = .ok (.iload 4, 2) := by decide +kernel
theorem dL_law_212 : decode cL_law 212 = .ok (.bipush 50, 2) := by decide +kernel
theorem dL_law_214 : decode cL_law 214 = .ok (.if_icmp .ge 493, 3) := by decide +kernel
theorem dL_law_217 : decode cL_law 217 = .ok (.iload_n 3, 1) := by decide +kernel
theorem dL_law_218 : decode cL_law 218 = .ok (.ifCond .eq 489, 3) := by decide +kernel
theorem dL_law_221 : decode cL_law 221 = .ok (.aload_n 0, 1) := by decide +kernel
theorem dL_law_222 : decode cL_law 222 = .ok (.iconst 1, 1) := by decide +kernel
theorem dL_law_223 : decode cL_law 223 = .ok (.iload 4, 2) := by decide +kernel
theorem dL_law_225 : decode cL_law 225 = .ok (.iadd, 1) := by decide +kernel
theorem dL_law_226 : decode cL_law 226 = .ok (.invokestatic 59, 3) := by decide +kernel
theorem dL_law_229 : decode cL_law 229 = .ok (.istore 5, 2) := by decide +kernel
theorem dL_law_231 : decode cL_law 231 = .ok (.iload 5, 2) := by decide +kernel
theorem dL_law_233 : decode cL_law 233 = .ok (.iconst 4, 1) := by decide +kernel
theorem dL_law_234 : decode cL_law 234 = .ok (.ishr, 1) := by decide +kernel
theorem dL_law_235 : decode cL_law 235 = .ok (.bipush 8, 2) := by decide +kernel
theorem dL_law_237 : decode cL_law 237 = .ok (.invokestatic 63, 3) := by decide +kernel
theorem dL_law_240 : decode cL_law 240 = .ok (.istore 6, 2) := by decide +kernel
theorem dL_law_242 : decode cL_law 242 = .ok (.iload 5, 2) := by decide +kernel
theorem dL_law_244 : decode cL_law 244 = .ok (.bipush 14, 2) := by decide +kernel
theorem dL_law_246 : decode cL_law 246 = .ok (.invokestatic 63, 3) := by decide +kernel
theorem dL_law_249 : decode cL_law 249 = .ok (.istore 7, 2) := by decide +kernel
theorem dL_law_251 : decode cL_law 251 = .ok (.iload 7, 2) := by decide +kernel
theorem dL_law_253 : decode cL_law 253 = .ok (.iconst 5, 1) := by decide +kernel
theorem dL_law_254 : decode cL_law 254 = .ok (.if_icmp .ge 13, 3) := by decide +kernel
theorem dL_law_257 : decode cL_law 257 = .ok (.aload_n 1, 1) := by decide +kernel
theorem dL_law_258 : decode cL_law 258 = .ok (.iload 6, 2) := by decide +kernel
theorem dL_law_260 : decode cL_law 260 = .ok (.invokestatic 69, 3) := by decide +kernel
theorem dL_law_263 : decode cL_law 263 = .ok (.istore_n 3, 1) := by decide +kernel
theorem dL_law_264 : decode cL_law 264 = .ok (.goto 420, 3) := by decide +kernel
theorem dL_law_267 : decode cL_law 267 = .ok (.iload 7, 2) := by decide +kernel
theorem dL_law_269 : decode cL_law 269 = .ok (.bipush 8, 2) := by decide +kernel
theorem dL_law_271 : decode cL_law 271 = .ok (.if_icmp .ge 13, 3) := by decide +kernel
theorem dL_law_274 : decode cL_law 274 = .ok (.aload_n 1, 1) := by decide +kernel
theorem dL_law_275 : decode cL_law 275 = .ok (.iload 6, 2) := by decide +kernel
theorem dL_law_277 : decode cL_law 277 = .ok (.invokestatic 72, 3) := by decide +kernel
theorem dL_law_280 : decode cL_law 280 = .ok (.istore_n 3, 1) := by decide +kernel
theorem dL_law_281 : decode cL_law 281 = .ok (.goto 403, 3) := by decide +kernel
theorem dL_law_284 : decode cL_law 284 = .ok (.iload 7, 2) := by decide +kernel
theorem dL_law_286 : decode cL_law 286 = .ok (.bipush 8, 2) := by decide +kernel
theorem dL_law_288 : decode cL_law 288 = .ok (.if_icmp .ne 134, 3) := by decide +kernel
theorem dL_law_291 : decode cL_law 291 = .ok (.aload_n 1, 1) := by decide +kernel
theorem dL_law_292 : decode cL_law 292 = .ok (.iload 6, 2) := by decide +kernel
theorem dL_law_294 : decode cL_law 294 = .ok (.iconst 0, 1) := by decide +kernel
theorem dL_law_295 : decode cL_law 295 = .ok (.invokevirtual 23, 3) := by decide +kernel
theorem dL_law_298 : decode cL_law 298 = .ok (.iconst 1, 1) := by decide +kernel
theorem dL_law_299 : decode cL_law 299 = .ok (.if_icmp .ne 7, 3) := by decide +kernel
theorem dL_law_302 : decode cL_law 302 = .ok (.iconst 1, 1) := by decide +kernel
theorem dL_law_303 : decode cL_law 303 = .ok (.goto 4, 3) := by decide +kernel
theorem dL_law_306 : decode cL_law 306 = .ok (.iconst 0, 1) := by decide +kernel
theorem dL_law_307 : decode cL_law 307 = .ok (.istore 8, 2) := by decide +kernel
theorem dL_law_309 : decode cL_law 309 = .ok (.aload_n 1, 1) := by decide +kernel
theorem dL_law_310 : decode cL_law 310 = .ok (.iload 6, 2) := by decide +kernel
theorem dL_law_312 : decode cL_law 312 = .ok (.iconst 2, 1) := by decide +kernel
theorem dL_law_313 : decode cL_law 313 = .ok (.invokevirtual 23, 3) := by decide +kernel
theorem dL_law_316 : decode cL_law 316 = .ok (.ifCond .lt 7, 3) := by decide +kernel
theorem dL_law_319 : decode cL_law 319 = .ok (.iconst 1, 1) := by decide +kernel
theorem dL_law_320 : decode cL_law 320 = .ok (.goto 4, 3) := by decide +kernel
theorem dL_law_323 : decode cL_law 323 = .ok (.iconst 0, 1) := by decide +kernel
theorem dL_law_324 : decode cL_law 324 = .ok (.istore 9, 2) := by decide +kernel
theorem dL_law_326 : decode cL_law 326 = .ok (.aload_n 1, 1) := by decide +kernel
theorem dL_law_327 : decode cL_law 327 = .ok (.iload 6, 2) := by decide +kernel
theorem dL_law_329 : decode cL_law 329 = .ok (.iconst 5, 1) := by decide +kernel
theorem dL_law_330 : decode cL_law 330 = .ok (.invokevirtual 23, 3) := by decide +kernel
theorem dL_law_333 : decode cL_law 333 = .ok (.istore 10, 2) := by decide +kernel
theorem dL_law_335 : decode cL_law 335 = .ok (.aload_n 1, 1) := by decide +kernel
theorem dL_law_336 : decode cL_law 336 = .ok (.iload 6, 2) := by decide +kernel
theorem dL_law_338 : decode cL_law 338 = .ok (.iconst 1, 1) := by decide +kernel
theorem dL_law_339 : decode cL_law 339 = .ok (.invokevirtual 23, 3) := by decide +kernel
theorem dL_law_342 : decode cL_law 342 = .ok (.istore 11, 2) := by decide +kernel
theorem dL_law_344 : decode cL_law 344 = .ok (.aload_n 1, 1) := by decide +kernel
theorem dL_law_345 : decode cL_law 345 = .ok (.iload 6, 2) := by decide +kernel
theorem dL_law_347 : decode cL_law 347 = .ok (.iload 8, 2) := by decide +kernel
theorem dL_law_349 : decode cL_law 349 = .ok (.ifCond .ne 7, 3) := by decide +kernel
theorem dL_law_352 : decode cL_law 352 = .ok (.iconst 1, 1) := by decide +kernel
theorem dL_law_353 : decode cL_law 353 = .ok (.goto 4, 3) := by decide +kernel
theorem dL_law_356 : decode cL_law 356 = .ok (.iconst 0, 1) := by decide +kernel
theorem dL_law_357 : decode cL_law 357 = .ok (.invokevirtual 74, 3) := by decide +kernel
theorem dL_law_360 : decode cL_law 360 = .ok (.iload 11, 2) := by decide +kernel
theorem dL_law_362 : decode cL_law 362 = .ok (.if_icmp .ne 55, 3) := by decide +kernel
theorem dL_law_365 : decode cL_law 365 = .ok (.aload_n 1, 1) := by decide +kernel
theorem dL_law_366 : decode cL_law 366 = .ok (.iload 6, 2) := by decide +kernel
theorem dL_law_368 : decode cL_law 368 = .ok (.iconst 0, 1) := by decide +kernel
theorem dL_law_369 : decode cL_law 369 = .ok (.invokevirtual 23, 3) := by decide +kernel
theorem dL_law_372 : decode cL_law 372 = .ok (.iload 8, 2) := by decide +kernel
theorem dL_law_374 : decode cL_law 374 = .ok (.ifCond .eq 7, 3) := by decide +kernel
theorem dL_law_377 : decode cL_law 377 = .ok (.iconst 0, 1) := by decide +kernel
theorem dL_law_378 : decode cL_law 378 = .ok (.goto 4, 3) := by decide +kernel
theorem dL_law_381 : decode cL_law 381 = .ok (.iconst 1, 1) := by decide +kernel
theorem dL_law_382 : decode cL_law 382 = .ok (.if_icmp .ne 35, 3) := by decide +kernel
theorem dL_law_385 : decode cL_law 385 = .ok (.iload 9, 2) := by decide +kernel
theorem dL_law_387 : decode cL_law 387 = .ok (.ifCond .eq 14, 3) := by decide +kernel
theorem dL_law_390 : decode cL_law 390 = .ok (.aload_n 1, 1) := by decide +kernel
theorem dL_law_391 : decode cL_law 391 = .ok (.iload 6, 2) := by decide +kernel
theorem dL_law_393 : decode cL_law 393 = .ok (.iconst 2, 1) := by decide +kernel
theorem dL_law_394 : decode cL_law 394 = .ok (.invokevirtual 23, 3) := by decide +kernel
theorem dL_law_397 : decode cL_law 397 = .ok (.iconst (-1), 1) := by decide +kernel
theorem dL_law_398 : decode cL_law 398 = .ok (.if_icmp .ne 19, 3) := by decide +kernel
theorem dL_law_401 : decode cL_law 401 = .ok (.aload_n 1, 1) := by decide +kernel
theorem dL_law_402 : decode cL_law 402 = .ok (.iload 6, 2) := by decide +kernel
theorem dL_law_404 : decode cL_law 404 = .ok (.iconst 5, 1) := by decide +kernel
theorem dL_law_405 : decode cL_law 405 = .ok (.invokevirtual 23, 3) := by decide +kernel
theorem dL_law_408 : decode cL_law 408 = .ok (.iload 10, 2) := by decide +kernel
theorem dL_law_410 : decode cL_law 410 = .ok (.if_icmp .ne 7, 3) := by decide +kernel
theorem dL_law_413 : decode cL_law 413 = .ok (.iconst 1, 1) := by decide +kernel
theorem dL_law_414 : decode cL_law 414 = .ok (.goto 4, 3) := by decide +kernel
theorem dL_law_417 : decode cL_law 417 = .ok (.iconst 0, 1) := by decide +kernel
theorem dL_law_418 : decode cL_law 418 = .ok (.istore_n 3, 1) := by decide +kernel
theorem dL_law_419 : decode cL_law 419 = .ok (.goto 265, 3) := by decide +kernel
theorem dL_law_422 : decode cL_law 422 = .ok (.iload 7, 2) := by decide +kernel
theorem dL_law_424 : decode cL_law 424 = .ok (.bipush 9, 2) := by decide +kernel
theorem dL_law_426 : decode cL_law 426 = .ok (.if_icmp .ne 44, 3) := by decide +kernel
theorem dL_law_429 : decode cL_law 429 = .ok (.aload_n 1, 1) := by decide +kernel
theorem dL_law_430 : decode cL_law 430 = .ok (.iload 6, 2) := by decide +kernel
theorem dL_law_432 : decode cL_law 432 = .ok (.iconst 0, 1) := by decide +kernel
theorem dL_law_433 : decode cL_law 433 = .ok (.invokevirtual 10, 3) := by decide +kernel
theorem dL_law_436 : decode cL_law 436 = .ok (.ifCond .le 34, 3) := by decide +kernel
theorem dL_law_439 : decode cL_law 439 = .ok (.aload_n 1, 1) := by decide +kernel
theorem dL_law_440 : decode cL_law 440 = .ok (.iload 6, 2) := by decide +kernel
theorem dL_law_442 : decode cL_law 442 = .ok (.iconst 2, 1) := by decide +kernel
theorem dL_law_443 : decode cL_law 443 = .ok (.invokevirtual 10, 3) := by decide +kernel
theorem dL_law_446 : decode cL_law 446 = .ok (.istore 8, 2) := by decide +kernel
theorem dL_law_448 : decode cL_law 448 = .ok (.aload_n 1, 1) := by decide +kernel
theorem dL_law_449 : decode cL_law 449 = .ok (.iload 6, 2) := by decide +kernel
theorem dL_law_451 : decode cL_law 451 = .ok (.invokevirtual 78, 3) := by decide +kernel
theorem dL_law_454 : decode cL_law 454 = .ok (.iconst 1, 1) := by decide +kernel
theorem dL_law_455 : decode cL_law 455 = .ok (.iload 8, 2) := by decide +kernel
theorem dL_law_457 : decode cL_law 457 = .ok (.isub, 1) := by decide +kernel
theorem dL_law_458 : decode cL_law 458 = .ok (.if_icmp .ne 7, 3) := by decide +kernel
theorem dL_law_461 : decode cL_law 461 = .ok (.iconst 1, 1) := by decide +kernel
theorem dL_law_462 : decode cL_law 462 = .ok (.goto 4, 3) := by decide +kernel
theorem dL_law_465 : decode cL_law 465 = .ok (.iconst 0, 1) := by decide +kernel
theorem dL_law_466 : decode cL_law 466 = .ok (.istore_n 3, 1) := by decide +kernel
theorem dL_law_467 : decode cL_law 467 = .ok (.goto 217, 3) := by decide +kernel
theorem dL_law_470 : decode cL_law 470 = .ok (.iload 7, 2) := by decide +kernel
theorem dL_law_472 : decode cL_law 472 = .ok (.bipush 10, 2) := by decide +kernel
theorem dL_law_474 : decode cL_law 474 = .ok (.if_icmp .ne 89, 3) := by decide +kernel
theorem dL_law_477 : decode cL_law 477 = .ok (.iconst 0, 1) := by decide +kernel
theorem dL_law_478 : decode cL_law 478 = .ok (.istore 8, 2) := by decide +kernel
theorem dL_law_480 : decode cL_law 480 = .ok (.iconst 0, 1) := by decide +kernel
theorem dL_law_481 : decode cL_law 481 = .ok (.istore 9, 2) := by decide +kernel
theorem dL_law_483 : decode cL_law 483 = .ok (.iload 9, 2) := by decide +kernel
theorem dL_law_485 : decode cL_law 485 = .ok (.bipush 8, 2) := by decide +kernel
theorem dL_law_487 : decode cL_law 487 = .ok (.if_icmp .ge 36, 3) := by decide +kernel
theorem dL_law_490 : decode cL_law 490 = .ok (.iload 8, 2) := by decide +kernel
theorem dL_law_492 : decode cL_law 492 = .ok (.aload_n 1, 1) := by decide +kernel
theorem dL_law_493 : decode cL_law 493 = .ok (.iload 9, 2) := by decide +kernel
theorem dL_law_495 : decode cL_law 495 = .ok (.iconst 0, 1) := by decide +kernel
theorem dL_law_496 : decode cL_law 496 = .ok (.invokevirtual 10, 3) := by decide +kernel
theorem dL_law_499 : decode cL_law 499 = .ok (.iconst 1, 1) := by decide +kernel
theorem dL_law_500 : decode cL_law 500 = .ok (.if_icmp .ne 13, 3) := by decide +kernel
theorem dL_law_503 : decode cL_law 503 = .ok (.aload_n 1, 1) := by decide +kernel
theorem dL_law_504 : decode cL_law 504 = .ok (.iload 9, 2) := by decide +kernel
theorem dL_law_506 : decode cL_law 506 = .ok (.iconst 2, 1) := by decide +kernel
theorem dL_law_507 : decode cL_law 507 = .ok (.invokevirtual 10, 3) := by decide +kernel
theorem dL_law_510 : decode cL_law 510 = .ok (.goto 4, 3) := by decide +kernel
theorem dL_law_513 : decode cL_law 513 = .ok (.iconst 0, 1) := by decide +kernel
theorem dL_law_514 : decode cL_law 514 = .ok (.iadd, 1) := by decide +kernel
theorem dL_law_515 : decode cL_law 515 = .ok (.istore 8, 2) := by decide +kernel
theorem dL_law_517 : decode cL_law 517 = .ok (.iinc 9 1, 3) := by decide +kernel
theorem dL_law_520 : decode cL_law 520 = .ok (.goto (-37), 3) := by decide +kernel
theorem dL_law_523 : decode cL_law 523 = .ok (.aload_n 1, 1) := by decide +kernel
theorem dL_law_524 : decode cL_law 524 = .ok (.bipush 8, 2) := by decide +kernel
theorem dL_law_526 : decode cL_law 526 = .ok (.invokevirtual 16, 3) := by decide +kernel
theorem dL_law_529 : decode cL_law 529 = .ok (.istore 9, 2) := by decide +kernel
theorem dL_law_531 : decode cL_law 531 = .ok (.aload_n 1, 1) := by decide +kernel
theorem dL_law_532 : decode cL_law 532 = .ok (.invokevirtual 81, 3) := by decide +kernel
theorem dL_law_535 : decode cL_law 535 = .ok (.iload 8, 2) := by decide +kernel
theorem dL_law_537 : decode cL_law 537 = .ok (.if_icmp .ne 21, 3) := by decide +kernel
theorem dL_law_540 : decode cL_law 540 = .ok (.aload_n 1, 1) := by decide +kernel
theorem dL_law_541 : decode cL_law 541 = .ok (.bipush 8, 2) := by decide +kernel
theorem dL_law_543 : decode cL_law 543 = .ok (.invokevirtual 16, 3) := by decide +kernel
theorem dL_law_546 : decode cL_law 546 = .ok (.iload 9, 2) := by decide +kernel
theorem dL_law_548 : decode cL_law 548 = .ok (.iload 8, 2) := by decide +kernel
theorem dL_law_550 : decode cL_law 550 = .ok (.iadd, 1) := by decide +kernel
theorem dL_law_551 : decode cL_law 551 = .ok (.if_icmp .ne 7, 3) := by decide +kernel
theorem dL_law_554 : decode cL_law 554 = .ok (.iconst 1, 1) := by decide +kernel
theorem dL_law_555 : decode cL_law 555 = .ok (.goto 4, 3) := by decide +kernel
theorem dL_law_558 : decode cL_law 558 = .ok (.iconst 0, 1) := by decide +kernel
theorem dL_law_559 : decode cL_law 559 = .ok (.istore_n 3, 1) := by decide +kernel
theorem dL_law_560 : decode cL_law 560 = .ok (.goto 124, 3) := by decide +kernel
theorem dL_law_563 : decode cL_law 563 = .ok (.iload 7, 2) := by decide +kernel
theorem dL_law_565 : decode cL_law 565 = .ok (.bipush 11, 2) := by decide +kernel
theorem dL_law_567 : decode cL_law 567 = .ok (.if_icmp .ne 76, 3) := by decide +kernel
theorem dL_law_570 : decode cL_law 570 = .ok (.aload_n 1, 1) := by decide +kernel
theorem dL_law_571 : decode cL_law 571 = .ok (.iload 6, 2) := by decide +kernel
theorem dL_law_573 : decode cL_law 573 = .ok (.iconst 2, 1) := by decide +kernel
theorem dL_law_574 : decode cL_law 574 = .ok (.invokevirtual 23, 3) := by decide +kernel
theorem dL_law_577 : decode cL_law 577 = .ok (.ifCond .lt 66, 3) := by decide +kernel
theorem dL_law_580 : decode cL_law 580 = .ok (.aload_n 1, 1) := by decide +kernel
theorem dL_law_581 : decode cL_law 581 = .ok (.iload 6, 2) := by decide +kernel
theorem dL_law_583 : decode cL_law 583 = .ok (.iconst 3, 1) := by decide +kernel
theorem dL_law_584 : decode cL_law 584 = .ok (.invokevirtual 23, 3) := by decide +kernel
theorem dL_law_587 : decode cL_law 587 = .ok (.istore 8, 2) := by decide +kernel
theorem dL_law_589 : decode cL_law 589 = .ok (.aload_n 1, 1) := by decide +kernel
theorem dL_law_590 : decode cL_law 590 = .ok (.iload 6, 2) := by decide +kernel
theorem dL_law_592 : decode cL_law 592 = .ok (.iconst 5, 1) := by decide +kernel
theorem dL_law_593 : decode cL_law 593 = .ok (.invokevirtual 23, 3) := by decide +kernel
theorem dL_law_596 : decode cL_law 596 = .ok (.istore 9, 2) := by decide +kernel
theorem dL_law_598 : decode cL_law 598 = .ok (.aload_n 1, 1) := by decide +kernel
theorem dL_law_599 : decode cL_law 599 = .ok (.iload 6, 2) := by decide +kernel
theorem dL_law_601 : decode cL_law 601 = .ok (.invokevirtual 84, 3) := by decide +kernel
theorem dL_law_604 : decode cL_law 604 = .ok (.iload 8, 2) := by decide +kernel
theorem dL_law_606 : decode cL_law 606 = .ok (.if_icmp .ne 32, 3) := by decide +kernel
theorem dL_law_609 : decode cL_law 609 = .ok (.aload_n 1, 1) := by decide +kernel
theorem dL_law_610 : decode cL_law 610 = .ok (.iload 6, 2) := by decide +kernel
theorem dL_law_612 : decode cL_law 612 = .ok (.iconst 5, 1) := by decide +kernel
theorem dL_law_613 : decode cL_law 613 = .ok (.invokevirtual 23, 3) := by decide +kernel
theorem dL_law_616 : decode cL_law 616 = .ok (.iload 9, 2) := by decide +kernel
theorem dL_law_618 : decode cL_law 618 = .ok (.iconst 1, 1) := by decide +kernel
theorem dL_law_619 : decode cL_law 619 = .ok (.iadd, 1) := by decide +kernel
theorem dL_law_620 : decode cL_law 620 = .ok (.if_icmp .ne 18, 3) := by decide +kernel
theorem dL_law_623 : decode cL_law 623 = .ok (.aload_n 1, 1) := by decide +kernel
theorem dL_law_624 : decode cL_law 624 = .ok (.iload 6, 2) := by decide +kernel
theorem dL_law_626 : decode cL_law 626 = .ok (.iconst 2, 1) := by decide +kernel
theorem dL_law_627 : decode cL_law 627 = .ok (.invokevirtual 23, 3) := by decide +kernel
theorem dL_law_630 : decode cL_law 630 = .ok (.iconst (-1), 1) := by decide +kernel
theorem dL_law_631 : decode cL_law 631 = .ok (.if_icmp .ne 7, 3) := by decide +kernel
theorem dL_law_634 : decode cL_law 634 = .ok (.iconst 1, 1) := by decide +kernel
theorem dL_law_635 : decode cL_law 635 = .ok (.goto 4, 3) := by decide +kernel
theorem dL_law_638 : decode cL_law 638 = .ok (.iconst 0, 1) := by decide +kernel
theorem dL_law_639 : decode cL_law 639 = .ok (.istore_n 3, 1) := by decide +kernel
theorem dL_law_640 : decode cL_law 640 = .ok (.goto 44, 3) := by decide +kernel
theorem dL_law_643 : decode cL_law 643 = .ok (.iload 7, 2) := by decide +kernel
theorem dL_law_645 : decode cL_law 645 = .ok (.bipush 11, 2) := by decide +kernel
theorem dL_law_647 : decode cL_law 647 = .ok (.if_icmp .le 37, 3) := by decide +kernel
theorem dL_law_650 : decode cL_law 650 = .ok (.aload_n 1, 1) := by decide +kernel
theorem dL_law_651 : decode cL_law 651 = .ok (.iconst 1, 1) := by decide +kernel
theorem dL_law_652 : decode cL_law 652 = .ok (.iload 5, 2) := by decide +kernel
theorem dL_law_654 : decode cL_law 654 = .ok (.bipush 7, 2) := by decide +kernel
theorem dL_law_656 : decode cL_law 656 = .ok (.ishr, 1) := by decide +kernel
theorem dL_law_657 : decode cL_law 657 = .ok (.bipush 6, 2) := by decide +kernel
theorem dL_law_659 : decode cL_law 659 = .ok (.invokestatic 63, 3) := by decide +kernel
theorem dL_law_662 : decode cL_law 662 = .ok (.iadd, 1) := by decide +kernel
theorem dL_law_663 : decode cL_law 663 = .ok (.iload 6, 2) := by decide +kernel
theorem dL_law_665 : decode cL_law 665 = .ok (.invokestatic 87, 3) := by decide +kernel
theorem dL_law_668 : decode cL_law 668 = .ok (.ifCond .eq 14, 3) := by decide +kernel
theorem dL_law_671 : decode cL_law 671 = .ok (.aload_n 1, 1) := by decide +kernel
theorem dL_law_672 : decode cL_law 672 = .ok (.invokestatic 90, 3) := by decide +kernel
theorem dL_law_675 : decode cL_law 675 = .ok (.ifCond .eq 7, 3) := by decide +kernel
theorem dL_law_678 : decode cL_law 678 = .ok (.iconst 1, 1) := by decide +kernel
theorem dL_law_679 : decode cL_law 679 = .ok (.goto 4, 3) := by decide +kernel
theorem dL_law_682 : decode cL_law 682 = .ok (.iconst 0, 1) := by decide +kernel
theorem dL_law_683 : decode cL_law 683 = .ok (.istore_n 3, 1) := by decide +kernel
theorem dL_law_684 : decode cL_law 684 = .ok (.iload_n 3, 1) := by decide +kernel
theorem dL_law_685 : decode cL_law 685 = .ok (.ifCond .eq 14, 3) := by decide +kernel
theorem dL_law_688 : decode cL_law 688 = .ok (.aload_n 1, 1) := by decide +kernel
theorem dL_law_689 : decode cL_law 689 = .ok (.invokestatic 53, 3) := by decide +kernel
theorem dL_law_692 : decode cL_law 692 = .ok (.ifCond .eq 7, 3) := by decide +kernel
theorem dL_law_695 : decode cL_law 695 = .ok (.iconst 1, 1) := by decide +kernel
theorem dL_law_696 : decode cL_law 696 = .ok (.goto 4, 3) := by decide +kernel
theorem dL_law_699 : decode cL_law 699 = .ok (.iconst 0, 1) := by decide +kernel
theorem dL_law_700 : decode cL_law 700 = .ok (.istore_n 3, 1) := by decide +kernel
theorem dL_law_701 : decode cL_law 701 = .ok (.iinc 4 1, 3) := by decide +kernel
theorem dL_law_704 : decode cL_law 704 = .ok (.goto (-494), 3) := by decide +kernel
theorem dL_law_707 : decode cL_law 707 = .ok (.aload_n 1, 1) := by decide +kernel
theorem dL_law_708 : decode cL_law 708 = .ok (.iconst 2, 1) := by decide +kernel
theorem dL_law_709 : decode cL_law 709 = .ok (.invokevirtual 16, 3) := by decide +kernel
theorem dL_law_712 : decode cL_law 712 = .ok (.istore 4, 2) := by decide +kernel
theorem dL_law_714 : decode cL_law 714 = .ok (.iload_n 3, 1) := by decide +kernel
theorem dL_law_715 : decode cL_law 715 = .ok (.ifCond .eq 23, 3) := by decide +kernel
theorem dL_law_718 : decode cL_law 718 = .ok (.aload_n 1, 1) := by decide +kernel
theorem dL_law_719 : decode cL_law 719 = .ok (.invokevirtual 93, 3) := by decide +kernel
theorem dL_law_722 : decode cL_law 722 = .ok (.iload 4, 2) := by decide +kernel
theorem dL_law_724 : decode cL_law 724 = .ok (.if_icmp .ne 14, 3) := by decide +kernel
theorem dL_law_727 : decode cL_law 727 = .ok (.aload_n 1, 1) := by decide +kernel
theorem dL_law_728 : decode cL_law 728 = .ok (.invokestatic 53, 3) := by decide +kernel
theorem dL_law_731 : decode cL_law 731 = .ok (.ifCond .eq 7, 3) := by decide +kernel
theorem dL_law_734 : decode cL_law 734 = .ok (.iconst 1, 1) := by decide +kernel
theorem dL_law_735 : decode cL_law 735 = .ok (.goto 4, 3) := by decide +kernel
theorem dL_law_738 : decode cL_law 738 = .ok (.iconst 0, 1) := by decide +kernel
theorem dL_law_739 : decode cL_law 739 = .ok (.ireturn, 1) := by decide +kernel
