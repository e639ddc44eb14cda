theorem dL_isValleySo_0 : decode cL_isValleySo 0 = .ok (.iconst 0, 1) := by decide +kernel
theorem dL_isValleySo_1 : decode cL_isValleySo 1 = .ok (.istore_n 1, 1) := by decide +kernel
theorem dL_isValleySo_2 : decode cL_isValleySo 2 = .ok (.iconst 0, 1) := by decide +kernel
theorem dL_isValleySo_3 : decode cL_isValleySo 3 = .ok (.istore_n 2, 1) := by decide +kernel
theorem dL_isValleySo_4 : decode cL_isValleySo 4 = .ok (.iconst 0, 1) := by decide +kernel
theorem dL_isValleySo_5 : decode cL_isValleySo 5 = .ok (.istore_n 3, 1) := by decide +kernel
theorem dL_isValleySo_6 : decode cL_isValleySo 6 = .ok (.iconst 0, 1) := by decide +kernel
theorem dL_isValleySo_7 : decode cL_isValleySo 7 = .ok (.istore 4, 2) := by decide +kernel
theorem dL_isValleySo_9 : decode cL_isValleySo 9 = .ok (.iconst 0, 1) := by decide +kernel
theorem dL_isValleySo_10 : decode cL_isValleySo 10 = .ok (.istore 5, 2) := by decide +kernel
theorem dL_isValleySo_12 : decode cL_isValleySo 12 = .ok (.iconst 1, 1) := by decide +kernel
theorem dL_isValleySo_13 : decode cL_isValleySo 13 = .ok (.istore 6, 2) := by decide +kernel
theorem dL_isValleySo_15 : decode cL_isValleySo 15 = .ok (.iconst 0, 1) := by decide +kernel
theorem dL_isValleySo_16 : decode cL_isValleySo 16 = .ok (.istore 7, 2) := by decide +kernel
theorem dL_isValleySo_18 : decode cL_isValleySo 18 = .ok (.iload 7, 2) := by decide +kernel
theorem dL_isValleySo_20 : decode cL_isValleySo 20 = .ok (.bipush 6, 2) := by decide +kernel
theorem dL_isValleySo_22 : decode cL_isValleySo 22 = .ok (.if_icmp .ge 229, 3) := by decide +kernel
theorem dL_isValleySo_25 : decode cL_isValleySo 25 = .ok (.iload_n 1, 1) := by decide +kernel
theorem dL_isValleySo_26 : decode cL_isValleySo 26 = .ok (.aload_n 0, 1) := by decide +kernel
theorem dL_isValleySo_27 : decode cL_isValleySo 27 = .ok (.iload 7, 2) := by decide +kernel
theorem dL_isValleySo_29 : decode cL_isValleySo 29 = .ok (.bipush 7, 2) := by decide +kernel
theorem dL_isValleySo_31 : decode cL_isValleySo 31 = .ok (.invokevirtual 43, 3) := by decide +kernel
theorem dL_isValleySo_34 : decode cL_isValleySo 34 = .ok (.iadd, 1) := by decide +kernel
theorem dL_isValleySo_35 : decode cL_isValleySo 35 = .ok (.istore_n 1, 1) := by decide +kernel
theorem dL_isValleySo_36 : decode cL_isValleySo 36 = .ok (.iload_n 2, 1) := by decide +kernel
theorem dL_isValleySo_37 : decode cL_isValleySo 37 = .ok (.aload_n 0, 1) := by decide +kernel
theorem dL_isValleySo_38 : decode cL_isValleySo 38 = .ok (.iload 7, 2) := by decide +kernel
theorem dL_isValleySo_40 : decode cL_isValleySo 40 = .ok (.bipush 8, 2) := by decide +kernel
theorem dL_isValleySo_42 : decode cL_isValleySo 42 = .ok (.invokevirtual 43, 3) := by decide +kernel
theorem dL_isValleySo_45 : decode cL_isValleySo 45 = .ok (.aload_n 0, 1) := by decide +kernel
theorem dL_isValleySo_46 : decode cL_isValleySo 46 = .ok (.iload 7, 2) := by decide +kernel
theorem dL_isValleySo_48 : decode cL_isValleySo 48 = .ok (.iconst 4, 1) := by decide +kernel
theorem dL_isValleySo_49 : decode cL_isValleySo 49 = .ok (.invokevirtual 43, 3) := by decide +kernel
theorem dL_isValleySo_52 : decode cL_isValleySo 52 = .ok (.iadd, 1) := by decide +kernel
theorem dL_isValleySo_53 : decode cL_isValleySo 53 = .ok (.iadd, 1) := by decide +kernel
theorem dL_isValleySo_54 : decode cL_isValleySo 54 = .ok (.istore_n 2, 1) := by decide +kernel
theorem dL_isValleySo_55 : decode cL_isValleySo 55 = .ok (.iload_n 3, 1) := by decide +kernel
theorem dL_isValleySo_56 : decode cL_isValleySo 56 = .ok (.aload_n 0, 1) := by decide +kernel
theorem dL_isValleySo_57 : decode cL_isValleySo 57 = .ok (.iload 7, 2) := by decide +kernel
theorem dL_isValleySo_59 : decode cL_isValleySo 59 = .ok (.iconst 5, 1) := by decide +kernel
theorem dL_isValleySo_60 : decode cL_isValleySo 60 = .ok (.invokevirtual 43, 3) := by decide +kernel
theorem dL_isValleySo_63 : decode cL_isValleySo 63 = .ok (.iadd, 1) := by decide +kernel
theorem dL_isValleySo_64 : decode cL_isValleySo 64 = .ok (.istore_n 3, 1) := by decide +kernel
theorem dL_isValleySo_65 : decode cL_isValleySo 65 = .ok (.iload 4, 2) := by decide +kernel
theorem dL_isValleySo_67 : decode cL_isValleySo 67 = .ok (.aload_n 0, 1) := by decide +kernel
theorem dL_isValleySo_68 : decode cL_isValleySo 68 = .ok (.iload 7, 2) := by decide +kernel
theorem dL_isValleySo_70 : decode cL_isValleySo 70 = .ok (.iconst 0, 1) := by decide +kernel
theorem dL_isValleySo_71 : decode cL_isValleySo 71 = .ok (.invokevirtual 46, 3) := by decide +kernel
theorem dL_isValleySo_74 : decode cL_isValleySo 74 = .ok (.iadd, 1) := by decide +kernel
theorem dL_isValleySo_75 : decode cL_isValleySo 75 = .ok (.istore 4, 2) := by decide +kernel
theorem dL_isValleySo_77 : decode cL_isValleySo 77 = .ok (.iload 5, 2) := by decide +kernel
theorem dL_isValleySo_79 : decode cL_isValleySo 79 = .ok (.aload_n 0, 1) := by decide +kernel
theorem dL_isValleySo_80 : decode cL_isValleySo 80 = .ok (.iload 7, 2) := by decide +kernel
theorem dL_isValleySo_82 : decode cL_isValleySo 82 = .ok (.iconst 3, 1) := by decide +kernel
theorem dL_isValleySo_83 : decode cL_isValleySo 83 = .ok (.invokevirtual 46, 3) := by decide +kernel
theorem dL_isValleySo_86 : decode cL_isValleySo 86 = .ok (.ifCond .ne 7, 3) := by decide +kernel
theorem dL_isValleySo_89 : decode cL_isValleySo 89 = .ok (.iconst 0, 1) := by decide +kernel
theorem dL_isValleySo_90 : decode cL_isValleySo 90 = .ok (.goto 4, 3) := by decide +kernel
theorem dL_isValleySo_93 : decode cL_isValleySo 93 = .ok (.iconst 1, 1) := by decide +kernel
theorem dL_isValleySo_94 : decode cL_isValleySo 94 = .ok (.iadd, 1) := by decide +kernel
theorem dL_isValleySo_95 : decode cL_isValleySo 95 = .ok (.istore 5, 2) := by decide +kernel
theorem dL_isValleySo_97 : decode cL_isValleySo 97 = .ok (.iload 6, 2) := by decide +kernel
theorem dL_isValleySo_99 : decode cL_isValleySo 99 = .ok (.ifCond .eq 143, 3) := by decide +kernel
theorem dL_isValleySo_102 : decode cL_isValleySo 102 = .ok (.aload_n 0, 1) := by decide +kernel
theorem dL_isValleySo_103 : decode cL_isValleySo 103 = .ok (.iload 7, 2) := by decide +kernel
theorem dL_isValleySo_105 : decode cL_isValleySo 105 = .ok (.bipush 7, 2) := by decide +kernel
theorem dL_isValleySo_107 : decode cL_isValleySo 107 = .ok (.invokevirtual 43, 3) := by decide +kernel
theorem dL_isValleySo_110 : decode cL_isValleySo 110 = .ok (.aload_n 0, 1) := by decide +kernel
theorem dL_isValleySo_111 : decode cL_isValleySo 111 = .ok (.iload 7, 2) := by decide +kernel
theorem dL_isValleySo_113 : decode cL_isValleySo 113 = .ok (.bipush 8, 2) := by decide +kernel
theorem dL_isValleySo_115 : decode cL_isValleySo 115 = .ok (.invokevirtual 43, 3) := by decide +kernel
theorem dL_isValleySo_118 : decode cL_isValleySo 118 = .ok (.aload_n 0, 1) := by decide +kernel
theorem dL_isValleySo_119 : decode cL_isValleySo 119 = .ok (.iload 7, 2) := by decide +kernel
theorem dL_isValleySo_121 : decode cL_isValleySo 121 = .ok (.iconst 4, 1) := by decide +kernel
theorem dL_isValleySo_122 : decode cL_isValleySo 122 = .ok (.invokevirtual 43, 3) := by decide +kernel
theorem dL_isValleySo_125 : decode cL_isValleySo 125 = .ok (.iadd, 1) := by decide +kernel
theorem dL_isValleySo_126 : decode cL_isValleySo 126 = .ok (.if_icmp .ne 116, 3) := by decide +kernel
theorem dL_isValleySo_129 : decode cL_isValleySo 129 = .ok (.aload_n 0, 1) := by decide +kernel
theorem dL_isValleySo_130 : decode cL_isValleySo 130 = .ok (.iload 7, 2) := by decide +kernel
theorem dL_isValleySo_132 : decode cL_isValleySo 132 = .ok (.bipush 6, 2) := by decide +kernel
theorem dL_isValleySo_134 : decode cL_isValleySo 134 = .ok (.invokevirtual 43, 3) := by decide +kernel
theorem dL_isValleySo_137 : decode cL_isValleySo 137 = .ok (.aload_n 0, 1) := by decide +kernel
theorem dL_isValleySo_138 : decode cL_isValleySo 138 = .ok (.iload 7, 2) := by decide +kernel
theorem dL_isValleySo_140 : decode cL_isValleySo 140 = .ok (.iconst 5, 1) := by decide +kernel
theorem dL_isValleySo_141 : decode cL_isValleySo 141 = .ok (.invokevirtual 43, 3) := by decide +kernel
theorem dL_isValleySo_144 : decode cL_isValleySo 144 = .ok (.aload_n 0, 1) := by decide +kernel
theorem dL_isValleySo_145 : decode cL_isValleySo 145 = .ok (.iconst 0, 1) := by decide +kernel
theorem dL_isValleySo_146 : decode cL_isValleySo 146 = .ok (.invokevirtual 19, 3) := by decide +kernel
theorem dL_isValleySo_149 : decode cL_isValleySo 149 = .ok (.irem, 1) := by decide +kernel
theorem dL_isValleySo_150 : decode cL_isValleySo 150 = .ok (.if_icmp .ne 92, 3) := by decide +kernel
theorem dL_isValleySo_153 : decode cL_isValleySo 153 = .ok (.aload_n 0, 1) := by decide +kernel
theorem dL_isValleySo_154 : decode cL_isValleySo 154 = .ok (.iload 7, 2) := by decide +kernel
theorem dL_isValleySo_156 : decode cL_isValleySo 156 = .ok (.iconst 3, 1) := by decide +kernel
theorem dL_isValleySo_157 : decode cL_isValleySo 157 = .ok (.invokevirtual 46, 3) := by decide +kernel
theorem dL_isValleySo_160 : decode cL_isValleySo 160 = .ok (.aload_n 0, 1) := by decide +kernel
theorem dL_isValleySo_161 : decode cL_isValleySo 161 = .ok (.iload 7, 2) := by decide +kernel
theorem dL_isValleySo_163 : decode cL_isValleySo 163 = .ok (.iconst 5, 1) := by decide +kernel
theorem dL_isValleySo_164 : decode cL_isValleySo 164 = .ok (.invokevirtual 43, 3) := by decide +kernel
theorem dL_isValleySo_167 : decode cL_isValleySo 167 = .ok (.aload_n 0, 1) := by decide +kernel
theorem dL_isValleySo_168 : decode cL_isValleySo 168 = .ok (.iload 7, 2) := by decide +kernel
theorem dL_isValleySo_170 : decode cL_isValleySo 170 = .ok (.iconst 0, 1) := by decide +kernel
theorem dL_isValleySo_171 : decode cL_isValleySo 171 = .ok (.invokevirtual 46, 3) := by decide +kernel
theorem dL_isValleySo_174 : decode cL_isValleySo 174 = .ok (.isub, 1) := by decide +kernel
theorem dL_isValleySo_175 : decode cL_isValleySo 175 = .ok (.if_icmp .ne 67, 3) := by decide +kernel
theorem dL_isValleySo_178 : decode cL_isValleySo 178 = .ok (.aload_n 0, 1) := by decide +kernel
theorem dL_isValleySo_179 : decode cL_isValleySo 179 = .ok (.iload 7, 2) := by decide +kernel
theorem dL_isValleySo_181 : decode cL_isValleySo 181 = .ok (.iconst 1, 1) := by decide +kernel
theorem dL_isValleySo_182 : decode cL_isValleySo 182 = .ok (.invokevirtual 46, 3) := by decide +kernel
theorem dL_isValleySo_185 : decode cL_isValleySo 185 = .ok (.aload_n 0, 1) := by decide +kernel
theorem dL_isValleySo_186 : decode cL_isValleySo 186 = .ok (.iconst 2, 1) := by decide +kernel
theorem dL_isValleySo_187 : decode cL_isValleySo 187 = .ok (.invokevirtual 19, 3) := by decide +kernel
theorem dL_isValleySo_190 : decode cL_isValleySo 190 = .ok (.if_icmp .gt 52, 3) := by decide +kernel
theorem dL_isValleySo_193 : decode cL_isValleySo 193 = .ok (.aload_n 0, 1) := by decide +kernel
theorem dL_isValleySo_194 : decode cL_isValleySo 194 = .ok (.iload 7, 2) := by decide +kernel
theorem dL_isValleySo_196 : decode cL_isValleySo 196 = .ok (.iconst 2, 1) := by decide +kernel
theorem dL_isValleySo_197 : decode cL_isValleySo 197 = .ok (.invokevirtual 46, 3) := by decide +kernel
theorem dL_isValleySo_200 : decode cL_isValleySo 200 = .ok (.aload_n 0, 1) := by decide +kernel
theorem dL_isValleySo_201 : decode cL_isValleySo 201 = .ok (.iconst 0, 1) := by decide +kernel
theorem dL_isValleySo_202 : decode cL_isValleySo 202 = .ok (.invokevirtual 19, 3) := by decide +kernel
theorem dL_isValleySo_205 : decode cL_isValleySo 205 = .ok (.if_icmp .ge 37, 3) := by decide +kernel
theorem dL_isValleySo_208 : decode cL_isValleySo 208 = .ok (.aload_n 0, 1) := by decide +kernel
theorem dL_isValleySo_209 : decode cL_isValleySo 209 = .ok (.iload 7, 2) := by decide +kernel
theorem dL_isValleySo_211 : decode cL_isValleySo 211 = .ok (.iconst 4, 1) := by decide +kernel
theorem dL_isValleySo_212 : decode cL_isValleySo 212 = .ok (.invokevirtual 46, 3) := by decide +kernel
theorem dL_isValleySo_215 : decode cL_isValleySo 215 = .ok (.ifCond .gt 23, 3) := by decide +kernel
theorem dL_isValleySo_218 : decode cL_isValleySo 218 = .ok (.aload_n 0, 1) := by decide +kernel
theorem dL_isValleySo_219 : decode cL_isValleySo 219 = .ok (.iload 7, 2) := by decide +kernel
theorem dL_isValleySo_221 : decode cL_isValleySo 221 = .ok (.iconst 0, 1) := by decide +kernel
theorem dL_isValleySo_222 : decode cL_isValleySo 222 = .ok (.invokevirtual 46, 3) := by decide +kernel
theorem dL_isValleySo_225 : decode cL_isValleySo 225 = .ok (.ifCond .ne 17, 3) := by decide +kernel
theorem dL_isValleySo_228 : decode cL_isValleySo 228 = .ok (.aload_n 0, 1) := by decide +kernel
theorem dL_isValleySo_229 : decode cL_isValleySo 229 = .ok (.iload 7, 2) := by decide +kernel
theorem dL_isValleySo_231 : decode cL_isValleySo 231 = .ok (.iconst 1, 1) := by decide +kernel
theorem dL_isValleySo_232 : decode cL_isValleySo 232 = .ok (.invokevirtual 46, 3) := by decide +kernel
theorem dL_isValleySo_235 : decode cL_isValleySo 235 = .ok (.ifCond .ne 7, 3) := by decide +kernel
theorem dL_isValleySo_238 : decode cL_isValleySo 238 = .ok (.iconst 1, 1) := by decide +kernel
theorem dL_isValleySo_239 : decode cL_isValleySo 239 = .ok (.goto 4, 3) := by decide +kernel
theorem dL_isValleySo_242 : decode cL_isValleySo 242 = .ok (.iconst 0, 1) := by decide +kernel
theorem dL_isValleySo_243 : decode cL_isValleySo 243 = .ok (.istore 6, 2) := by decide +kernel
theorem dL_isValleySo_245 : decode cL_isValleySo 245 = .ok (.iinc 7 1, 3) := by decide +kernel
theorem dL_isValleySo_248 : decode cL_isValleySo 248 = .ok (.goto (-230), 3) := by decide +kernel
theorem dL_isValleySo_251 : decode cL_isValleySo 251 = .ok (.iconst 0, 1) := by decide +kernel
theorem dL_isValleySo_252 : decode cL_isValleySo 252 = .ok (.istore 7, 2) := by decide +kernel
theorem dL_isValleySo_254 : decode cL_isValleySo 254 = .ok (.iload 7, 2) := by decide +kernel
theorem dL_isValleySo_256 : decode cL_isValleySo 256 = .ok (.aload_n 0, 1) := by decide +kernel
theorem dL_isValleySo_257 : decode cL_isValleySo 257 = .ok (.iconst 3, 1) := by decide +kernel
theorem dL_isValleySo_258 : decode cL_isValleySo 258 = .ok (.invokevirtual 19, 3) := by decide +kernel
theorem dL_isValleySo_261 : decode cL_isValleySo 261 = .ok (.if_icmp .ge 73, 3) := by decide +kernel
theorem dL_isValleySo_264 : decode cL_isValleySo 264 = .ok (.iload 6, 2) := by decide +kernel
theorem dL_isValleySo_266 : decode cL_isValleySo 266 = .ok (.ifCond .eq 59, 3) := by decide +kernel
theorem dL_isValleySo_269 : decode cL_isValleySo 269 = .ok (.aload_n 0, 1) := by decide +kernel
theorem dL_isValleySo_270 : decode cL_isValleySo 270 = .ok (.iload 7, 2) := by decide +kernel
theorem dL_isValleySo_272 : decode cL_isValleySo 272 = .ok (.iconst 1, 1) := by decide +kernel
theorem dL_isValleySo_273 : decode cL_isValleySo 273 = .ok (.invokevirtual 49, 3) := by decide +kernel
theorem dL_isValleySo_276 : decode cL_isValleySo 276 = .ok (.aload_n 0, 1) := by decide +kernel
theorem dL_isValleySo_277 : decode cL_isValleySo 277 = .ok (.iconst 0, 1) := by decide +kernel
theorem dL_isValleySo_278 : decode cL_isValleySo 278 = .ok (.invokevirtual 19, 3) := by decide +kernel
theorem dL_isValleySo_281 : decode cL_isValleySo 281 = .ok (.if_icmp .ge 44, 3) := by decide +kernel
theorem dL_isValleySo_284 : decode cL_isValleySo 284 = .ok (.aload_n 0, 1) := by decide +kernel
theorem dL_isValleySo_285 : decode cL_isValleySo 285 = .ok (.iload 7, 2) := by decide +kernel
theorem dL_isValleySo_287 : decode cL_isValleySo 287 = .ok (.iconst 2, 1) := by decide +kernel
theorem dL_isValleySo_288 : decode cL_isValleySo 288 = .ok (.invokevirtual 49, 3) := by decide +kernel
theorem dL_isValleySo_291 : decode cL_isValleySo 291 = .ok (.aload_n 0, 1) := by decide +kernel
theorem dL_isValleySo_292 : decode cL_isValleySo 292 = .ok (.iconst 2, 1) := by decide +kernel
theorem dL_isValleySo_293 : decode cL_isValleySo 293 = .ok (.invokevirtual 19, 3) := by decide +kernel
theorem dL_isValleySo_296 : decode cL_isValleySo 296 = .ok (.if_icmp .gt 29, 3) := by decide +kernel
theorem dL_isValleySo_299 : decode cL_isValleySo 299 = .ok (.aload_n 0, 1) := by decide +kernel
theorem dL_isValleySo_300 : decode cL_isValleySo 300 = .ok (.iload 7, 2) := by decide +kernel
theorem dL_isValleySo_302 : decode cL_isValleySo 302 = .ok (.iconst 3, 1) := by decide +kernel
theorem dL_isValleySo_303 : decode cL_isValleySo 303 = .ok (.invokevirtual 49, 3) := by decide +kernel
theorem dL_isValleySo_306 : decode cL_isValleySo 306 = .ok (.ifCond .le 19, 3) := by decide +kernel
theorem dL_isValleySo_309 : decode cL_isValleySo 309 = .ok (.aload_n 0, 1) := by decide +kernel
theorem dL_isValleySo_310 : decode cL_isValleySo 310 = .ok (.iload 7, 2) := by decide +kernel
theorem dL_isValleySo_312 : decode cL_isValleySo 312 = .ok (.iconst 3, 1) := by decide +kernel
theorem dL_isValleySo_313 : decode cL_isValleySo 313 = .ok (.invokevirtual 49, 3) := by decide +kernel
theorem dL_isValleySo_316 : decode cL_isValleySo 316 = .ok (.bipush 70, 2) := by decide +kernel
theorem dL_isValleySo_318 : decode cL_isValleySo 318 = .ok (.if_icmp .ge 7, 3) := by decide +kernel
theorem dL_isValleySo_321 : decode cL_isValleySo 321 = .ok (.iconst 1, 1) := by decide +kernel
theorem dL_isValleySo_322 : decode cL_isValleySo 322 = .ok (.goto 4, 3) := by decide +kernel
theorem dL_isValleySo_325 : decode cL_isValleySo 325 = .ok (.iconst 0, 1) := by decide +kernel
theorem dL_isValleySo_326 : decode cL_isValleySo 326 = .ok (.istore 6, 2) := by decide +kernel
theorem dL_isValleySo_328 : decode cL_isValleySo 328 = .ok (.iinc 7 1, 3) := by decide +kernel
theorem dL_isValleySo_331 : decode cL_isValleySo 331 = .ok (.goto (-77), 3) := by decide +kernel
theorem dL_isValleySo_334 : decode cL_isValleySo 334 = .ok (.iload 6, 2) := by decide +kernel
theorem dL_isValleySo_336 : decode cL_isValleySo 336 = .ok (.ifCond .eq 62, 3) := by decide +kernel
theorem dL_isValleySo_339 : decode cL_isValleySo 339 = .ok (.iload_n 1, 1) := by decide +kernel
theorem dL_isValleySo_340 : decode cL_isValleySo 340 = .ok (.aload_n 0, 1) := by decide +kernel
theorem dL_isValleySo_341 : decode cL_isValleySo 341 = .ok (.iconst 4, 1) := by decide +kernel
theorem dL_isValleySo_342 : decode cL_isValleySo 342 = .ok (.invokevirtual 19, 3) := by decide +kernel
theorem dL_isValleySo_345 : decode cL_isValleySo 345 = .ok (.if_icmp .ne 53, 3) := by decide +kernel
theorem dL_isValleySo_348 : decode cL_isValleySo 348 = .ok (.iload_n 2, 1) := by decide +kernel
theorem dL_isValleySo_349 : decode cL_isValleySo 349 = .ok (.aload_n 0, 1) := by decide +kernel
theorem dL_isValleySo_350 : decode cL_isValleySo 350 = .ok (.iconst 5, 1) := by decide +kernel
theorem dL_isValleySo_351 : decode cL_isValleySo 351 = .ok (.invokevirtual 19, 3) := by decide +kernel
theorem dL_isValleySo_354 : decode cL_isValleySo 354 = .ok (.if_icmp .ne 44, 3) := by decide +kernel
theorem dL_isValleySo_357 : decode cL_isValleySo 357 = .ok (.iload_n 1, 1) := by decide +kernel
theorem dL_isValleySo_358 : decode cL_isValleySo 358 = .ok (.iload_n 2, 1) := by decide +kernel
theorem dL_isValleySo_359 : decode cL_isValleySo 359 = .ok (.if_icmp .ne 39, 3) := by decide +kernel
theorem dL_isValleySo_362 : decode cL_isValleySo 362 = .ok (.iload_n 3, 1) := by decide +kernel
theorem dL_isValleySo_363 : decode cL_isValleySo 363 = .ok (.aload_n 0, 1) := by decide +kernel
theorem dL_isValleySo_364 : decode cL_isValleySo 364 = .ok (.bipush 6, 2) := by decide +kernel
theorem dL_isValleySo_366 : decode cL_isValleySo 366 = .ok (.invokevirtual 19, 3) := by decide +kernel
theorem dL_isValleySo_369 : decode cL_isValleySo 369 = .ok (.if_icmp .ne 29, 3) := by decide +kernel
theorem dL_isValleySo_372 : decode cL_isValleySo 372 = .ok (.iload 4, 2) := by decide +kernel
theorem dL_isValleySo_374 : decode cL_isValleySo 374 = .ok (.aload_n 0, 1) := by decide +kernel
theorem dL_isValleySo_375 : decode cL_isValleySo 375 = .ok (.bipush 7, 2) := by decide +kernel
theorem dL_isValleySo_377 : decode cL_isValleySo 377 = .ok (.invokevirtual 19, 3) := by decide +kernel
theorem dL_isValleySo_380 : decode cL_isValleySo 380 = .ok (.if_icmp .ne 18, 3) := by decide +kernel
theorem dL_isValleySo_383 : decode cL_isValleySo 383 = .ok (.iload 5, 2) := by decide +kernel
theorem dL_isValleySo_385 : decode cL_isValleySo 385 = .ok (.aload_n 0, 1) := by decide +kernel
theorem dL_isValleySo_386 : decode cL_isValleySo 386 = .ok (.bipush 8, 2) := by decide +kernel
theorem dL_isValleySo_388 : decode cL_isValleySo 388 = .ok (.invokevirtual 19, 3) := by decide +kernel
theorem dL_isValleySo_391 : decode cL_isValleySo 391 = .ok (.if_icmp .ne 7, 3) := by decide +kernel
theorem dL_isValleySo_394 : decode cL_isValleySo 394 = .ok (.iconst 1, 1) := by decide +kernel
theorem dL_isValleySo_395 : decode cL_isValleySo 395 = .ok (.goto 4, 3) := by decide +kernel
theorem dL_isValleySo_398 : decode cL_isValleySo 398 = .ok (.iconst 0, 1) := by decide +kernel
theorem dL_isValleySo_399 : decode cL_isValleySo 399 = .ok (.ireturn, 1) := by decide +kernel
set_option maxHeartbeats 4000000 in
set_option maxRecDepth 100000 in
/-- the valley is as the law says -/
theorem k_L_isValleySo (l : Launch) (g : GG) (A : Nat → Prop) (M0 : MM) (X : Nat) (κ : CS) (B H T : Nat) (hXS : RXS g A M0 M0 X κ) (S : zSI B H T κ) (hB : B < 70) (hH : H ≤ 10000) : Met l yL_isValleySo (Uw yL_isValleySo cL_isValleySo 8 (Option.some ClassFile.FieldType.boolean)) (rmD 4) (PreM [.ref (X)] g A M0) (PosI (fun r M1 => r = 1 ∧ M1 = M0) g A) 0 0 A := by
  refine mk_Met (own := RL) rfl rfl (by decide) (Nat.le_of_ble_eq_true rfl) ?_
  intro p e s m below meth c ls aa Q haa hQ hx hb hr hlk hml hown hts hK hM hS hl hnm
  obtain ⟨M, hMM⟩ : ∃ M, M = M0 := ⟨_, rfl⟩
  rw [← hMM] at hM hXS
  have ht : ∀ w ∈ lw_good, w.before _ s = true := fun w h => hts w (List.mem_cons_of_mem _ h)
  have hl : lv_has ls 8 [(0, .ref (X))] := hl
  obtain ⟨hCI, ⟨n, h, hhH, hg, P⟩, hHis⟩ := id S
  have hn := P.2.1
  have hh2 := P.2.2.2.1
  refine lv_iconst (v := nI 0) hx hb dL_isValleySo_0 (by first | rfl | decide) ?_
  refine lv_istore_n (lv' := [(1, .int (nI 0)), (0, .ref (X))]) hx hb dL_isValleySo_1 rfl hl (by decide) rfl (fun ls hl => ?_)
  refine lv_iconst (v := nI 0) hx hb dL_isValleySo_2 (by first | rfl | decide) ?_
  refine lv_istore_n (lv' := [(2, .int (nI 0)), (1, .int (nI 0)), (0, .ref (X))]) hx hb dL_isValleySo_3 rfl hl (by decide) rfl (fun ls hl => ?_)
  refine lv_iconst (v := nI 0) hx hb dL_isValleySo_4 (by first | rfl | decide) ?_
  refine lv_istore_n (lv' := [(3, .int (nI 0)), (2, .int (nI 0)), (1, .int (nI 0)), (0, .ref (X))]) hx hb dL_isValleySo_5 rfl hl (by decide) rfl (fun ls hl => ?_)
  refine lv_iconst (v := nI 0) hx hb dL_isValleySo_6 (by first | rfl | decide) ?_
  refine lv_istore (lv' := [(4, .int (nI 0)), (3, .int (nI 0)), (2, .int (nI 0)), (1, .int (nI 0)), (0, .ref (X))]) hx hb dL_isValleySo_7 hl (by decide) rfl (fun ls hl => ?_)
  refine lv_iconst (v := nI 0) hx hb dL_isValleySo_9 (by first | rfl | decide) ?_
  refine lv_istore (lv' := [(5, .int (nI 0)), (4, .int (nI 0)), (3, .int (nI 0)), (2, .int (nI 0)), (1, .int (nI 0)), (0, .ref (X))]) hx hb dL_isValleySo_10 hl (by decide) rfl (fun ls hl => ?_)
  refine lv_iconst (v := nI 1) hx hb dL_isValleySo_12 (by first | rfl | decide) ?_
  refine lv_istore (lv' := [(6, .int (nI 1)), (5, .int (nI 0)), (4, .int (nI 0)), (3, .int (nI 0)), (2, .int (nI 0)), (1, .int (nI 0)), (0, .ref (X))]) hx hb dL_isValleySo_13 hl (by decide) rfl (fun ls hl => ?_)
  refine lv_iconst (v := nI 0) hx hb dL_isValleySo_15 (by first | rfl | decide) ?_
  refine lv_istore (lv' := [(7, .int (nI 0)), (6, .int (nI 1)), (5, .int (nI 0)), (4, .int (nI 0)), (3, .int (nI 0)), (2, .int (nI 0)), (1, .int (nI 0)), (0, .ref (X))]) hx hb dL_isValleySo_16 hl (by decide) rfl (fun ls hl => ?_)
  have loop_18 : ∀ (z_18 : Nat) (i : Nat) (H : Heap) (locs : List Loc) (ls : Array Slot), 6 - i < z_18 → i ≤ 6 → HD g A M H → va_S A s.heap H locs → lv_has ls 8 [(7, .int (nI i)), (6, .int (nI 1)), (5, .int (gapN κ.1 i)), (4, .int (sumN (fun j => κ.1.2.1 j 8) i)), (3, .int (sumN (fun j => κ.1.2.1 j 5) i)), (2, .int (sumN (fun j => κ.1.2.1 j 7 + κ.1.2.1 j 4) i)), (1, .int (sumN (fun j => κ.1.2.1 j 6) i)), (0, .ref (X))] → W p l e (rmD 4) s m aa below meth c H locs 0 0 Q (F0 m 18 ls []) := by
    intro z_18
    induction z_18 with
    | zero => intro i H locs ls hz hi; exact absurd hz (Nat.not_lt_zero _)
    | succ z_18 ih_18 =>
    intro i H locs ls hz hi hM  hS hl
    refine lv_iload hx hb dL_isValleySo_18 (lv_at hl 0 rfl) ?_
    refine lv_bipush (v := nI 6) hx hb dL_isValleySo_20 (by first | rfl | decide) ?_
    refine lv_icmp_ge (tgt := 251) hx hb dL_isValleySo_22 (by decide) (fun c_22 => ?_) (fun c_22 => ?_)
    · have h6 : i = 6 := Nat.le_antisymm hi (nI_le_of (by omega) (by omega) c_22)
      subst h6
      refine lv_iconst (v := nI 0) hx hb dL_isValleySo_251 (by first | rfl | decide) ?_
      refine lv_istore (lv' := [(7, .int (nI 0)), (6, .int (nI 1)), (5, .int (gapN κ.1 6)), (4, .int (sumN (fun j => κ.1.2.1 j 8) 6)), (3, .int (sumN (fun j => κ.1.2.1 j 5) 6)), (2, .int (sumN (fun j => κ.1.2.1 j 7 + κ.1.2.1 j 4) 6)), (1, .int (sumN (fun j => κ.1.2.1 j 6) 6)), (0, .ref (X))]) hx hb dL_isValleySo_252 hl (by decide) rfl (fun ls hl => ?_)
      have loop_254 : ∀ (z_254 : Nat) (j : Nat) (H : Heap) (locs : List Loc) (ls : Array Slot), n - j < z_254 → j ≤ n → HD g A M H → va_S A s.heap H locs → lv_has ls 8 [(7, .int (nI j)), (6, .int (nI 1)), (5, .int (gapN κ.1 6)), (4, .int (sumN (fun j => κ.1.2.1 j 8) 6)), (3, .int (sumN (fun j => κ.1.2.1 j 5) 6)), (2, .int (sumN (fun j => κ.1.2.1 j 7 + κ.1.2.1 j 4) 6)), (1, .int (sumN (fun j => κ.1.2.1 j 6) 6)), (0, .ref (X))] → W p l e (rmD 4) s m aa below meth c H locs 0 0 Q (F0 m 254 ls []) := by
        intro z_254
        induction z_254 with
        | zero => intro j H locs ls hz2 hj; exact absurd hz2 (Nat.not_lt_zero _)
        | succ z_254 ih_254 =>
        intro j H locs ls hz2 hj hM  hS hl
        refine lv_iload hx hb dL_isValleySo_254 (lv_at hl 0 rfl) ?_
        refine lv_aload_n hx hb dL_isValleySo_256 rfl (lv_at hl 7 rfl) ?_
        refine lv_iconst (v := nI 3) hx hb dL_isValleySo_257 (by first | rfl | decide) ?_
        refine m_callRI (val := nI n) (As := [.int (nI 3)]) (rest := [.int (nI j)]) ⟨hx, hb, hml, hown, ht⟩ (q_count l g A M X hXS hCI ((cnt_3 _).trans hn)) (cwV 1 ht (gU uw_2012 uw_503 uw_504 uw_34 uw_505) rfl rfl rfl (by decide +kernel) ⟨Nat.le_of_ble_eq_true rfl, Nat.le_of_ble_eq_true rfl⟩) hK hM hS (m_recv hK hM hXS.ob.1 hXS.ob.2 rfl) rfl hl.1 rfl (Nat.le_of_ble_eq_true rfl) dL_isValleySo_258 ⟨Nat.le_of_ble_eq_true rfl, Nat.le_of_ble_eq_true rfl⟩ (fun H locs hM hS => ?_)
        refine lv_icmp_ge (tgt := 334) hx hb dL_isValleySo_261 (by decide) (fun c_261 => ?_) (fun c_261 => ?_)
        · refine lv_iload hx hb dL_isValleySo_334 (lv_at hl 1 rfl) ?_
          refine lv_if_eq (tgt := 398) hx hb dL_isValleySo_336 (by decide) (fun c_336 => absurd c_336 (by decide)) (fun c_336 => ?_)
          refine lv_iload_n hx hb dL_isValleySo_339 rfl (lv_at hl 6 rfl) ?_
          refine lv_aload_n hx hb dL_isValleySo_340 rfl (lv_at hl 7 rfl) ?_
          refine lv_iconst (v := nI 4) hx hb dL_isValleySo_341 (by first | rfl | decide) ?_
          refine m_callRI (val := sumN (fun i => κ.1.2.1 i 6) 6) (As := [.int (nI 4)]) (rest := [.int (sumN (fun j => κ.1.2.1 j 6) 6)]) ⟨hx, hb, hml, hown, ht⟩ (q_count l g A M X hXS hCI (cnt_4 _)) (cwV 1 ht (gU uw_2012 uw_503 uw_504 uw_34 uw_505) rfl rfl rfl (by decide +kernel) ⟨Nat.le_of_ble_eq_true rfl, Nat.le_of_ble_eq_true rfl⟩) hK hM hS (m_recv hK hM hXS.ob.1 hXS.ob.2 rfl) rfl hl.1 rfl (Nat.le_of_ble_eq_true rfl) dL_isValleySo_342 ⟨Nat.le_of_ble_eq_true rfl, Nat.le_of_ble_eq_true rfl⟩ (fun H locs hM hS => ?_)
          refine lv_icmp_ne (tgt := 398) hx hb dL_isValleySo_345 (by decide) (fun c_345 => absurd (rfl) c_345) (fun c_345 => ?_)
          refine lv_iload_n hx hb dL_isValleySo_348 rfl (lv_at hl 5 rfl) ?_
          refine lv_aload_n hx hb dL_isValleySo_349 rfl (lv_at hl 7 rfl) ?_
          refine lv_iconst (v := nI 5) hx hb dL_isValleySo_350 (by first | rfl | decide) ?_
          refine m_callRI (val := sumN (fun i => κ.1.2.1 i 7) 6 + sumN (fun i => κ.1.2.1 i 4) 6) (As := [.int (nI 5)]) (rest := [.int (sumN (fun j => κ.1.2.1 j 7 + κ.1.2.1 j 4) 6)]) ⟨hx, hb, hml, hown, ht⟩ (q_count l g A M X hXS hCI (cnt_5 _)) (cwV 1 ht (gU uw_2012 uw_503 uw_504 uw_34 uw_505) rfl rfl rfl (by decide +kernel) ⟨Nat.le_of_ble_eq_true rfl, Nat.le_of_ble_eq_true rfl⟩) hK hM hS (m_recv hK hM hXS.ob.1 hXS.ob.2 rfl) rfl hl.1 rfl (Nat.le_of_ble_eq_true rfl) dL_isValleySo_351 ⟨Nat.le_of_ble_eq_true rfl, Nat.le_of_ble_eq_true rfl⟩ (fun H locs hM hS => ?_)
          refine lv_icmp_ne (tgt := 398) hx hb dL_isValleySo_354 (by decide) (fun c_354 => absurd (sum_add _ _ 6) c_354) (fun c_354 => ?_)
          refine lv_iload_n hx hb dL_isValleySo_357 rfl (lv_at hl 6 rfl) ?_
          refine lv_iload_n hx hb dL_isValleySo_358 rfl (lv_at hl 5 rfl) ?_
          refine lv_icmp_ne (tgt := 398) hx hb dL_isValleySo_359 (by decide) (fun c_359 => absurd (P.all (by omega)) c_359) (fun c_359 => ?_)
          refine lv_iload_n hx hb dL_isValleySo_362 rfl (lv_at hl 4 rfl) ?_
          refine lv_aload_n hx hb dL_isValleySo_363 rfl (lv_at hl 7 rfl) ?_
          refine lv_bipush (v := nI 6) hx hb dL_isValleySo_364 (by first | rfl | decide) ?_
          refine m_callRI (val := sumN (fun i => κ.1.2.1 i 5) 6) (As := [.int (nI 6)]) (rest := [.int (sumN (fun j => κ.1.2.1 j 5) 6)]) ⟨hx, hb, hml, hown, ht⟩ (q_count l g A M X hXS hCI (cnt_6 _)) (cwV 1 ht (gU uw_2012 uw_503 uw_504 uw_34 uw_505) rfl rfl rfl (by decide +kernel) ⟨Nat.le_of_ble_eq_true rfl, Nat.le_of_ble_eq_true rfl⟩) hK hM hS (m_recv hK hM hXS.ob.1 hXS.ob.2 rfl) rfl hl.1 rfl (Nat.le_of_ble_eq_true rfl) dL_isValleySo_366 ⟨Nat.le_of_ble_eq_true rfl, Nat.le_of_ble_eq_true rfl⟩ (fun H locs hM hS => ?_)
          refine lv_icmp_ne (tgt := 398) hx hb dL_isValleySo_369 (by decide) (fun c_369 => absurd (rfl) c_369) (fun c_369 => ?_)
          refine lv_iload hx hb dL_isValleySo_372 (lv_at hl 3 rfl) ?_
          refine lv_aload_n hx hb dL_isValleySo_374 rfl (lv_at hl 7 rfl) ?_
          refine lv_bipush (v := nI 7) hx hb dL_isValleySo_375 (by first | rfl | decide) ?_
          refine m_callRI (val := sumN (fun i => κ.1.2.1 i 8) 6) (As := [.int (nI 7)]) (rest := [.int (sumN (fun j => κ.1.2.1 j 8) 6)]) ⟨hx, hb, hml, hown, ht⟩ (q_count l g A M X hXS hCI (cnt_7 _)) (cwV 1 ht (gU uw_2012 uw_503 uw_504 uw_34 uw_505) rfl rfl rfl (by decide +kernel) ⟨Nat.le_of_ble_eq_true rfl, Nat.le_of_ble_eq_true rfl⟩) hK hM hS (m_recv hK hM hXS.ob.1 hXS.ob.2 rfl) rfl hl.1 rfl (Nat.le_of_ble_eq_true rfl) dL_isValleySo_377 ⟨Nat.le_of_ble_eq_true rfl, Nat.le_of_ble_eq_true rfl⟩ (fun H locs hM hS => ?_)
          refine lv_icmp_ne (tgt := 398) hx hb dL_isValleySo_380 (by decide) (fun c_380 => absurd (rfl) c_380) (fun c_380 => ?_)
          refine lv_iload hx hb dL_isValleySo_383 (lv_at hl 2 rfl) ?_
          refine lv_aload_n hx hb dL_isValleySo_385 rfl (lv_at hl 7 rfl) ?_
          refine lv_bipush (v := nI 8) hx hb dL_isValleySo_386 (by first | rfl | decide) ?_
          refine m_callRI (val := gapN κ.1 6) (As := [.int (nI 8)]) (rest := [.int (gapN κ.1 6)]) ⟨hx, hb, hml, hown, ht⟩ (q_count l g A M X hXS hCI (cnt_8 _)) (cwV 1 ht (gU uw_2012 uw_503 uw_504 uw_34 uw_505) rfl rfl rfl (by decide +kernel) ⟨Nat.le_of_ble_eq_true rfl, Nat.le_of_ble_eq_true rfl⟩) hK hM hS (m_recv hK hM hXS.ob.1 hXS.ob.2 rfl) rfl hl.1 rfl (Nat.le_of_ble_eq_true rfl) dL_isValleySo_388 ⟨Nat.le_of_ble_eq_true rfl, Nat.le_of_ble_eq_true rfl⟩ (fun H locs hM hS => ?_)
          refine lv_icmp_ne (tgt := 398) hx hb dL_isValleySo_391 (by decide) (fun c_391 => absurd (rfl) c_391) (fun c_391 => ?_)
          refine lv_iconst (v := nI 1) hx hb dL_isValleySo_394 (by first | rfl | decide) ?_
          refine lv_goto (tgt := 399) hx hb dL_isValleySo_395 (by decide) ?_
          subst hQ
          exact m_zret hx hb hr (rfl) hlk hK hM hS dL_isValleySo_399 (⟨rfl, hMM⟩)
        · have hjn : j < n := nI_lt_of (by have := P.1; omega) (by have := P.1; omega) c_261
          refine lv_iload hx hb dL_isValleySo_264 (lv_at hl 1 rfl) ?_
          refine lv_if_eq (tgt := 325) hx hb dL_isValleySo_266 (by decide) (fun c_266 => absurd c_266 (by decide)) (fun c_266 => ?_)
          refine lv_aload_n hx hb dL_isValleySo_269 rfl (lv_at hl 7 rfl) ?_
          refine lv_iload hx hb dL_isValleySo_270 (lv_at hl 0 rfl) ?_
          refine lv_iconst (v := nI 1) hx hb dL_isValleySo_272 (by first | rfl | decide) ?_
          refine m_callRI (val := whC κ.1 (κ.1.2.2 j 1)) (As := [.int (nI j), .int (nI 1)]) (rest := []) ⟨hx, hb, hml, hown, ht⟩ (q_runner l g A M X hXS hCI hn P.1 hjn (rnr_1 _ _)) (cwV 2 ht (gU uw_489 uw_499 uw_500 uw_34 uw_501) rfl rfl rfl (by decide +kernel) ⟨Nat.le_of_ble_eq_true rfl, Nat.le_of_ble_eq_true rfl⟩) hK hM hS (m_recv hK hM hXS.ob.1 hXS.ob.2 rfl) rfl hl.1 rfl (Nat.le_of_ble_eq_true rfl) dL_isValleySo_273 ⟨Nat.le_of_ble_eq_true rfl, Nat.le_of_ble_eq_true rfl⟩ (fun H locs hM hS => ?_)
          refine lv_aload_n hx hb dL_isValleySo_276 rfl (lv_at hl 7 rfl) ?_
          refine lv_iconst (v := nI 0) hx hb dL_isValleySo_277 (by first | rfl | decide) ?_
          refine m_callRI (val := κ.1.1 0) (As := [.int (nI 0)]) (rest := [.int (whC κ.1 (κ.1.2.2 j 1))]) ⟨hx, hb, hml, hown, ht⟩ (q_count l g A M X hXS hCI (cnt_0 _)) (cwV 1 ht (gU uw_2012 uw_503 uw_504 uw_34 uw_505) rfl rfl rfl (by decide +kernel) ⟨Nat.le_of_ble_eq_true rfl, Nat.le_of_ble_eq_true rfl⟩) hK hM hS (m_recv hK hM hXS.ob.1 hXS.ob.2 rfl) rfl hl.1 rfl (Nat.le_of_ble_eq_true rfl) dL_isValleySo_278 ⟨Nat.le_of_ble_eq_true rfl, Nat.le_of_ble_eq_true rfl⟩ (fun H locs hM hS => ?_)
          refine lv_icmp_ge (tgt := 325) hx hb dL_isValleySo_281 (by decide) (fun c_281 => absurd c_281 (P.run1 hjn)) (fun c_281 => ?_)
          refine lv_aload_n hx hb dL_isValleySo_284 rfl (lv_at hl 7 rfl) ?_
          refine lv_iload hx hb dL_isValleySo_285 (lv_at hl 0 rfl) ?_
          refine lv_iconst (v := nI 2) hx hb dL_isValleySo_287 (by first | rfl | decide) ?_
          refine m_callRI (val := κ.1.2.2 j 2) (As := [.int (nI j), .int (nI 2)]) (rest := []) ⟨hx, hb, hml, hown, ht⟩ (q_runner l g A M X hXS hCI hn P.1 hjn (rnr_2 _ _)) (cwV 2 ht (gU uw_489 uw_499 uw_500 uw_34 uw_501) rfl rfl rfl (by decide +kernel) ⟨Nat.le_of_ble_eq_true rfl, Nat.le_of_ble_eq_true rfl⟩) hK hM hS (m_recv hK hM hXS.ob.1 hXS.ob.2 rfl) rfl hl.1 rfl (Nat.le_of_ble_eq_true rfl) dL_isValleySo_288 ⟨Nat.le_of_ble_eq_true rfl, Nat.le_of_ble_eq_true rfl⟩ (fun H locs hM hS => ?_)
          refine lv_aload_n hx hb dL_isValleySo_291 rfl (lv_at hl 7 rfl) ?_
          refine lv_iconst (v := nI 2) hx hb dL_isValleySo_292 (by first | rfl | decide) ?_
          refine m_callRI (val := nI h) (As := [.int (nI 2)]) (rest := [.int (κ.1.2.2 j 2)]) ⟨hx, hb, hml, hown, ht⟩ (q_count l g A M X hXS hCI ((cnt_2 _).trans hh2)) (cwV 1 ht (gU uw_2012 uw_503 uw_504 uw_34 uw_505) rfl rfl rfl (by decide +kernel) ⟨Nat.le_of_ble_eq_true rfl, Nat.le_of_ble_eq_true rfl⟩) hK hM hS (m_recv hK hM hXS.ob.1 hXS.ob.2 rfl) rfl hl.1 rfl (Nat.le_of_ble_eq_true rfl) dL_isValleySo_293 ⟨Nat.le_of_ble_eq_true rfl, Nat.le_of_ble_eq_true rfl⟩ (fun H locs hM hS => ?_)
          refine lv_icmp_gt (tgt := 325) hx hb dL_isValleySo_296 (by decide) (fun c_296 => absurd c_296 (P.run2 hjn (by omega))) (fun c_296 => ?_)
          refine lv_aload_n hx hb dL_isValleySo_299 rfl (lv_at hl 7 rfl) ?_
          refine lv_iload hx hb dL_isValleySo_300 (lv_at hl 0 rfl) ?_
          refine lv_iconst (v := nI 3) hx hb dL_isValleySo_302 (by first | rfl | decide) ?_
          refine m_callRI (val := κ.1.2.2 j 4) (As := [.int (nI j), .int (nI 3)]) (rest := []) ⟨hx, hb, hml, hown, ht⟩ (q_runner l g A M X hXS hCI hn P.1 hjn (rnr_3 _ _)) (cwV 2 ht (gU uw_489 uw_499 uw_500 uw_34 uw_501) rfl rfl rfl (by decide +kernel) ⟨Nat.le_of_ble_eq_true rfl, Nat.le_of_ble_eq_true rfl⟩) hK hM hS (m_recv hK hM hXS.ob.1 hXS.ob.2 rfl) rfl hl.1 rfl (Nat.le_of_ble_eq_true rfl) dL_isValleySo_303 ⟨Nat.le_of_ble_eq_true rfl, Nat.le_of_ble_eq_true rfl⟩ (fun H locs hM hS => ?_)
          refine lv_if_le (tgt := 325) hx hb dL_isValleySo_306 (by decide) (fun c_306 => absurd c_306 ((P.run3 hjn hB).1)) (fun c_306 => ?_)
          refine lv_aload_n hx hb dL_isValleySo_309 rfl (lv_at hl 7 rfl) ?_
          refine lv_iload hx hb dL_isValleySo_310 (lv_at hl 0 rfl) ?_
          refine lv_iconst (v := nI 3) hx hb dL_isValleySo_312 (by first | rfl | decide) ?_
          refine m_callRI (val := κ.1.2.2 j 4) (As := [.int (nI j), .int (nI 3)]) (rest := []) ⟨hx, hb, hml, hown, ht⟩ (q_runner l g A M X hXS hCI hn P.1 hjn (rnr_3 _ _)) (cwV 2 ht (gU uw_489 uw_499 uw_500 uw_34 uw_501) rfl rfl rfl (by decide +kernel) ⟨Nat.le_of_ble_eq_true rfl, Nat.le_of_ble_eq_true rfl⟩) hK hM hS (m_recv hK hM hXS.ob.1 hXS.ob.2 rfl) rfl hl.1 rfl (Nat.le_of_ble_eq_true rfl) dL_isValleySo_313 ⟨Nat.le_of_ble_eq_true rfl, Nat.le_of_ble_eq_true rfl⟩ (fun H locs hM hS => ?_)
          refine lv_bipush (v := nI 70) hx hb dL_isValleySo_316 (by first | rfl | decide) ?_
          refine lv_icmp_ge (tgt := 325) hx hb dL_isValleySo_318 (by decide) (fun c_318 => absurd c_318 ((P.run3 hjn hB).2)) (fun c_318 => ?_)
          refine lv_iconst (v := nI 1) hx hb dL_isValleySo_321 (by first | rfl | decide) ?_
          refine lv_goto (tgt := 326) hx hb dL_isValleySo_322 (by decide) ?_
          refine lv_istore (lv' := [(6, .int (nI 1)), (7, .int (nI j)), (5, .int (gapN κ.1 6)), (4, .int (sumN (fun j => κ.1.2.1 j 8) 6)), (3, .int (sumN (fun j => κ.1.2.1 j 5) 6)), (2, .int (sumN (fun j => κ.1.2.1 j 7 + κ.1.2.1 j 4) 6)), (1, .int (sumN (fun j => κ.1.2.1 j 6) 6)), (0, .ref (X))]) hx hb dL_isValleySo_326 hl (by decide) rfl (fun ls hl => ?_)
          refine lv_iinc (v := nI (j + 1)) (lv' := [(7, .int (nI (j + 1))), (6, .int (nI 1)), (5, .int (gapN κ.1 6)), (4, .int (sumN (fun j => κ.1.2.1 j 8) 6)), (3, .int (sumN (fun j => κ.1.2.1 j 5) 6)), (2, .int (sumN (fun j => κ.1.2.1 j 7 + κ.1.2.1 j 4) 6)), (1, .int (sumN (fun j => κ.1.2.1 j 6) 6)), (0, .ref (X))]) hx hb dL_isValleySo_328 hl (k := 1) rfl (nI_1 _) (by decide) rfl (fun ls hl => ?_)
          refine lv_goto (tgt := 254) hx hb dL_isValleySo_331 (by decide) ?_
          exact ih_254 (j + 1) _ _ _ (by omega) (by omega) hM hS (lv_sub hl [0, 1, 2, 3, 4, 5, 6, 7] rfl)
      exact loop_254 _ 0 _ _ _ (Nat.lt_succ_self _) (by omega) hM hS (lv_sub hl [0, 1, 2, 3, 4, 5, 6, 7] rfl)
    · have hi6 : i < 6 := nI_lt_of (by omega) (by omega) c_22
      refine lv_iload_n hx hb dL_isValleySo_25 rfl (lv_at hl 6 rfl) ?_
      refine lv_aload_n hx hb dL_isValleySo_26 rfl (lv_at hl 7 rfl) ?_
      refine lv_iload hx hb dL_isValleySo_27 (lv_at hl 0 rfl) ?_
      refine lv_bipush (v := nI 7) hx hb dL_isValleySo_29 (by first | rfl | decide) ?_
      refine m_callRI (val := κ.1.2.1 i 6) (As := [.int (nI i), .int (nI 7)]) (rest := [.int (sumN (fun j => κ.1.2.1 j 6) i)]) ⟨hx, hb, hml, hown, ht⟩ (q_gaugeOf l g A M X hXS hCI hi6 (fac_7 _ _)) (cwV 2 ht (gU uw_2017 uw_481 uw_482 uw_34 uw_483) rfl rfl rfl (by decide +kernel) ⟨Nat.le_of_ble_eq_true rfl, Nat.le_of_ble_eq_true rfl⟩) hK hM hS (m_recv hK hM hXS.ob.1 hXS.ob.2 rfl) rfl hl.1 rfl (Nat.le_of_ble_eq_true rfl) dL_isValleySo_31 ⟨Nat.le_of_ble_eq_true rfl, Nat.le_of_ble_eq_true rfl⟩ (fun H locs hM hS => ?_)
      refine lv_iadd hx hb dL_isValleySo_34 ?_
      refine lv_istore_n (lv' := [(1, .int ((sumN (fun j => κ.1.2.1 j 6) i) + (κ.1.2.1 i 6))), (7, .int (nI i)), (6, .int (nI 1)), (5, .int (gapN κ.1 i)), (4, .int (sumN (fun j => κ.1.2.1 j 8) i)), (3, .int (sumN (fun j => κ.1.2.1 j 5) i)), (2, .int (sumN (fun j => κ.1.2.1 j 7 + κ.1.2.1 j 4) i)), (0, .ref (X))]) hx hb dL_isValleySo_35 rfl hl (by decide) rfl (fun ls hl => ?_)
      refine lv_iload_n hx hb dL_isValleySo_36 rfl (lv_at hl 6 rfl) ?_
      refine lv_aload_n hx hb dL_isValleySo_37 rfl (lv_at hl 7 rfl) ?_
      refine lv_iload hx hb dL_isValleySo_38 (lv_at hl 1 rfl) ?_
      refine lv_bipush (v := nI 8) hx hb dL_isValleySo_40 (by first | rfl | decide) ?_
      refine m_callRI (val := κ.1.2.1 i 7) (As := [.int (nI i), .int (nI 8)]) (rest := [.int (sumN (fun j => κ.1.2.1 j 7 + κ.1.2.1 j 4) i)]) ⟨hx, hb, hml, hown, ht⟩ (q_gaugeOf l g A M X hXS hCI hi6 (fac_8 _ _)) (cwV 2 ht (gU uw_2017 uw_481 uw_482 uw_34 uw_483) rfl rfl rfl (by decide +kernel) ⟨Nat.le_of_ble_eq_true rfl, Nat.le_of_ble_eq_true rfl⟩) hK hM hS (m_recv hK hM hXS.ob.1 hXS.ob.2 rfl) rfl hl.1 rfl (Nat.le_of_ble_eq_true rfl) dL_isValleySo_42 ⟨Nat.le_of_ble_eq_true rfl, Nat.le_of_ble_eq_true rfl⟩ (fun H locs hM hS => ?_)
      refine lv_aload_n hx hb dL_isValleySo_45 rfl (lv_at hl 7 rfl) ?_
      refine lv_iload hx hb dL_isValleySo_46 (lv_at hl 1 rfl) ?_
      refine lv_iconst (v := nI 4) hx hb dL_isValleySo_48 (by first | rfl | decide) ?_
      refine m_callRI (val := κ.1.2.1 i 4) (As := [.int (nI i), .int (nI 4)]) (rest := [.int (κ.1.2.1 i 7), .int (sumN (fun j => κ.1.2.1 j 7 + κ.1.2.1 j 4) i)]) ⟨hx, hb, hml, hown, ht⟩ (q_gaugeOf l g A M X hXS hCI hi6 (fac_4 _ _)) (cwV 2 ht (gU uw_2017 uw_481 uw_482 uw_34 uw_483) rfl rfl rfl (by decide +kernel) ⟨Nat.le_of_ble_eq_true rfl, Nat.le_of_ble_eq_true rfl⟩) hK hM hS (m_recv hK hM hXS.ob.1 hXS.ob.2 rfl) rfl hl.1 rfl (Nat.le_of_ble_eq_true rfl) dL_isValleySo_49 ⟨Nat.le_of_ble_eq_true rfl, Nat.le_of_ble_eq_true rfl⟩ (fun H locs hM hS => ?_)
      refine lv_iadd hx hb dL_isValleySo_52 ?_
      refine lv_iadd hx hb dL_isValleySo_53 ?_
      refine lv_istore_n (lv' := [(2, .int ((sumN (fun j => κ.1.2.1 j 7 + κ.1.2.1 j 4) i) + ((κ.1.2.1 i 7) + (κ.1.2.1 i 4)))), (1, .int ((sumN (fun j => κ.1.2.1 j 6) i) + (κ.1.2.1 i 6))), (7, .int (nI i)), (6, .int (nI 1)), (5, .int (gapN κ.1 i)), (4, .int (sumN (fun j => κ.1.2.1 j 8) i)), (3, .int (sumN (fun j => κ.1.2.1 j 5) i)), (0, .ref (X))]) hx hb dL_isValleySo_54 rfl hl (by decide) rfl (fun ls hl => ?_)
      refine lv_iload_n hx hb dL_isValleySo_55 rfl (lv_at hl 6 rfl) ?_
      refine lv_aload_n hx hb dL_isValleySo_56 rfl (lv_at hl 7 rfl) ?_
      refine lv_iload hx hb dL_isValleySo_57 (lv_at hl 2 rfl) ?_
      refine lv_iconst (v := nI 5) hx hb dL_isValleySo_59 (by first | rfl | decide) ?_
      refine m_callRI (val := κ.1.2.1 i 5) (As := [.int (nI i), .int (nI 5)]) (rest := [.int (sumN (fun j => κ.1.2.1 j 5) i)]) ⟨hx, hb, hml, hown, ht⟩ (q_gaugeOf l g A M X hXS hCI hi6 (fac_5 _ _)) (cwV 2 ht (gU uw_2017 uw_481 uw_482 uw_34 uw_483) rfl rfl rfl (by decide +kernel) ⟨Nat.le_of_ble_eq_true rfl, Nat.le_of_ble_eq_true rfl⟩) hK hM hS (m_recv hK hM hXS.ob.1 hXS.ob.2 rfl) rfl hl.1 rfl (Nat.le_of_ble_eq_true rfl) dL_isValleySo_60 ⟨Nat.le_of_ble_eq_true rfl, Nat.le_of_ble_eq_true rfl⟩ (fun H locs hM hS => ?_)
      refine lv_iadd hx hb dL_isValleySo_63 ?_
      refine lv_istore_n (lv' := [(3, .int ((sumN (fun j => κ.1.2.1 j 5) i) + (κ.1.2.1 i 5))), (2, .int ((sumN (fun j => κ.1.2.1 j 7 + κ.1.2.1 j 4) i) + ((κ.1.2.1 i 7) + (κ.1.2.1 i 4)))), (1, .int ((sumN (fun j => κ.1.2.1 j 6) i) + (κ.1.2.1 i 6))), (7, .int (nI i)), (6, .int (nI 1)), (5, .int (gapN κ.1 i)), (4, .int (sumN (fun j => κ.1.2.1 j 8) i)), (0, .ref (X))]) hx hb dL_isValleySo_64 rfl hl (by decide) rfl (fun ls hl => ?_)
      refine lv_iload hx hb dL_isValleySo_65 (lv_at hl 6 rfl) ?_
      refine lv_aload_n hx hb dL_isValleySo_67 rfl (lv_at hl 7 rfl) ?_
      refine lv_iload hx hb dL_isValleySo_68 (lv_at hl 3 rfl) ?_
      refine lv_iconst (v := nI 0) hx hb dL_isValleySo_70 (by first | rfl | decide) ?_
      refine m_callRI (val := κ.1.2.1 i 8) (As := [.int (nI i), .int (nI 0)]) (rest := [.int (sumN (fun j => κ.1.2.1 j 8) i)]) ⟨hx, hb, hml, hown, ht⟩ (q_ledger l g A M X hXS hCI hi6 (led_0 _ _)) (cwV 2 ht (gU uw_2018 uw_490 uw_491 uw_34 uw_492) rfl rfl rfl (by decide +kernel) ⟨Nat.le_of_ble_eq_true rfl, Nat.le_of_ble_eq_true rfl⟩) hK hM hS (m_recv hK hM hXS.ob.1 hXS.ob.2 rfl) rfl hl.1 rfl (Nat.le_of_ble_eq_true rfl) dL_isValleySo_71 ⟨Nat.le_of_ble_eq_true rfl, Nat.le_of_ble_eq_true rfl⟩ (fun H locs hM hS => ?_)
      refine lv_iadd hx hb dL_isValleySo_74 ?_
      refine lv_istore (lv' := [(4, .int ((sumN (fun j => κ.1.2.1 j 8) i) + (κ.1.2.1 i 8))), (3, .int ((sumN (fun j => κ.1.2.1 j 5) i) + (κ.1.2.1 i 5))), (2, .int ((sumN (fun j => κ.1.2.1 j 7 + κ.1.2.1 j 4) i) + ((κ.1.2.1 i 7) + (κ.1.2.1 i 4)))), (1, .int ((sumN (fun j => κ.1.2.1 j 6) i) + (κ.1.2.1 i 6))), (7, .int (nI i)), (6, .int (nI 1)), (5, .int (gapN κ.1 i)), (0, .ref (X))]) hx hb dL_isValleySo_75 hl (by decide) rfl (fun ls hl => ?_)
      refine lv_iload hx hb dL_isValleySo_77 (lv_at hl 6 rfl) ?_
      refine lv_aload_n hx hb dL_isValleySo_79 rfl (lv_at hl 7 rfl) ?_
      refine lv_iload hx hb dL_isValleySo_80 (lv_at hl 4 rfl) ?_
      refine lv_iconst (v := nI 3) hx hb dL_isValleySo_82 (by first | rfl | decide) ?_
      refine m_callRI (val := κ.1.2.1 i 5 - κ.1.2.1 i 8) (As := [.int (nI i), .int (nI 3)]) (rest := [.int (gapN κ.1 i)]) ⟨hx, hb, hml, hown, ht⟩ (q_ledger l g A M X hXS hCI hi6 (led_3 _ _)) (cwV 2 ht (gU uw_2018 uw_490 uw_491 uw_34 uw_492) rfl rfl rfl (by decide +kernel) ⟨Nat.le_of_ble_eq_true rfl, Nat.le_of_ble_eq_true rfl⟩) hK hM hS (m_recv hK hM hXS.ob.1 hXS.ob.2 rfl) rfl hl.1 rfl (Nat.le_of_ble_eq_true rfl) dL_isValleySo_83 ⟨Nat.le_of_ble_eq_true rfl, Nat.le_of_ble_eq_true rfl⟩ (fun H locs hM hS => ?_)
      refine lv_if_ne (tgt := 93) hx hb dL_isValleySo_86 (by decide) (fun c_86 => ?_) (fun c_86 => ?_)
      · refine lv_iconst (v := nI 1) hx hb dL_isValleySo_93 (by first | rfl | decide) ?_
        refine lv_iadd hx hb dL_isValleySo_94 ?_
        rw [gap_n c_86]
        refine lv_istore (lv' := [(5, .int (gapN κ.1 (i + 1))), (4, .int ((sumN (fun j => κ.1.2.1 j 8) i) + (κ.1.2.1 i 8))), (3, .int ((sumN (fun j => κ.1.2.1 j 5) i) + (κ.1.2.1 i 5))), (2, .int ((sumN (fun j => κ.1.2.1 j 7 + κ.1.2.1 j 4) i) + ((κ.1.2.1 i 7) + (κ.1.2.1 i 4)))), (1, .int ((sumN (fun j => κ.1.2.1 j 6) i) + (κ.1.2.1 i 6))), (7, .int (nI i)), (6, .int (nI 1)), (0, .ref (X))]) hx hb dL_isValleySo_95 hl (by decide) rfl (fun ls hl => ?_)
        refine lv_iload hx hb dL_isValleySo_97 (lv_at hl 6 rfl) ?_
        refine lv_if_eq (tgt := 242) hx hb dL_isValleySo_99 (by decide) (fun c_99 => absurd c_99 (by decide)) (fun c_99 => ?_)
        refine lv_aload_n hx hb dL_isValleySo_102 rfl (lv_at hl 7 rfl) ?_
        refine lv_iload hx hb dL_isValleySo_103 (lv_at hl 5 rfl) ?_
        refine lv_bipush (v := nI 7) hx hb dL_isValleySo_105 (by first | rfl | decide) ?_
        refine m_callRI (val := κ.1.2.1 i 6) (As := [.int (nI i), .int (nI 7)]) (rest := []) ⟨hx, hb, hml, hown, ht⟩ (q_gaugeOf l g A M X hXS hCI hi6 (fac_7 _ _)) (cwV 2 ht (gU uw_2017 uw_481 uw_482 uw_34 uw_483) rfl rfl rfl (by decide +kernel) ⟨Nat.le_of_ble_eq_true rfl, Nat.le_of_ble_eq_true rfl⟩) hK hM hS (m_recv hK hM hXS.ob.1 hXS.ob.2 rfl) rfl hl.1 rfl (Nat.le_of_ble_eq_true rfl) dL_isValleySo_107 ⟨Nat.le_of_ble_eq_true rfl, Nat.le_of_ble_eq_true rfl⟩ (fun H locs hM hS => ?_)
        refine lv_aload_n hx hb dL_isValleySo_110 rfl (lv_at hl 7 rfl) ?_
        refine lv_iload hx hb dL_isValleySo_111 (lv_at hl 5 rfl) ?_
        refine lv_bipush (v := nI 8) hx hb dL_isValleySo_113 (by first | rfl | decide) ?_
        refine m_callRI (val := κ.1.2.1 i 7) (As := [.int (nI i), .int (nI 8)]) (rest := [.int (κ.1.2.1 i 6)]) ⟨hx, hb, hml, hown, ht⟩ (q_gaugeOf l g A M X hXS hCI hi6 (fac_8 _ _)) (cwV 2 ht (gU uw_2017 uw_481 uw_482 uw_34 uw_483) rfl rfl rfl (by decide +kernel) ⟨Nat.le_of_ble_eq_true rfl, Nat.le_of_ble_eq_true rfl⟩) hK hM hS (m_recv hK hM hXS.ob.1 hXS.ob.2 rfl) rfl hl.1 rfl (Nat.le_of_ble_eq_true rfl) dL_isValleySo_115 ⟨Nat.le_of_ble_eq_true rfl, Nat.le_of_ble_eq_true rfl⟩ (fun H locs hM hS => ?_)
        refine lv_aload_n hx hb dL_isValleySo_118 rfl (lv_at hl 7 rfl) ?_
        refine lv_iload hx hb dL_isValleySo_119 (lv_at hl 5 rfl) ?_
        refine lv_iconst (v := nI 4) hx hb dL_isValleySo_121 (by first | rfl | decide) ?_
        refine m_callRI (val := κ.1.2.1 i 4) (As := [.int (nI i), .int (nI 4)]) (rest := [.int (κ.1.2.1 i 7), .int (κ.1.2.1 i 6)]) ⟨hx, hb, hml, hown, ht⟩ (q_gaugeOf l g A M X hXS hCI hi6 (fac_4 _ _)) (cwV 2 ht (gU uw_2017 uw_481 uw_482 uw_34 uw_483) rfl rfl rfl (by decide +kernel) ⟨Nat.le_of_ble_eq_true rfl, Nat.le_of_ble_eq_true rfl⟩) hK hM hS (m_recv hK hM hXS.ob.1 hXS.ob.2 rfl) rfl hl.1 rfl (Nat.le_of_ble_eq_true rfl) dL_isValleySo_122 ⟨Nat.le_of_ble_eq_true rfl, Nat.le_of_ble_eq_true rfl⟩ (fun H locs hM hS => ?_)
        refine lv_iadd hx hb dL_isValleySo_125 ?_
        refine lv_icmp_ne (tgt := 242) hx hb dL_isValleySo_126 (by decide) (fun c_126 => absurd (P.caught hi6 (by omega)) c_126) (fun c_126 => ?_)
        refine lv_aload_n hx hb dL_isValleySo_129 rfl (lv_at hl 7 rfl) ?_
        refine lv_iload hx hb dL_isValleySo_130 (lv_at hl 5 rfl) ?_
        refine lv_bipush (v := nI 6) hx hb dL_isValleySo_132 (by first | rfl | decide) ?_
        refine m_callRI (val := whC κ.1 (κ.1.2.1 i 5)) (As := [.int (nI i), .int (nI 6)]) (rest := []) ⟨hx, hb, hml, hown, ht⟩ (q_gaugeOf l g A M X hXS hCI hi6 (fac_6 _ _)) (cwV 2 ht (gU uw_2017 uw_481 uw_482 uw_34 uw_483) rfl rfl rfl (by decide +kernel) ⟨Nat.le_of_ble_eq_true rfl, Nat.le_of_ble_eq_true rfl⟩) hK hM hS (m_recv hK hM hXS.ob.1 hXS.ob.2 rfl) rfl hl.1 rfl (Nat.le_of_ble_eq_true rfl) dL_isValleySo_134 ⟨Nat.le_of_ble_eq_true rfl, Nat.le_of_ble_eq_true rfl⟩ (fun H locs hM hS => ?_)
        refine lv_aload_n hx hb dL_isValleySo_137 rfl (lv_at hl 7 rfl) ?_
        refine lv_iload hx hb dL_isValleySo_138 (lv_at hl 5 rfl) ?_
        refine lv_iconst (v := nI 5) hx hb dL_isValleySo_140 (by first | rfl | decide) ?_
        refine m_callRI (val := κ.1.2.1 i 5) (As := [.int (nI i), .int (nI 5)]) (rest := [.int (whC κ.1 (κ.1.2.1 i 5))]) ⟨hx, hb, hml, hown, ht⟩ (q_gaugeOf l g A M X hXS hCI hi6 (fac_5 _ _)) (cwV 2 ht (gU uw_2017 uw_481 uw_482 uw_34 uw_483) rfl rfl rfl (by decide +kernel) ⟨Nat.le_of_ble_eq_true rfl, Nat.le_of_ble_eq_true rfl⟩) hK hM hS (m_recv hK hM hXS.ob.1 hXS.ob.2 rfl) rfl hl.1 rfl (Nat.le_of_ble_eq_true rfl) dL_isValleySo_141 ⟨Nat.le_of_ble_eq_true rfl, Nat.le_of_ble_eq_true rfl⟩ (fun H locs hM hS => ?_)
        refine lv_aload_n hx hb dL_isValleySo_144 rfl (lv_at hl 7 rfl) ?_
        refine lv_iconst (v := nI 0) hx hb dL_isValleySo_145 (by first | rfl | decide) ?_
        refine m_callRI (val := κ.1.1 0) (As := [.int (nI 0)]) (rest := [.int (κ.1.2.1 i 5), .int (whC κ.1 (κ.1.2.1 i 5))]) ⟨hx, hb, hml, hown, ht⟩ (q_count l g A M X hXS hCI (cnt_0 _)) (cwV 1 ht (gU uw_2012 uw_503 uw_504 uw_34 uw_505) rfl rfl rfl (by decide +kernel) ⟨Nat.le_of_ble_eq_true rfl, Nat.le_of_ble_eq_true rfl⟩) hK hM hS (m_recv hK hM hXS.ob.1 hXS.ob.2 rfl) rfl hl.1 rfl (Nat.le_of_ble_eq_true rfl) dL_isValleySo_146 ⟨Nat.le_of_ble_eq_true rfl, Nat.le_of_ble_eq_true rfl⟩ (fun H locs hM hS => ?_)
        refine lv_irem hx hb dL_isValleySo_149 (P.wheelNz) ?_
        refine lv_icmp_ne (tgt := 242) hx hb dL_isValleySo_150 (by decide) (fun c_150 => absurd (P.wheelAt) c_150) (fun c_150 => ?_)
        refine lv_aload_n hx hb dL_isValleySo_153 rfl (lv_at hl 7 rfl) ?_
        refine lv_iload hx hb dL_isValleySo_154 (lv_at hl 5 rfl) ?_
        refine lv_iconst (v := nI 3) hx hb dL_isValleySo_156 (by first | rfl | decide) ?_
        refine m_callRI (val := κ.1.2.1 i 5 - κ.1.2.1 i 8) (As := [.int (nI i), .int (nI 3)]) (rest := []) ⟨hx, hb, hml, hown, ht⟩ (q_ledger l g A M X hXS hCI hi6 (led_3 _ _)) (cwV 2 ht (gU uw_2018 uw_490 uw_491 uw_34 uw_492) rfl rfl rfl (by decide +kernel) ⟨Nat.le_of_ble_eq_true rfl, Nat.le_of_ble_eq_true rfl⟩) hK hM hS (m_recv hK hM hXS.ob.1 hXS.ob.2 rfl) rfl hl.1 rfl (Nat.le_of_ble_eq_true rfl) dL_isValleySo_157 ⟨Nat.le_of_ble_eq_true rfl, Nat.le_of_ble_eq_true rfl⟩ (fun H locs hM hS => ?_)
        refine lv_aload_n hx hb dL_isValleySo_160 rfl (lv_at hl 7 rfl) ?_
        refine lv_iload hx hb dL_isValleySo_161 (lv_at hl 5 rfl) ?_
        refine lv_iconst (v := nI 5) hx hb dL_isValleySo_163 (by first | rfl | decide) ?_
        refine m_callRI (val := κ.1.2.1 i 5) (As := [.int (nI i), .int (nI 5)]) (rest := [.int (κ.1.2.1 i 5 - κ.1.2.1 i 8)]) ⟨hx, hb, hml, hown, ht⟩ (q_gaugeOf l g A M X hXS hCI hi6 (fac_5 _ _)) (cwV 2 ht (gU uw_2017 uw_481 uw_482 uw_34 uw_483) rfl rfl rfl (by decide +kernel) ⟨Nat.le_of_ble_eq_true rfl, Nat.le_of_ble_eq_true rfl⟩) hK hM hS (m_recv hK hM hXS.ob.1 hXS.ob.2 rfl) rfl hl.1 rfl (Nat.le_of_ble_eq_true rfl) dL_isValleySo_164 ⟨Nat.le_of_ble_eq_true rfl, Nat.le_of_ble_eq_true rfl⟩ (fun H locs hM hS => ?_)
        refine lv_aload_n hx hb dL_isValleySo_167 rfl (lv_at hl 7 rfl) ?_
        refine lv_iload hx hb dL_isValleySo_168 (lv_at hl 5 rfl) ?_
        refine lv_iconst (v := nI 0) hx hb dL_isValleySo_170 (by first | rfl | decide) ?_
        refine m_callRI (val := κ.1.2.1 i 8) (As := [.int (nI i), .int (nI 0)]) (rest := [.int (κ.1.2.1 i 5), .int (κ.1.2.1 i 5 - κ.1.2.1 i 8)]) ⟨hx, hb, hml, hown, ht⟩ (q_ledger l g A M X hXS hCI hi6 (led_0 _ _)) (cwV 2 ht (gU uw_2018 uw_490 uw_491 uw_34 uw_492) rfl rfl rfl (by decide +kernel) ⟨Nat.le_of_ble_eq_true rfl, Nat.le_of_ble_eq_true rfl⟩) hK hM hS (m_recv hK hM hXS.ob.1 hXS.ob.2 rfl) rfl hl.1 rfl (Nat.le_of_ble_eq_true rfl) dL_isValleySo_171 ⟨Nat.le_of_ble_eq_true rfl, Nat.le_of_ble_eq_true rfl⟩ (fun H locs hM hS => ?_)
        refine lv_isub hx hb dL_isValleySo_174 ?_
        refine lv_icmp_ne (tgt := 242) hx hb dL_isValleySo_175 (by decide) (fun c_175 => absurd (rfl) c_175) (fun c_175 => ?_)
        refine lv_aload_n hx hb dL_isValleySo_178 rfl (lv_at hl 7 rfl) ?_
        refine lv_iload hx hb dL_isValleySo_179 (lv_at hl 5 rfl) ?_
        refine lv_iconst (v := nI 1) hx hb dL_isValleySo_181 (by first | rfl | decide) ?_
        refine m_callRI (val := κ.1.2.1 i 9) (As := [.int (nI i), .int (nI 1)]) (rest := []) ⟨hx, hb, hml, hown, ht⟩ (q_ledger l g A M X hXS hCI hi6 (led_1 _ _)) (cwV 2 ht (gU uw_2018 uw_490 uw_491 uw_34 uw_492) rfl rfl rfl (by decide +kernel) ⟨Nat.le_of_ble_eq_true rfl, Nat.le_of_ble_eq_true rfl⟩) hK hM hS (m_recv hK hM hXS.ob.1 hXS.ob.2 rfl) rfl hl.1 rfl (Nat.le_of_ble_eq_true rfl) dL_isValleySo_182 ⟨Nat.le_of_ble_eq_true rfl, Nat.le_of_ble_eq_true rfl⟩ (fun H locs hM hS => ?_)
        refine lv_aload_n hx hb dL_isValleySo_185 rfl (lv_at hl 7 rfl) ?_
        refine lv_iconst (v := nI 2) hx hb dL_isValleySo_186 (by first | rfl | decide) ?_
        refine m_callRI (val := nI h) (As := [.int (nI 2)]) (rest := [.int (κ.1.2.1 i 9)]) ⟨hx, hb, hml, hown, ht⟩ (q_count l g A M X hXS hCI ((cnt_2 _).trans hh2)) (cwV 1 ht (gU uw_2012 uw_503 uw_504 uw_34 uw_505) rfl rfl rfl (by decide +kernel) ⟨Nat.le_of_ble_eq_true rfl, Nat.le_of_ble_eq_true rfl⟩) hK hM hS (m_recv hK hM hXS.ob.1 hXS.ob.2 rfl) rfl hl.1 rfl (Nat.le_of_ble_eq_true rfl) dL_isValleySo_187 ⟨Nat.le_of_ble_eq_true rfl, Nat.le_of_ble_eq_true rfl⟩ (fun H locs hM hS => ?_)
        refine lv_icmp_gt (tgt := 242) hx hb dL_isValleySo_190 (by decide) (fun c_190 => absurd c_190 (P.late hi6 (by omega))) (fun c_190 => ?_)
        refine lv_aload_n hx hb dL_isValleySo_193 rfl (lv_at hl 7 rfl) ?_
        refine lv_iload hx hb dL_isValleySo_194 (lv_at hl 5 rfl) ?_
        refine lv_iconst (v := nI 2) hx hb dL_isValleySo_196 (by first | rfl | decide) ?_
        refine m_callRI (val := whC κ.1 (κ.1.2.1 i 10)) (As := [.int (nI i), .int (nI 2)]) (rest := []) ⟨hx, hb, hml, hown, ht⟩ (q_ledger l g A M X hXS hCI hi6 (led_2 _ _)) (cwV 2 ht (gU uw_2018 uw_490 uw_491 uw_34 uw_492) rfl rfl rfl (by decide +kernel) ⟨Nat.le_of_ble_eq_true rfl, Nat.le_of_ble_eq_true rfl⟩) hK hM hS (m_recv hK hM hXS.ob.1 hXS.ob.2 rfl) rfl hl.1 rfl (Nat.le_of_ble_eq_true rfl) dL_isValleySo_197 ⟨Nat.le_of_ble_eq_true rfl, Nat.le_of_ble_eq_true rfl⟩ (fun H locs hM hS => ?_)
        refine lv_aload_n hx hb dL_isValleySo_200 rfl (lv_at hl 7 rfl) ?_
        refine lv_iconst (v := nI 0) hx hb dL_isValleySo_201 (by first | rfl | decide) ?_
        refine m_callRI (val := κ.1.1 0) (As := [.int (nI 0)]) (rest := [.int (whC κ.1 (κ.1.2.1 i 10))]) ⟨hx, hb, hml, hown, ht⟩ (q_count l g A M X hXS hCI (cnt_0 _)) (cwV 1 ht (gU uw_2012 uw_503 uw_504 uw_34 uw_505) rfl rfl rfl (by decide +kernel) ⟨Nat.le_of_ble_eq_true rfl, Nat.le_of_ble_eq_true rfl⟩) hK hM hS (m_recv hK hM hXS.ob.1 hXS.ob.2 rfl) rfl hl.1 rfl (Nat.le_of_ble_eq_true rfl) dL_isValleySo_202 ⟨Nat.le_of_ble_eq_true rfl, Nat.le_of_ble_eq_true rfl⟩ (fun H locs hM hS => ?_)
        refine lv_icmp_ge (tgt := 242) hx hb dL_isValleySo_205 (by decide) (fun c_205 => absurd c_205 ((P.wheelIn (P.2.2.2.2.1 i hi6).2.2.1.1).2)) (fun c_205 => ?_)
        refine lv_aload_n hx hb dL_isValleySo_208 rfl (lv_at hl 7 rfl) ?_
        refine lv_iload hx hb dL_isValleySo_209 (lv_at hl 5 rfl) ?_
        refine lv_iconst (v := nI 4) hx hb dL_isValleySo_211 (by first | rfl | decide) ?_
        refine m_callRI (val := κ.1.2.1 i 12) (As := [.int (nI i), .int (nI 4)]) (rest := []) ⟨hx, hb, hml, hown, ht⟩ (q_ledger l g A M X hXS hCI hi6 (led_4 _ _)) (cwV 2 ht (gU uw_2018 uw_490 uw_491 uw_34 uw_492) rfl rfl rfl (by decide +kernel) ⟨Nat.le_of_ble_eq_true rfl, Nat.le_of_ble_eq_true rfl⟩) hK hM hS (m_recv hK hM hXS.ob.1 hXS.ob.2 rfl) rfl hl.1 rfl (Nat.le_of_ble_eq_true rfl) dL_isValleySo_212 ⟨Nat.le_of_ble_eq_true rfl, Nat.le_of_ble_eq_true rfl⟩ (fun H locs hM hS => ?_)
        refine lv_if_gt (tgt := 238) hx hb dL_isValleySo_215 (by decide) (fun c_215 => ?_) (fun c_215 => ?_)
        · refine lv_iconst (v := nI 1) hx hb dL_isValleySo_238 (by first | rfl | decide) ?_
          refine lv_goto (tgt := 243) hx hb dL_isValleySo_239 (by decide) ?_
          refine lv_istore (lv' := [(6, .int (nI 1)), (5, .int (gapN κ.1 (i + 1))), (4, .int ((sumN (fun j => κ.1.2.1 j 8) i) + (κ.1.2.1 i 8))), (3, .int ((sumN (fun j => κ.1.2.1 j 5) i) + (κ.1.2.1 i 5))), (2, .int ((sumN (fun j => κ.1.2.1 j 7 + κ.1.2.1 j 4) i) + ((κ.1.2.1 i 7) + (κ.1.2.1 i 4)))), (1, .int ((sumN (fun j => κ.1.2.1 j 6) i) + (κ.1.2.1 i 6))), (7, .int (nI i)), (0, .ref (X))]) hx hb dL_isValleySo_243 hl (by decide) rfl (fun ls hl => ?_)
          refine lv_iinc (v := nI (i + 1)) (lv' := [(7, .int (nI (i + 1))), (6, .int (nI 1)), (5, .int (gapN κ.1 (i + 1))), (4, .int ((sumN (fun j => κ.1.2.1 j 8) i) + (κ.1.2.1 i 8))), (3, .int ((sumN (fun j => κ.1.2.1 j 5) i) + (κ.1.2.1 i 5))), (2, .int ((sumN (fun j => κ.1.2.1 j 7 + κ.1.2.1 j 4) i) + ((κ.1.2.1 i 7) + (κ.1.2.1 i 4)))), (1, .int ((sumN (fun j => κ.1.2.1 j 6) i) + (κ.1.2.1 i 6))), (0, .ref (X))]) hx hb dL_isValleySo_245 hl (k := 6) rfl (nI_1 _) (by decide) rfl (fun ls hl => ?_)
          refine lv_goto (tgt := 18) hx hb dL_isValleySo_248 (by decide) ?_
          exact ih_18 (i + 1) _ _ _ (by omega) (by omega) hM hS (lv_sub hl [0, 1, 2, 3, 4, 5, 6, 7] rfl)
        · refine lv_aload_n hx hb dL_isValleySo_218 rfl (lv_at hl 7 rfl) ?_
          refine lv_iload hx hb dL_isValleySo_219 (lv_at hl 5 rfl) ?_
          refine lv_iconst (v := nI 0) hx hb dL_isValleySo_221 (by first | rfl | decide) ?_
          refine m_callRI (val := κ.1.2.1 i 8) (As := [.int (nI i), .int (nI 0)]) (rest := []) ⟨hx, hb, hml, hown, ht⟩ (q_ledger l g A M X hXS hCI hi6 (led_0 _ _)) (cwV 2 ht (gU uw_2018 uw_490 uw_491 uw_34 uw_492) rfl rfl rfl (by decide +kernel) ⟨Nat.le_of_ble_eq_true rfl, Nat.le_of_ble_eq_true rfl⟩) hK hM hS (m_recv hK hM hXS.ob.1 hXS.ob.2 rfl) rfl hl.1 rfl (Nat.le_of_ble_eq_true rfl) dL_isValleySo_222 ⟨Nat.le_of_ble_eq_true rfl, Nat.le_of_ble_eq_true rfl⟩ (fun H locs hM hS => ?_)
          refine lv_if_ne (tgt := 242) hx hb dL_isValleySo_225 (by decide) (fun c_225 => absurd ((P.taken hi6 c_215).1) c_225) (fun c_225 => ?_)
          refine lv_aload_n hx hb dL_isValleySo_228 rfl (lv_at hl 7 rfl) ?_
          refine lv_iload hx hb dL_isValleySo_229 (lv_at hl 5 rfl) ?_
          refine lv_iconst (v := nI 1) hx hb dL_isValleySo_231 (by first | rfl | decide) ?_
          refine m_callRI (val := κ.1.2.1 i 9) (As := [.int (nI i), .int (nI 1)]) (rest := []) ⟨hx, hb, hml, hown, ht⟩ (q_ledger l g A M X hXS hCI hi6 (led_1 _ _)) (cwV 2 ht (gU uw_2018 uw_490 uw_491 uw_34 uw_492) rfl rfl rfl (by decide +kernel) ⟨Nat.le_of_ble_eq_true rfl, Nat.le_of_ble_eq_true rfl⟩) hK hM hS (m_recv hK hM hXS.ob.1 hXS.ob.2 rfl) rfl hl.1 rfl (Nat.le_of_ble_eq_true rfl) dL_isValleySo_232 ⟨Nat.le_of_ble_eq_true rfl, Nat.le_of_ble_eq_true rfl⟩ (fun H locs hM hS => ?_)
          refine lv_if_ne (tgt := 242) hx hb dL_isValleySo_235 (by decide) (fun c_235 => absurd ((P.taken hi6 c_215).2) c_235) (fun c_235 => ?_)
          refine lv_iconst (v := nI 1) hx hb dL_isValleySo_238 (by first | rfl | decide) ?_
          refine lv_goto (tgt := 243) hx hb dL_isValleySo_239 (by decide) ?_
          refine lv_istore (lv' := [(6, .int (nI 1)), (5, .int (gapN κ.1 (i + 1))), (4, .int ((sumN (fun j => κ.1.2.1 j 8) i) + (κ.1.2.1 i 8))), (3, .int ((sumN (fun j => κ.1.2.1 j 5) i) + (κ.1.2.1 i 5))), (2, .int ((sumN (fun j => κ.1.2.1 j 7 + κ.1.2.1 j 4) i) + ((κ.1.2.1 i 7) + (κ.1.2.1 i 4)))), (1, .int ((sumN (fun j => κ.1.2.1 j 6) i) + (κ.1.2.1 i 6))), (7, .int (nI i)), (0, .ref (X))]) hx hb dL_isValleySo_243 hl (by decide) rfl (fun ls hl => ?_)
          refine lv_iinc (v := nI (i + 1)) (lv' := [(7, .int (nI (i + 1))), (6, .int (nI 1)), (5, .int (gapN κ.1 (i + 1))), (4, .int ((sumN (fun j => κ.1.2.1 j 8) i) + (κ.1.2.1 i 8))), (3, .int ((sumN (fun j => κ.1.2.1 j 5) i) + (κ.1.2.1 i 5))), (2, .int ((sumN (fun j => κ.1.2.1 j 7 + κ.1.2.1 j 4) i) + ((κ.1.2.1 i 7) + (κ.1.2.1 i 4)))), (1, .int ((sumN (fun j => κ.1.2.1 j 6) i) + (κ.1.2.1 i 6))), (0, .ref (X))]) hx hb dL_isValleySo_245 hl (k := 6) rfl (nI_1 _) (by decide) rfl (fun ls hl => ?_)
          refine lv_goto (tgt := 18) hx hb dL_isValleySo_248 (by decide) ?_
          exact ih_18 (i + 1) _ _ _ (by omega) (by omega) hM hS (lv_sub hl [0, 1, 2, 3, 4, 5, 6, 7] rfl)
      · refine lv_iconst (v := nI 0) hx hb dL_isValleySo_89 (by first | rfl | decide) ?_
        refine lv_goto (tgt := 94) hx hb dL_isValleySo_90 (by decide) ?_
        refine lv_iadd hx hb dL_isValleySo_94 ?_
        rw [gap_z c_86]
        refine lv_istore (lv' := [(5, .int (gapN κ.1 (i + 1))), (4, .int ((sumN (fun j => κ.1.2.1 j 8) i) + (κ.1.2.1 i 8))), (3, .int ((sumN (fun j => κ.1.2.1 j 5) i) + (κ.1.2.1 i 5))), (2, .int ((sumN (fun j => κ.1.2.1 j 7 + κ.1.2.1 j 4) i) + ((κ.1.2.1 i 7) + (κ.1.2.1 i 4)))), (1, .int ((sumN (fun j => κ.1.2.1 j 6) i) + (κ.1.2.1 i 6))), (7, .int (nI i)), (6, .int (nI 1)), (0, .ref (X))]) hx hb dL_isValleySo_95 hl (by decide) rfl (fun ls hl => ?_)
        refine lv_iload hx hb dL_isValleySo_97 (lv_at hl 6 rfl) ?_
        refine lv_if_eq (tgt := 242) hx hb dL_isValleySo_99 (by decide) (fun c_99 => absurd c_99 (by decide)) (fun c_99 => ?_)
        refine lv_aload_n hx hb dL_isValleySo_102 rfl (lv_at hl 7 rfl) ?_
        refine lv_iload hx hb dL_isValleySo_103 (lv_at hl 5 rfl) ?_
        refine lv_bipush (v := nI 7) hx hb dL_isValleySo_105 (by first | rfl | decide) ?_
        refine m_callRI (val := κ.1.2.1 i 6) (As := [.int (nI i), .int (nI 7)]) (rest := []) ⟨hx, hb, hml, hown, ht⟩ (q_gaugeOf l g A M X hXS hCI hi6 (fac_7 _ _)) (cwV 2 ht (gU uw_2017 uw_481 uw_482 uw_34 uw_483) rfl rfl rfl (by decide +kernel) ⟨Nat.le_of_ble_eq_true rfl, Nat.le_of_ble_eq_true rfl⟩) hK hM hS (m_recv hK hM hXS.ob.1 hXS.ob.2 rfl) rfl hl.1 rfl (Nat.le_of_ble_eq_true rfl) dL_isValleySo_107 ⟨Nat.le_of_ble_eq_true rfl, Nat.le_of_ble_eq_true rfl⟩ (fun H locs hM hS => ?_)
        refine lv_aload_n hx hb dL_isValleySo_110 rfl (lv_at hl 7 rfl) ?_
        refine lv_iload hx hb dL_isValleySo_111 (lv_at hl 5 rfl) ?_
        refine lv_bipush (v := nI 8) hx hb dL_isValleySo_113 (by first | rfl | decide) ?_
        refine m_callRI (val := κ.1.2.1 i 7) (As := [.int (nI i), .int (nI 8)]) (rest := [.int (κ.1.2.1 i 6)]) ⟨hx, hb, hml, hown, ht⟩ (q_gaugeOf l g A M X hXS hCI hi6 (fac_8 _ _)) (cwV 2 ht (gU uw_2017 uw_481 uw_482 uw_34 uw_483) rfl rfl rfl (by decide +kernel) ⟨Nat.le_of_ble_eq_true rfl, Nat.le_of_ble_eq_true rfl⟩) hK hM hS (m_recv hK hM hXS.ob.1 hXS.ob.2 rfl) rfl hl.1 rfl (Nat.le_of_ble_eq_true rfl) dL_isValleySo_115 ⟨Nat.le_of_ble_eq_true rfl, Nat.le_of_ble_eq_true rfl⟩ (fun H locs hM hS => ?_)
        refine lv_aload_n hx hb dL_isValleySo_118 rfl (lv_at hl 7 rfl) ?_
        refine lv_iload hx hb dL_isValleySo_119 (lv_at hl 5 rfl) ?_
        refine lv_iconst (v := nI 4) hx hb dL_isValleySo_121 (by first | rfl | decide) ?_
        refine m_callRI (val := κ.1.2.1 i 4) (As := [.int (nI i), .int (nI 4)]) (rest := [.int (κ.1.2.1 i 7), .int (κ.1.2.1 i 6)]) ⟨hx, hb, hml, hown, ht⟩ (q_gaugeOf l g A M X hXS hCI hi6 (fac_4 _ _)) (cwV 2 ht (gU uw_2017 uw_481 uw_482 uw_34 uw_483) rfl rfl rfl (by decide +kernel) ⟨Nat.le_of_ble_eq_true rfl, Nat.le_of_ble_eq_true rfl⟩) hK hM hS (m_recv hK hM hXS.ob.1 hXS.ob.2 rfl) rfl hl.1 rfl (Nat.le_of_ble_eq_true rfl) dL_isValleySo_122 ⟨Nat.le_of_ble_eq_true rfl, Nat.le_of_ble_eq_true rfl⟩ (fun H locs hM hS => ?_)
        refine lv_iadd hx hb dL_isValleySo_125 ?_
        refine lv_icmp_ne (tgt := 242) hx hb dL_isValleySo_126 (by decide) (fun c_126 => absurd (P.caught hi6 (by omega)) c_126) (fun c_126 => ?_)
        refine lv_aload_n hx hb dL_isValleySo_129 rfl (lv_at hl 7 rfl) ?_
        refine lv_iload hx hb dL_isValleySo_130 (lv_at hl 5 rfl) ?_
        refine lv_bipush (v := nI 6) hx hb dL_isValleySo_132 (by first | rfl | decide) ?_
        refine m_callRI (val := whC κ.1 (κ.1.2.1 i 5)) (As := [.int (nI i), .int (nI 6)]) (rest := []) ⟨hx, hb, hml, hown, ht⟩ (q_gaugeOf l g A M X hXS hCI hi6 (fac_6 _ _)) (cwV 2 ht (gU uw_2017 uw_481 uw_482 uw_34 uw_483) rfl rfl rfl (by decide +kernel) ⟨Nat.le_of_ble_eq_true rfl, Nat.le_of_ble_eq_true rfl⟩) hK hM hS (m_recv hK hM hXS.ob.1 hXS.ob.2 rfl) rfl hl.1 rfl (Nat.le_of_ble_eq_true rfl) dL_isValleySo_134 ⟨Nat.le_of_ble_eq_true rfl, Nat.le_of_ble_eq_true rfl⟩ (fun H locs hM hS => ?_)
        refine lv_aload_n hx hb dL_isValleySo_137 rfl (lv_at hl 7 rfl) ?_
        refine lv_iload hx hb dL_isValleySo_138 (lv_at hl 5 rfl) ?_
        refine lv_iconst (v := nI 5) hx hb dL_isValleySo_140 (by first | rfl | decide) ?_
        refine m_callRI (val := κ.1.2.1 i 5) (As := [.int (nI i), .int (nI 5)]) (rest := [.int (whC κ.1 (κ.1.2.1 i 5))]) ⟨hx, hb, hml, hown, ht⟩ (q_gaugeOf l g A M X hXS hCI hi6 (fac_5 _ _)) (cwV 2 ht (gU uw_2017 uw_481 uw_482 uw_34 uw_483) rfl rfl rfl (by decide +kernel) ⟨Nat.le_of_ble_eq_true rfl, Nat.le_of_ble_eq_true rfl⟩) hK hM hS (m_recv hK hM hXS.ob.1 hXS.ob.2 rfl) rfl hl.1 rfl (Nat.le_of_ble_eq_true rfl) dL_isValleySo_141 ⟨Nat.le_of_ble_eq_true rfl, Nat.le_of_ble_eq_true rfl⟩ (fun H locs hM hS => ?_)
        refine lv_aload_n hx hb dL_isValleySo_144 rfl (lv_at hl 7 rfl) ?_
        refine lv_iconst (v := nI 0) hx hb dL_isValleySo_145 (by first | rfl | decide) ?_
        refine m_callRI (val := κ.1.1 0) (As := [.int (nI 0)]) (rest := [.int (κ.1.2.1 i 5), .int (whC κ.1 (κ.1.2.1 i 5))]) ⟨hx, hb, hml, hown, ht⟩ (q_count l g A M X hXS hCI (cnt_0 _)) (cwV 1 ht (gU uw_2012 uw_503 uw_504 uw_34 uw_505) rfl rfl rfl (by decide +kernel) ⟨Nat.le_of_ble_eq_true rfl, Nat.le_of_ble_eq_true rfl⟩) hK hM hS (m_recv hK hM hXS.ob.1 hXS.ob.2 rfl) rfl hl.1 rfl (Nat.le_of_ble_eq_true rfl) dL_isValleySo_146 ⟨Nat.le_of_ble_eq_true rfl, Nat.le_of_ble_eq_true rfl⟩ (fun H locs hM hS => ?_)
        refine lv_irem hx hb dL_isValleySo_149 (P.wheelNz) ?_
        refine lv_icmp_ne (tgt := 242) hx hb dL_isValleySo_150 (by decide) (fun c_150 => absurd (P.wheelAt) c_150) (fun c_150 => ?_)
        refine lv_aload_n hx hb dL_isValleySo_153 rfl (lv_at hl 7 rfl) ?_
        refine lv_iload hx hb dL_isValleySo_154 (lv_at hl 5 rfl) ?_
        refine lv_iconst (v := nI 3) hx hb dL_isValleySo_156 (by first | rfl | decide) ?_
        refine m_callRI (val := κ.1.2.1 i 5 - κ.1.2.1 i 8) (As := [.int (nI i), .int (nI 3)]) (rest := []) ⟨hx, hb, hml, hown, ht⟩ (q_ledger l g A M X hXS hCI hi6 (led_3 _ _)) (cwV 2 ht (gU uw_2018 uw_490 uw_491 uw_34 uw_492) rfl rfl rfl (by decide +kernel) ⟨Nat.le_of_ble_eq_true rfl, Nat.le_of_ble_eq_true rfl⟩) hK hM hS (m_recv hK hM hXS.ob.1 hXS.ob.2 rfl) rfl hl.1 rfl (Nat.le_of_ble_eq_true rfl) dL_isValleySo_157 ⟨Nat.le_of_ble_eq_true rfl, Nat.le_of_ble_eq_true rfl⟩ (fun H locs hM hS => ?_)
        refine lv_aload_n hx hb dL_isValleySo_160 rfl (lv_at hl 7 rfl) ?_
        refine lv_iload hx hb dL_isValleySo_161 (lv_at hl 5 rfl) ?_
        refine lv_iconst (v := nI 5) hx hb dL_isValleySo_163 (by first | rfl | decide) ?_
        refine m_callRI (val := κ.1.2.1 i 5) (As := [.int (nI i), .int (nI 5)]) (rest := [.int (κ.1.2.1 i 5 - κ.1.2.1 i 8)]) ⟨hx, hb, hml, hown, ht⟩ (q_gaugeOf l g A M X hXS hCI hi6 (fac_5 _ _)) (cwV 2 ht (gU uw_2017 uw_481 uw_482 uw_34 uw_483) rfl rfl rfl (by decide +kernel) ⟨Nat.le_of_ble_eq_true rfl, Nat.le_of_ble_eq_true rfl⟩) hK hM hS (m_recv hK hM hXS.ob.1 hXS.ob.2 rfl) rfl hl.1 rfl (Nat.le_of_ble_eq_true rfl) dL_isValleySo_164 ⟨Nat.le_of_ble_eq_true rfl, Nat.le_of_ble_eq_true rfl⟩ (fun H locs hM hS => ?_)
        refine lv_aload_n hx hb dL_isValleySo_167 rfl (lv_at hl 7 rfl) ?_
        refine lv_iload hx hb dL_isValleySo_168 (lv_at hl 5 rfl) ?_
        refine lv_iconst (v := nI 0) hx hb dL_isValleySo_170 (by first | rfl | decide) ?_
        refine m_callRI (val := κ.1.2.1 i 8) (As := [.int (nI i), .int (nI 0)]) (rest := [.int (κ.1.2.1 i 5), .int (κ.1.2.1 i 5 - κ.1.2.1 i 8)]) ⟨hx, hb, hml, hown, ht⟩ (q_ledger l g A M X hXS hCI hi6 (led_0 _ _)) (cwV 2 ht (gU uw_2018 uw_490 uw_491 uw_34 uw_492) rfl rfl rfl (by decide +kernel) ⟨Nat.le_of_ble_eq_true rfl, Nat.le_of_ble_eq_true rfl⟩) hK hM hS (m_recv hK hM hXS.ob.1 hXS.ob.2 rfl) rfl hl.1 rfl (Nat.le_of_ble_eq_true rfl) dL_isValleySo_171 ⟨Nat.le_of_ble_eq_true rfl, Nat.le_of_ble_eq_true rfl⟩ (fun H locs hM hS => ?_)
        refine lv_isub hx hb dL_isValleySo_174 ?_
        refine lv_icmp_ne (tgt := 242) hx hb dL_isValleySo_175 (by decide) (fun c_175 => absurd (rfl) c_175) (fun c_175 => ?_)
        refine lv_aload_n hx hb dL_isValleySo_178 rfl (lv_at hl 7 rfl) ?_
        refine lv_iload hx hb dL_isValleySo_179 (lv_at hl 5 rfl) ?_
        refine lv_iconst (v := nI 1) hx hb dL_isValleySo_181 (by first | rfl | decide) ?_
        refine m_callRI (val := κ.1.2.1 i 9) (As := [.int (nI i), .int (nI 1)]) (rest := []) ⟨hx, hb, hml, hown, ht⟩ (q_ledger l g A M X hXS hCI hi6 (led_1 _ _)) (cwV 2 ht (gU uw_2018 uw_490 uw_491 uw_34 uw_492) rfl rfl rfl (by decide +kernel) ⟨Nat.le_of_ble_eq_true rfl, Nat.le_of_ble_eq_true rfl⟩) hK hM hS (m_recv hK hM hXS.ob.1 hXS.ob.2 rfl) rfl hl.1 rfl (Nat.le_of_ble_eq_true rfl) dL_isValleySo_182 ⟨Nat.le_of_ble_eq_true rfl, Nat.le_of_ble_eq_true rfl⟩ (fun H locs hM hS => ?_)
        refine lv_aload_n hx hb dL_isValleySo_185 rfl (lv_at hl 7 rfl) ?_
        refine lv_iconst (v := nI 2) hx hb dL_isValleySo_186 (by first | rfl | decide) ?_
        refine m_callRI (val := nI h) (As := [.int (nI 2)]) (rest := [.int (κ.1.2.1 i 9)]) ⟨hx, hb, hml, hown, ht⟩ (q_count l g A M X hXS hCI ((cnt_2 _).trans hh2)) (cwV 1 ht (gU uw_2012 uw_503 uw_504 uw_34 uw_505) rfl rfl rfl (by decide +kernel) ⟨Nat.le_of_ble_eq_true rfl, Nat.le_of_ble_eq_true rfl⟩) hK hM hS (m_recv hK hM hXS.ob.1 hXS.ob.2 rfl) rfl hl.1 rfl (Nat.le_of_ble_eq_true rfl) dL_isValleySo_187 ⟨Nat.le_of_ble_eq_true rfl, Nat.le_of_ble_eq_true rfl⟩ (fun H locs hM hS => ?_)
        refine lv_icmp_gt (tgt := 242) hx hb dL_isValleySo_190 (by decide) (fun c_190 => absurd c_190 (P.late hi6 (by omega))) (fun c_190 => ?_)
        refine lv_aload_n hx hb dL_isValleySo_193 rfl (lv_at hl 7 rfl) ?_
        refine lv_iload hx hb dL_isValleySo_194 (lv_at hl 5 rfl) ?_
        refine lv_iconst (v := nI 2) hx hb dL_isValleySo_196 (by first | rfl | decide) ?_
        refine m_callRI (val := whC κ.1 (κ.1.2.1 i 10)) (As := [.int (nI i), .int (nI 2)]) (rest := []) ⟨hx, hb, hml, hown, ht⟩ (q_ledger l g A M X hXS hCI hi6 (led_2 _ _)) (cwV 2 ht (gU uw_2018 uw_490 uw_491 uw_34 uw_492) rfl rfl rfl (by decide +kernel) ⟨Nat.le_of_ble_eq_true rfl, Nat.le_of_ble_eq_true rfl⟩) hK hM hS (m_recv hK hM hXS.ob.1 hXS.ob.2 rfl) rfl hl.1 rfl (Nat.le_of_ble_eq_true rfl) dL_isValleySo_197 ⟨Nat.le_of_ble_eq_true rfl, Nat.le_of_ble_eq_true rfl⟩ (fun H locs hM hS => ?_)
        refine lv_aload_n hx hb dL_isValleySo_200 rfl (lv_at hl 7 rfl) ?_
        refine lv_iconst (v := nI 0) hx hb dL_isValleySo_201 (by first | rfl | decide) ?_
        refine m_callRI (val := κ.1.1 0) (As := [.int (nI 0)]) (rest := [.int (whC κ.1 (κ.1.2.1 i 10))]) ⟨hx, hb, hml, hown, ht⟩ (q_count l g A M X hXS hCI (cnt_0 _)) (cwV 1 ht (gU uw_2012 uw_503 uw_504 uw_34 uw_505) rfl rfl rfl (by decide +kernel) ⟨Nat.le_of_ble_eq_true rfl, Nat.le_of_ble_eq_true rfl⟩) hK hM hS (m_recv hK hM hXS.ob.1 hXS.ob.2 rfl) rfl hl.1 rfl (Nat.le_of_ble_eq_true rfl) dL_isValleySo_202 ⟨Nat.le_of_ble_eq_true rfl, Nat.le_of_ble_eq_true rfl⟩ (fun H locs hM hS => ?_)
        refine lv_icmp_ge (tgt := 242) hx hb dL_isValleySo_205 (by decide) (fun c_205 => absurd c_205 ((P.wheelIn (P.2.2.2.2.1 i hi6).2.2.1.1).2)) (fun c_205 => ?_)
        refine lv_aload_n hx hb dL_isValleySo_208 rfl (lv_at hl 7 rfl) ?_
        refine lv_iload hx hb dL_isValleySo_209 (lv_at hl 5 rfl) ?_
        refine lv_iconst (v := nI 4) hx hb dL_isValleySo_211 (by first | rfl | decide) ?_
        refine m_callRI (val := κ.1.2.1 i 12) (As := [.int (nI i), .int (nI 4)]) (rest := []) ⟨hx, hb, hml, hown, ht⟩ (q_ledger l g A M X hXS hCI hi6 (led_4 _ _)) (cwV 2 ht (gU uw_2018 uw_490 uw_491 uw_34 uw_492) rfl rfl rfl (by decide +kernel) ⟨Nat.le_of_ble_eq_true rfl, Nat.le_of_ble_eq_true rfl⟩) hK hM hS (m_recv hK hM hXS.ob.1 hXS.ob.2 rfl) rfl hl.1 rfl (Nat.le_of_ble_eq_true rfl) dL_isValleySo_212 ⟨Nat.le_of_ble_eq_true rfl, Nat.le_of_ble_eq_true rfl⟩ (fun H locs hM hS => ?_)
        refine lv_if_gt (tgt := 238) hx hb dL_isValleySo_215 (by decide) (fun c_215 => ?_) (fun c_215 => ?_)
        · refine lv_iconst (v := nI 1) hx hb dL_isValleySo_238 (by first | rfl | decide) ?_
          refine lv_goto (tgt := 243) hx hb dL_isValleySo_239 (by decide) ?_
          refine lv_istore (lv' := [(6, .int (nI 1)), (5, .int (gapN κ.1 (i + 1))), (4, .int ((sumN (fun j => κ.1.2.1 j 8) i) + (κ.1.2.1 i 8))), (3, .int ((sumN (fun j => κ.1.2.1 j 5) i) + (κ.1.2.1 i 5))), (2, .int ((sumN (fun j => κ.1.2.1 j 7 + κ.1.2.1 j 4) i) + ((κ.1.2.1 i 7) + (κ.1.2.1 i 4)))), (1, .int ((sumN (fun j => κ.1.2.1 j 6) i) + (κ.1.2.1 i 6))), (7, .int (nI i)), (0, .ref (X))]) hx hb dL_isValleySo_243 hl (by decide) rfl (fun ls hl => ?_)
          refine lv_iinc (v := nI (i + 1)) (lv' := [(7, .int (nI (i + 1))), (6, .int (nI 1)), (5, .int (gapN κ.1 (i + 1))), (4, .int ((sumN (fun j => κ.1.2.1 j 8) i) + (κ.1.2.1 i 8))), (3, .int ((sumN (fun j => κ.1.2.1 j 5) i) + (κ.1.2.1 i 5))), (2, .int ((sumN (fun j => κ.1.2.1 j 7 + κ.1.2.1 j 4) i) + ((κ.1.2.1 i 7) + (κ.1.2.1 i 4)))), (1, .int ((sumN (fun j => κ.1.2.1 j 6) i) + (κ.1.2.1 i 6))), (0, .ref (X))]) hx hb dL_isValleySo_245 hl (k := 6) rfl (nI_1 _) (by decide) rfl (fun ls hl => ?_)
          refine lv_goto (tgt := 18) hx hb dL_isValleySo_248 (by decide) ?_
          exact ih_18 (i + 1) _ _ _ (by omega) (by omega) hM hS (lv_sub hl [0, 1, 2, 3, 4, 5, 6, 7] rfl)
        · refine lv_aload_n hx hb dL_isValleySo_218 rfl (lv_at hl 7 rfl) ?_
          refine lv_iload hx hb dL_isValleySo_219 (lv_at hl 5 rfl) ?_
          refine lv_iconst (v := nI 0) hx hb dL_isValleySo_221 (by first | rfl | decide) ?_
          refine m_callRI (val := κ.1.2.1 i 8) (As := [.int (nI i), .int (nI 0)]) (rest := []) ⟨hx, hb, hml, hown, ht⟩ (q_ledger l g A M X hXS hCI hi6 (led_0 _ _)) (cwV 2 ht (gU uw_2018 uw_490 uw_491 uw_34 uw_492) rfl rfl rfl (by decide +kernel) ⟨Nat.le_of_ble_eq_true rfl, Nat.le_of_ble_eq_true rfl⟩) hK hM hS (m_recv hK hM hXS.ob.1 hXS.ob.2 rfl) rfl hl.1 rfl (Nat.le_of_ble_eq_true rfl) dL_isValleySo_222 ⟨Nat.le_of_ble_eq_true rfl, Nat.le_of_ble_eq_true rfl⟩ (fun H locs hM hS => ?_)
          refine lv_if_ne (tgt := 242) hx hb dL_isValleySo_225 (by decide) (fun c_225 => absurd ((P.taken hi6 c_215).1) c_225) (fun c_225 => ?_)
          refine lv_aload_n hx hb dL_isValleySo_228 rfl (lv_at hl 7 rfl) ?_
          refine lv_iload hx hb dL_isValleySo_229 (lv_at hl 5 rfl) ?_
          refine lv_iconst (v := nI 1) hx hb dL_isValleySo_231 (by first | rfl | decide) ?_
          refine m_callRI (val := κ.1.2.1 i 9) (As := [.int (nI i), .int (nI 1)]) (rest := []) ⟨hx, hb, hml, hown, ht⟩ (q_ledger l g A M X hXS hCI hi6 (led_1 _ _)) (cwV 2 ht (gU uw_2018 uw_490 uw_491 uw_34 uw_492) rfl rfl rfl (by decide +kernel) ⟨Nat.le_of_ble_eq_true rfl, Nat.le_of_ble_eq_true rfl⟩) hK hM hS (m_recv hK hM hXS.ob.1 hXS.ob.2 rfl) rfl hl.1 rfl (Nat.le_of_ble_eq_true rfl) dL_isValleySo_232 ⟨Nat.le_of_ble_eq_true rfl, Nat.le_of_ble_eq_true rfl⟩ (fun H locs hM hS => ?_)
          refine lv_if_ne (tgt := 242) hx hb dL_isValleySo_235 (by decide) (fun c_235 => absurd ((P.taken hi6 c_215).2) c_235) (fun c_235 => ?_)
          refine lv_iconst (v := nI 1) hx hb dL_isValleySo_238 (by first | rfl | decide) ?_
          refine lv_goto (tgt := 243) hx hb dL_isValleySo_239 (by decide) ?_
          refine lv_istore (lv' := [(6, .int (nI 1)), (5, .int (gapN κ.1 (i + 1))), (4, .int ((sumN (fun j => κ.1.2.1 j 8) i) + (κ.1.2.1 i 8))), (3, .int ((sumN (fun j => κ.1.2.1 j 5) i) + (κ.1.2.1 i 5))), (2, .int ((sumN (fun j => κ.1.2.1 j 7 + κ.1.2.1 j 4) i) + ((κ.1.2.1 i 7) + (κ.1.2.1 i 4)))), (1, .int ((sumN (fun j => κ.1.2.1 j 6) i) + (κ.1.2.1 i 6))), (7, .int (nI i)), (0, .ref (X))]) hx hb dL_isValleySo_243 hl (by decide) rfl (fun ls hl => ?_)
          refine lv_iinc (v := nI (i + 1)) (lv' := [(7, .int (nI (i + 1))), (6, .int (nI 1)), (5, .int (gapN κ.1 (i + 1))), (4, .int ((sumN (fun j => κ.1.2.1 j 8) i) + (κ.1.2.1 i 8))), (3, .int ((sumN (fun j => κ.1.2.1 j 5) i) + (κ.1.2.1 i 5))), (2, .int ((sumN (fun j => κ.1.2.1 j 7 + κ.1.2.1 j 4) i) + ((κ.1.2.1 i 7) + (κ.1.2.1 i 4)))), (1, .int ((sumN (fun j => κ.1.2.1 j 6) i) + (κ.1.2.1 i 6))), (0, .ref (X))]) hx hb dL_isValleySo_245 hl (k := 6) rfl (nI_1 _) (by decide) rfl (fun ls hl => ?_)
          refine lv_goto (tgt := 18) hx hb dL_isValleySo_248 (by decide) ?_
          exact ih_18 (i + 1) _ _ _ (by omega) (by omega) hM hS (lv_sub hl [0, 1, 2, 3, 4, 5, 6, 7] rfl)
  exact loop_18 _ 0 _ _ _ (Nat.lt_succ_self _) (by omega) hM hS (lv_sub hl [0, 1, 2, 3, 4, 5, 6, 7] rfl)
