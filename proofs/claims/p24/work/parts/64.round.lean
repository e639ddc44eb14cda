theorem dL_isRoundSo_0 : decode cL_isRoundSo 0 = .ok (.aload_n 0, 1) := by decide +kernel
theorem dL_isRoundSo_1 : decode cL_isRoundSo 1 = .ok (.iload_n 1, 1) := by decide +kernel
theorem dL_isRoundSo_2 : decode cL_isRoundSo 2 = .ok (.iload_n 2, 1) := by decide +kernel
theorem dL_isRoundSo_3 : decode cL_isRoundSo 3 = .ok (.invokevirtual 58, 3) := by decide +kernel
theorem dL_isRoundSo_6 : decode cL_isRoundSo 6 = .ok (.istore_n 3, 1) := by decide +kernel
theorem dL_isRoundSo_7 : decode cL_isRoundSo 7 = .ok (.aload_n 0, 1) := by decide +kernel
theorem dL_isRoundSo_8 : decode cL_isRoundSo 8 = .ok (.invokevirtual 61, 3) := by decide +kernel
theorem dL_isRoundSo_11 : decode cL_isRoundSo 11 = .ok (.istore 4, 2) := by decide +kernel
theorem dL_isRoundSo_13 : decode cL_isRoundSo 13 = .ok (.iload 4, 2) := by decide +kernel
theorem dL_isRoundSo_15 : decode cL_isRoundSo 15 = .ok (.ldc 64, 2) := by decide +kernel
theorem dL_isRoundSo_17 : decode cL_isRoundSo 17 = .ok (.if_icmp .eq 15, 3) := by decide +kernel
theorem dL_isRoundSo_20 : decode cL_isRoundSo 20 = .ok (.iload 4, 2) := by decide +kernel
theorem dL_isRoundSo_22 : decode cL_isRoundSo 22 = .ok (.ifCond .lt 14, 3) := by decide +kernel
theorem dL_isRoundSo_25 : decode cL_isRoundSo 25 = .ok (.iload 4, 2) := by decide +kernel
theorem dL_isRoundSo_27 : decode cL_isRoundSo 27 = .ok (.bipush 6, 2) := by decide +kernel
theorem dL_isRoundSo_29 : decode cL_isRoundSo 29 = .ok (.if_icmp .ge 7, 3) := by decide +kernel
theorem dL_isRoundSo_32 : decode cL_isRoundSo 32 = .ok (.iconst 1, 1) := by decide +kernel
theorem dL_isRoundSo_33 : decode cL_isRoundSo 33 = .ok (.goto 4, 3) := by decide +kernel
theorem dL_isRoundSo_36 : decode cL_isRoundSo 36 = .ok (.iconst 0, 1) := by decide +kernel
theorem dL_isRoundSo_37 : decode cL_isRoundSo 37 = .ok (.istore 5, 2) := by decide +kernel
theorem dL_isRoundSo_39 : decode cL_isRoundSo 39 = .ok (.iload_n 2, 1) := by decide +kernel
theorem dL_isRoundSo_40 : decode cL_isRoundSo 40 = .ok (.ifCond .ne 7, 3) := by decide +kernel
theorem dL_isRoundSo_43 : decode cL_isRoundSo 43 = .ok (.iload_n 3, 1) := by decide +kernel
theorem dL_isRoundSo_44 : decode cL_isRoundSo 44 = .ok (.goto 11, 3) := by decide +kernel
theorem dL_isRoundSo_47 : decode cL_isRoundSo 47 = .ok (.aload_n 0, 1) := by decide +kernel
theorem dL_isRoundSo_48 : decode cL_isRoundSo 48 = .ok (.iload_n 1, 1) := by decide +kernel
theorem dL_isRoundSo_49 : decode cL_isRoundSo 49 = .ok (.iload_n 2, 1) := by decide +kernel
theorem dL_isRoundSo_50 : decode cL_isRoundSo 50 = .ok (.iconst 1, 1) := by decide +kernel
theorem dL_isRoundSo_51 : decode cL_isRoundSo 51 = .ok (.isub, 1) := by decide +kernel
theorem dL_isRoundSo_52 : decode cL_isRoundSo 52 = .ok (.invokevirtual 58, 3) := by decide +kernel
theorem dL_isRoundSo_55 : decode cL_isRoundSo 55 = .ok (.istore 6, 2) := by decide +kernel
theorem dL_isRoundSo_57 : decode cL_isRoundSo 57 = .ok (.iload 5, 2) := by decide +kernel
theorem dL_isRoundSo_59 : decode cL_isRoundSo 59 = .ok (.ifCond .eq 77, 3) := by decide +kernel
theorem dL_isRoundSo_62 : decode cL_isRoundSo 62 = .ok (.iload_n 3, 1) := by decide +kernel
theorem dL_isRoundSo_63 : decode cL_isRoundSo 63 = .ok (.ldc 64, 2) := by decide +kernel
theorem dL_isRoundSo_65 : decode cL_isRoundSo 65 = .ok (.if_icmp .eq 14, 3) := by decide +kernel
theorem dL_isRoundSo_68 : decode cL_isRoundSo 68 = .ok (.iload_n 3, 1) := by decide +kernel
theorem dL_isRoundSo_69 : decode cL_isRoundSo 69 = .ok (.ifCond .lt 67, 3) := by decide +kernel
theorem dL_isRoundSo_72 : decode cL_isRoundSo 72 = .ok (.iload_n 3, 1) := by decide +kernel
theorem dL_isRoundSo_73 : decode cL_isRoundSo 73 = .ok (.sipush 500, 3) := by decide +kernel
theorem dL_isRoundSo_76 : decode cL_isRoundSo 76 = .ok (.if_icmp .gt 60, 3) := by decide +kernel
theorem dL_isRoundSo_79 : decode cL_isRoundSo 79 = .ok (.iload 6, 2) := by decide +kernel
theorem dL_isRoundSo_81 : decode cL_isRoundSo 81 = .ok (.ldc 64, 2) := by decide +kernel
theorem dL_isRoundSo_83 : decode cL_isRoundSo 83 = .ok (.if_icmp .eq 13, 3) := by decide +kernel
theorem dL_isRoundSo_86 : decode cL_isRoundSo 86 = .ok (.iload_n 3, 1) := by decide +kernel
theorem dL_isRoundSo_87 : decode cL_isRoundSo 87 = .ok (.ifCond .lt 49, 3) := by decide +kernel
theorem dL_isRoundSo_90 : decode cL_isRoundSo 90 = .ok (.iload_n 3, 1) := by decide +kernel
theorem dL_isRoundSo_91 : decode cL_isRoundSo 91 = .ok (.iload 6, 2) := by decide +kernel
theorem dL_isRoundSo_93 : decode cL_isRoundSo 93 = .ok (.if_icmp .gt 43, 3) := by decide +kernel
theorem dL_isRoundSo_96 : decode cL_isRoundSo 96 = .ok (.iload_n 3, 1) := by decide +kernel
theorem dL_isRoundSo_97 : decode cL_isRoundSo 97 = .ok (.ifCond .ne 7, 3) := by decide +kernel
theorem dL_isRoundSo_100 : decode cL_isRoundSo 100 = .ok (.iconst 1, 1) := by decide +kernel
theorem dL_isRoundSo_101 : decode cL_isRoundSo 101 = .ok (.goto 4, 3) := by decide +kernel
theorem dL_isRoundSo_104 : decode cL_isRoundSo 104 = .ok (.iconst 0, 1) := by decide +kernel
theorem dL_isRoundSo_105 : decode cL_isRoundSo 105 = .ok (.aload_n 0, 1) := by decide +kernel
theorem dL_isRoundSo_106 : decode cL_isRoundSo 106 = .ok (.iload_n 1, 1) := by decide +kernel
theorem dL_isRoundSo_107 : decode cL_isRoundSo 107 = .ok (.iconst 0, 1) := by decide +kernel
theorem dL_isRoundSo_108 : decode cL_isRoundSo 108 = .ok (.invokevirtual 58, 3) := by decide +kernel
theorem dL_isRoundSo_111 : decode cL_isRoundSo 111 = .ok (.ifCond .ne 17, 3) := by decide +kernel
theorem dL_isRoundSo_114 : decode cL_isRoundSo 114 = .ok (.aload_n 0, 1) := by decide +kernel
theorem dL_isRoundSo_115 : decode cL_isRoundSo 115 = .ok (.iload_n 1, 1) := by decide +kernel
theorem dL_isRoundSo_116 : decode cL_isRoundSo 116 = .ok (.bipush 99, 2) := by decide +kernel
theorem dL_isRoundSo_118 : decode cL_isRoundSo 118 = .ok (.invokevirtual 58, 3) := by decide +kernel
theorem dL_isRoundSo_121 : decode cL_isRoundSo 121 = .ok (.ifCond .ne 7, 3) := by decide +kernel
theorem dL_isRoundSo_124 : decode cL_isRoundSo 124 = .ok (.iconst 1, 1) := by decide +kernel
theorem dL_isRoundSo_125 : decode cL_isRoundSo 125 = .ok (.goto 4, 3) := by decide +kernel
theorem dL_isRoundSo_128 : decode cL_isRoundSo 128 = .ok (.iconst 0, 1) := by decide +kernel
theorem dL_isRoundSo_129 : decode cL_isRoundSo 129 = .ok (.if_icmp .ne 7, 3) := by decide +kernel
theorem dL_isRoundSo_132 : decode cL_isRoundSo 132 = .ok (.iconst 1, 1) := by decide +kernel
theorem dL_isRoundSo_133 : decode cL_isRoundSo 133 = .ok (.goto 4, 3) := by decide +kernel
theorem dL_isRoundSo_136 : decode cL_isRoundSo 136 = .ok (.iconst 0, 1) := by decide +kernel
theorem dL_isRoundSo_137 : decode cL_isRoundSo 137 = .ok (.istore 5, 2) := by decide +kernel
theorem dL_isRoundSo_139 : decode cL_isRoundSo 139 = .ok (.iload_n 3, 1) := by decide +kernel
theorem dL_isRoundSo_140 : decode cL_isRoundSo 140 = .ok (.ifCond .le 282, 3) := by decide +kernel
theorem dL_isRoundSo_143 : decode cL_isRoundSo 143 = .ok (.iload_n 3, 1) := by decide +kernel
theorem dL_isRoundSo_144 : decode cL_isRoundSo 144 = .ok (.bipush 25, 2) := by decide +kernel
theorem dL_isRoundSo_146 : decode cL_isRoundSo 146 = .ok (.if_icmp .ge 276, 3) := by decide +kernel
theorem dL_isRoundSo_149 : decode cL_isRoundSo 149 = .ok (.aload_n 0, 1) := by decide +kernel
theorem dL_isRoundSo_150 : decode cL_isRoundSo 150 = .ok (.iload_n 1, 1) := by decide +kernel
theorem dL_isRoundSo_151 : decode cL_isRoundSo 151 = .ok (.iconst 5, 1) := by decide +kernel
theorem dL_isRoundSo_152 : decode cL_isRoundSo 152 = .ok (.invokevirtual 43, 3) := by decide +kernel
theorem dL_isRoundSo_155 : decode cL_isRoundSo 155 = .ok (.istore 7, 2) := by decide +kernel
theorem dL_isRoundSo_157 : decode cL_isRoundSo 157 = .ok (.iload_n 3, 1) := by decide +kernel
theorem dL_isRoundSo_158 : decode cL_isRoundSo 158 = .ok (.iconst 1, 1) := by decide +kernel
theorem dL_isRoundSo_159 : decode cL_isRoundSo 159 = .ok (.if_icmp .ne 7, 3) := by decide +kernel
theorem dL_isRoundSo_162 : decode cL_isRoundSo 162 = .ok (.iconst 0, 1) := by decide +kernel
theorem dL_isRoundSo_163 : decode cL_isRoundSo 163 = .ok (.goto 11, 3) := by decide +kernel
theorem dL_isRoundSo_166 : decode cL_isRoundSo 166 = .ok (.aload_n 0, 1) := by decide +kernel
theorem dL_isRoundSo_167 : decode cL_isRoundSo 167 = .ok (.iload_n 2, 1) := by decide +kernel
theorem dL_isRoundSo_168 : decode cL_isRoundSo 168 = .ok (.iload_n 3, 1) := by decide +kernel
theorem dL_isRoundSo_169 : decode cL_isRoundSo 169 = .ok (.iconst 1, 1) := by decide +kernel
theorem dL_isRoundSo_170 : decode cL_isRoundSo 170 = .ok (.isub, 1) := by decide +kernel
theorem dL_isRoundSo_171 : decode cL_isRoundSo 171 = .ok (.invokevirtual 14, 3) := by decide +kernel
theorem dL_isRoundSo_174 : decode cL_isRoundSo 174 = .ok (.istore 8, 2) := by decide +kernel
theorem dL_isRoundSo_176 : decode cL_isRoundSo 176 = .ok (.iconst 1, 1) := by decide +kernel
theorem dL_isRoundSo_177 : decode cL_isRoundSo 177 = .ok (.istore 9, 2) := by decide +kernel
theorem dL_isRoundSo_179 : decode cL_isRoundSo 179 = .ok (.iconst 0, 1) := by decide +kernel
theorem dL_isRoundSo_180 : decode cL_isRoundSo 180 = .ok (.istore 10, 2) := by decide +kernel
theorem dL_isRoundSo_182 : decode cL_isRoundSo 182 = .ok (.iload 10, 2) := by decide +kernel
theorem dL_isRoundSo_184 : decode cL_isRoundSo 184 = .ok (.aload_n 0, 1) := by decide +kernel
theorem dL_isRoundSo_185 : decode cL_isRoundSo 185 = .ok (.iconst 3, 1) := by decide +kernel
theorem dL_isRoundSo_186 : decode cL_isRoundSo 186 = .ok (.invokevirtual 19, 3) := by decide +kernel
theorem dL_isRoundSo_189 : decode cL_isRoundSo 189 = .ok (.if_icmp .ge 32, 3) := by decide +kernel
theorem dL_isRoundSo_192 : decode cL_isRoundSo 192 = .ok (.iload 9, 2) := by decide +kernel
theorem dL_isRoundSo_194 : decode cL_isRoundSo 194 = .ok (.ifCond .eq 18, 3) := by decide +kernel
theorem dL_isRoundSo_197 : decode cL_isRoundSo 197 = .ok (.aload_n 0, 1) := by decide +kernel
theorem dL_isRoundSo_198 : decode cL_isRoundSo 198 = .ok (.iload 10, 2) := by decide +kernel
theorem dL_isRoundSo_200 : decode cL_isRoundSo 200 = .ok (.iconst 0, 1) := by decide +kernel
theorem dL_isRoundSo_201 : decode cL_isRoundSo 201 = .ok (.invokevirtual 49, 3) := by decide +kernel
theorem dL_isRoundSo_204 : decode cL_isRoundSo 204 = .ok (.iload_n 1, 1) := by decide +kernel
theorem dL_isRoundSo_205 : decode cL_isRoundSo 205 = .ok (.if_icmp .eq 7, 3) := by decide +kernel
theorem dL_isRoundSo_208 : decode cL_isRoundSo 208 = .ok (.iconst 1, 1) := by decide +kernel
theorem dL_isRoundSo_209 : decode cL_isRoundSo 209 = .ok (.goto 4, 3) := by decide +kernel
theorem dL_isRoundSo_212 : decode cL_isRoundSo 212 = .ok (.iconst 0, 1) := by decide +kernel
theorem dL_isRoundSo_213 : decode cL_isRoundSo 213 = .ok (.istore 9, 2) := by decide +kernel
theorem dL_isRoundSo_215 : decode cL_isRoundSo 215 = .ok (.iinc 10 1, 3) := by decide +kernel
theorem dL_isRoundSo_218 : decode cL_isRoundSo 218 = .ok (.goto (-36), 3) := by decide +kernel
theorem dL_isRoundSo_221 : decode cL_isRoundSo 221 = .ok (.iload_n 3, 1) := by decide +kernel
theorem dL_isRoundSo_222 : decode cL_isRoundSo 222 = .ok (.iconst 1, 1) := by decide +kernel
theorem dL_isRoundSo_223 : decode cL_isRoundSo 223 = .ok (.if_icmp .ne 7, 3) := by decide +kernel
theorem dL_isRoundSo_226 : decode cL_isRoundSo 226 = .ok (.iconst 0, 1) := by decide +kernel
theorem dL_isRoundSo_227 : decode cL_isRoundSo 227 = .ok (.goto 7, 3) := by decide +kernel
theorem dL_isRoundSo_230 : decode cL_isRoundSo 230 = .ok (.aload_n 0, 1) := by decide +kernel
theorem dL_isRoundSo_231 : decode cL_isRoundSo 231 = .ok (.invokevirtual 39, 3) := by decide +kernel
theorem dL_isRoundSo_234 : decode cL_isRoundSo 234 = .ok (.istore 10, 2) := by decide +kernel
theorem dL_isRoundSo_236 : decode cL_isRoundSo 236 = .ok (.iconst 0, 1) := by decide +kernel
theorem dL_isRoundSo_237 : decode cL_isRoundSo 237 = .ok (.istore 11, 2) := by decide +kernel
theorem dL_isRoundSo_239 : decode cL_isRoundSo 239 = .ok (.iload 11, 2) := by decide +kernel
theorem dL_isRoundSo_241 : decode cL_isRoundSo 241 = .ok (.aload_n 0, 1) := by decide +kernel
theorem dL_isRoundSo_242 : decode cL_isRoundSo 242 = .ok (.iconst 3, 1) := by decide +kernel
theorem dL_isRoundSo_243 : decode cL_isRoundSo 243 = .ok (.invokevirtual 19, 3) := by decide +kernel
theorem dL_isRoundSo_246 : decode cL_isRoundSo 246 = .ok (.if_icmp .ge 32, 3) := by decide +kernel
theorem dL_isRoundSo_249 : decode cL_isRoundSo 249 = .ok (.iload 9, 2) := by decide +kernel
theorem dL_isRoundSo_251 : decode cL_isRoundSo 251 = .ok (.ifCond .eq 18, 3) := by decide +kernel
theorem dL_isRoundSo_254 : decode cL_isRoundSo 254 = .ok (.aload_n 0, 1) := by decide +kernel
theorem dL_isRoundSo_255 : decode cL_isRoundSo 255 = .ok (.iload 11, 2) := by decide +kernel
theorem dL_isRoundSo_257 : decode cL_isRoundSo 257 = .ok (.iconst 0, 1) := by decide +kernel
theorem dL_isRoundSo_258 : decode cL_isRoundSo 258 = .ok (.invokevirtual 49, 3) := by decide +kernel
theorem dL_isRoundSo_261 : decode cL_isRoundSo 261 = .ok (.iload_n 1, 1) := by decide +kernel
theorem dL_isRoundSo_262 : decode cL_isRoundSo 262 = .ok (.if_icmp .eq 7, 3) := by decide +kernel
theorem dL_isRoundSo_265 : decode cL_isRoundSo 265 = .ok (.iconst 1, 1) := by decide +kernel
theorem dL_isRoundSo_266 : decode cL_isRoundSo 266 = .ok (.goto 4, 3) := by decide +kernel
theorem dL_isRoundSo_269 : decode cL_isRoundSo 269 = .ok (.iconst 0, 1) := by decide +kernel
theorem dL_isRoundSo_270 : decode cL_isRoundSo 270 = .ok (.istore 9, 2) := by decide +kernel
theorem dL_isRoundSo_272 : decode cL_isRoundSo 272 = .ok (.iinc 11 1, 3) := by decide +kernel
theorem dL_isRoundSo_275 : decode cL_isRoundSo 275 = .ok (.goto (-36), 3) := by decide +kernel
theorem dL_isRoundSo_278 : decode cL_isRoundSo 278 = .ok (.iload_n 3, 1) := by decide +kernel
theorem dL_isRoundSo_279 : decode cL_isRoundSo 279 = .ok (.iconst 1, 1) := by decide +kernel
theorem dL_isRoundSo_280 : decode cL_isRoundSo 280 = .ok (.if_icmp .ne 7, 3) := by decide +kernel
theorem dL_isRoundSo_283 : decode cL_isRoundSo 283 = .ok (.iconst 0, 1) := by decide +kernel
theorem dL_isRoundSo_284 : decode cL_isRoundSo 284 = .ok (.goto 11, 3) := by decide +kernel
theorem dL_isRoundSo_287 : decode cL_isRoundSo 287 = .ok (.aload_n 0, 1) := by decide +kernel
theorem dL_isRoundSo_288 : decode cL_isRoundSo 288 = .ok (.iload_n 2, 1) := by decide +kernel
theorem dL_isRoundSo_289 : decode cL_isRoundSo 289 = .ok (.iload_n 3, 1) := by decide +kernel
theorem dL_isRoundSo_290 : decode cL_isRoundSo 290 = .ok (.iconst 1, 1) := by decide +kernel
theorem dL_isRoundSo_291 : decode cL_isRoundSo 291 = .ok (.isub, 1) := by decide +kernel
theorem dL_isRoundSo_292 : decode cL_isRoundSo 292 = .ok (.invokevirtual 14, 3) := by decide +kernel
theorem dL_isRoundSo_295 : decode cL_isRoundSo 295 = .ok (.istore 8, 2) := by decide +kernel
theorem dL_isRoundSo_297 : decode cL_isRoundSo 297 = .ok (.iload 5, 2) := by decide +kernel
theorem dL_isRoundSo_299 : decode cL_isRoundSo 299 = .ok (.ifCond .eq 22, 3) := by decide +kernel
theorem dL_isRoundSo_302 : decode cL_isRoundSo 302 = .ok (.iload 9, 2) := by decide +kernel
theorem dL_isRoundSo_304 : decode cL_isRoundSo 304 = .ok (.ifCond .eq 13, 3) := by decide +kernel
theorem dL_isRoundSo_307 : decode cL_isRoundSo 307 = .ok (.aload_n 0, 1) := by decide +kernel
theorem dL_isRoundSo_308 : decode cL_isRoundSo 308 = .ok (.iload_n 1, 1) := by decide +kernel
theorem dL_isRoundSo_309 : decode cL_isRoundSo 309 = .ok (.iload_n 2, 1) := by decide +kernel
theorem dL_isRoundSo_310 : decode cL_isRoundSo 310 = .ok (.invokevirtual 58, 3) := by decide +kernel
theorem dL_isRoundSo_313 : decode cL_isRoundSo 313 = .ok (.iconst 1, 1) := by decide +kernel
theorem dL_isRoundSo_314 : decode cL_isRoundSo 314 = .ok (.if_icmp .ne 7, 3) := by decide +kernel
theorem dL_isRoundSo_317 : decode cL_isRoundSo 317 = .ok (.iconst 1, 1) := by decide +kernel
theorem dL_isRoundSo_318 : decode cL_isRoundSo 318 = .ok (.goto 4, 3) := by decide +kernel
theorem dL_isRoundSo_321 : decode cL_isRoundSo 321 = .ok (.iconst 0, 1) := by decide +kernel
theorem dL_isRoundSo_322 : decode cL_isRoundSo 322 = .ok (.istore 5, 2) := by decide +kernel
theorem dL_isRoundSo_324 : decode cL_isRoundSo 324 = .ok (.aload_n 0, 1) := by decide +kernel
theorem dL_isRoundSo_325 : decode cL_isRoundSo 325 = .ok (.iload_n 2, 1) := by decide +kernel
theorem dL_isRoundSo_326 : decode cL_isRoundSo 326 = .ok (.iconst 1, 1) := by decide +kernel
theorem dL_isRoundSo_327 : decode cL_isRoundSo 327 = .ok (.invokevirtual 14, 3) := by decide +kernel
theorem dL_isRoundSo_330 : decode cL_isRoundSo 330 = .ok (.istore 10, 2) := by decide +kernel
theorem dL_isRoundSo_332 : decode cL_isRoundSo 332 = .ok (.iload 5, 2) := by decide +kernel
theorem dL_isRoundSo_334 : decode cL_isRoundSo 334 = .ok (.ifCond .eq 26, 3) := by decide +kernel
theorem dL_isRoundSo_337 : decode cL_isRoundSo 337 = .ok (.iload 9, 2) := by decide +kernel
theorem dL_isRoundSo_339 : decode cL_isRoundSo 339 = .ok (.ifCond .eq 12, 3) := by decide +kernel
theorem dL_isRoundSo_342 : decode cL_isRoundSo 342 = .ok (.aload_n 0, 1) := by decide +kernel
theorem dL_isRoundSo_343 : decode cL_isRoundSo 343 = .ok (.iload_n 1, 1) := by decide +kernel
theorem dL_isRoundSo_344 : decode cL_isRoundSo 344 = .ok (.iload_n 2, 1) := by decide +kernel
theorem dL_isRoundSo_345 : decode cL_isRoundSo 345 = .ok (.invokevirtual 58, 3) := by decide +kernel
theorem dL_isRoundSo_348 : decode cL_isRoundSo 348 = .ok (.ifCond .ne 12, 3) := by decide +kernel
theorem dL_isRoundSo_351 : decode cL_isRoundSo 351 = .ok (.iload 8, 2) := by decide +kernel
theorem dL_isRoundSo_353 : decode cL_isRoundSo 353 = .ok (.ifCond .lt 7, 3) := by decide +kernel
theorem dL_isRoundSo_356 : decode cL_isRoundSo 356 = .ok (.iconst 1, 1) := by decide +kernel
theorem dL_isRoundSo_357 : decode cL_isRoundSo 357 = .ok (.goto 4, 3) := by decide +kernel
theorem dL_isRoundSo_360 : decode cL_isRoundSo 360 = .ok (.iconst 0, 1) := by decide +kernel
theorem dL_isRoundSo_361 : decode cL_isRoundSo 361 = .ok (.istore 5, 2) := by decide +kernel
theorem dL_isRoundSo_363 : decode cL_isRoundSo 363 = .ok (.aload_n 0, 1) := by decide +kernel
theorem dL_isRoundSo_364 : decode cL_isRoundSo 364 = .ok (.invokevirtual 39, 3) := by decide +kernel
theorem dL_isRoundSo_367 : decode cL_isRoundSo 367 = .ok (.istore 10, 2) := by decide +kernel
theorem dL_isRoundSo_369 : decode cL_isRoundSo 369 = .ok (.iload_n 3, 1) := by decide +kernel
theorem dL_isRoundSo_370 : decode cL_isRoundSo 370 = .ok (.iconst 1, 1) := by decide +kernel
theorem dL_isRoundSo_371 : decode cL_isRoundSo 371 = .ok (.if_icmp .ne 7, 3) := by decide +kernel
theorem dL_isRoundSo_374 : decode cL_isRoundSo 374 = .ok (.iconst 0, 1) := by decide +kernel
theorem dL_isRoundSo_375 : decode cL_isRoundSo 375 = .ok (.goto 7, 3) := by decide +kernel
theorem dL_isRoundSo_378 : decode cL_isRoundSo 378 = .ok (.aload_n 0, 1) := by decide +kernel
theorem dL_isRoundSo_379 : decode cL_isRoundSo 379 = .ok (.invokevirtual 39, 3) := by decide +kernel
theorem dL_isRoundSo_382 : decode cL_isRoundSo 382 = .ok (.istore 10, 2) := by decide +kernel
theorem dL_isRoundSo_384 : decode cL_isRoundSo 384 = .ok (.iload 5, 2) := by decide +kernel
theorem dL_isRoundSo_386 : decode cL_isRoundSo 386 = .ok (.ifCond .eq 33, 3) := by decide +kernel
theorem dL_isRoundSo_389 : decode cL_isRoundSo 389 = .ok (.iload 10, 2) := by decide +kernel
theorem dL_isRoundSo_391 : decode cL_isRoundSo 391 = .ok (.ifCond .lt 28, 3) := by decide +kernel
theorem dL_isRoundSo_394 : decode cL_isRoundSo 394 = .ok (.aload_n 0, 1) := by decide +kernel
theorem dL_isRoundSo_395 : decode cL_isRoundSo 395 = .ok (.iload_n 1, 1) := by decide +kernel
theorem dL_isRoundSo_396 : decode cL_isRoundSo 396 = .ok (.iconst 5, 1) := by decide +kernel
theorem dL_isRoundSo_397 : decode cL_isRoundSo 397 = .ok (.invokevirtual 43, 3) := by decide +kernel
theorem dL_isRoundSo_400 : decode cL_isRoundSo 400 = .ok (.iload 7, 2) := by decide +kernel
theorem dL_isRoundSo_402 : decode cL_isRoundSo 402 = .ok (.if_icmp .ne 17, 3) := by decide +kernel
theorem dL_isRoundSo_405 : decode cL_isRoundSo 405 = .ok (.aload_n 0, 1) := by decide +kernel
theorem dL_isRoundSo_406 : decode cL_isRoundSo 406 = .ok (.iload_n 1, 1) := by decide +kernel
theorem dL_isRoundSo_407 : decode cL_isRoundSo 407 = .ok (.iload_n 2, 1) := by decide +kernel
theorem dL_isRoundSo_408 : decode cL_isRoundSo 408 = .ok (.invokevirtual 58, 3) := by decide +kernel
theorem dL_isRoundSo_411 : decode cL_isRoundSo 411 = .ok (.iload_n 3, 1) := by decide +kernel
theorem dL_isRoundSo_412 : decode cL_isRoundSo 412 = .ok (.if_icmp .ne 7, 3) := by decide +kernel
theorem dL_isRoundSo_415 : decode cL_isRoundSo 415 = .ok (.iconst 1, 1) := by decide +kernel
theorem dL_isRoundSo_416 : decode cL_isRoundSo 416 = .ok (.goto 4, 3) := by decide +kernel
theorem dL_isRoundSo_419 : decode cL_isRoundSo 419 = .ok (.iconst 0, 1) := by decide +kernel
theorem dL_isRoundSo_420 : decode cL_isRoundSo 420 = .ok (.istore 5, 2) := by decide +kernel
theorem dL_isRoundSo_422 : decode cL_isRoundSo 422 = .ok (.iload 5, 2) := by decide +kernel
theorem dL_isRoundSo_424 : decode cL_isRoundSo 424 = .ok (.ireturn, 1) := by decide +kernel
theorem un_cases (w a : Int32) (r : Nat → Int32) : unR w a 501 0 r = -1000006 ∨ unR w a 501 0 r = nI 0 ∨ ∃ o, o ≤ 499 ∧ unR w a 501 0 r = nI (o + 1) := by
  rcases un_spec w a 501 0 r with ⟨p, h1, -, -, h4⟩ | ⟨-, h2⟩
  · rw [Nat.zero_add] at h4
    cases p with
    | zero => exact Or.inr (Or.inl h4)
    | succ p => exact Or.inr (Or.inr ⟨p, by omega, h4⟩)
  · exact Or.inl h2
theorem nog_step {P : Nat → Prop} {j : Nat} (h : ∀ k, k < j → P k) (hj : P j) : ∀ k, k < j + 1 → P k := by
  intro k hk
  by_cases e : k = j
  · rw [e]; exact hj
  · exact h k (by omega)
theorem until_pas {B T n h : Nat} {v : VV} (P : zPI B T v n h) {i : Nat} (hi : i < 6) (N : NoG i v n) {y o : Nat} (hy : y ≤ 99) (e : unR (v.1 0) (nI y) 501 0 (v.2.1 i) = nI (o + 1)) (ho : o ≤ 24) (hB : B ≤ 1000) (hh : h ≤ 10000) (hT : T ≤ 1000000) : unR ((pasC (nI y) v o).1 0) (nI y) 501 0 ((pasC (nI y) v o).2.1 i) = 1 ∧ unR ((pasC (nI y) v (o + 1)).1 0) (nI y) 501 0 ((pasC (nI y) v (o + 1)).2.1 i) = 0 := by
  have ey : (nI y).toInt = y := nI_ti (by omega)
  have z := un_after (o := o) (by omega) e
  rw [pas_W _ _ (by omega) (by omega), pas_W _ _ (by omega) (by omega), (NoG.pas hi P N (a := nI y) (by rw [ey]; omega) (by rw [ey]; omega) o (by omega) (by omega) (by omega)).1, (NoG.pas hi P N (a := nI y) (by rw [ey]; omega) (by rw [ey]; omega) (o + 1) (by omega) (by omega) (by omega)).1]
  exact z
set_option maxHeartbeats 4000000 in
set_option maxRecDepth 100000 in
/-- so many hours of rain until a wheel has gone round -/
theorem k_L_isRoundSo (l : Launch) (g : GG) (A : Nat → Prop) (M0 : MM) (X : Nat) (κ : CS) (B Hm T : Nat) (hXS : RXS g A M0 M0 X κ) (S : zSI B Hm T κ) (hB : B < 70) (hH : Hm ≤ 3800) (hT : T ≤ 900000) (i : Nat) (hi : i < 6) (y : Nat) (hy : y < 30) : Met l yL_isRoundSo (Uw yL_isRoundSo cL_isRoundSo 12 (Option.some ClassFile.FieldType.boolean)) (rmD 7) (PreM [.ref (X), .int (nI i), .int (nI y)] g A M0) (PosI (fun r M1 => r = 1 ∧ ∃ c1, RXS g A M1 M1 X c1 ∧ zSI B (Hm + 60) (T + 1200) c1) g A) 0 0 A := by
  refine mk_Met (own := RL) rfl rfl (by decide) (Nat.le_of_ble_eq_true rfl) ?_
  intro p e s m below meth c ls aa Q haa hQ hx hb hr hlk hml hown hts hK hM hS hl hnm
  obtain ⟨M, hMM⟩ : ∃ M, M = M0 := ⟨_, rfl⟩
  rw [← hMM] at hM hXS
  have ht : ∀ w ∈ lw_good, w.before _ s = true := fun w h => hts w (List.mem_cons_of_mem _ h)
  have hl : lv_has ls 12 [(0, .ref (X)), (1, .int (nI i)), (2, .int (nI y))] := hl
  obtain ⟨hCI, ⟨n, h, hhH, hg, P⟩, hHis⟩ := id S
  have hn := P.2.1
  have hh2 := P.2.2.2.1
  have G := P.2.2.2.2.1 i hi
  obtain ⟨w9, hw1, hw2, hw3⟩ := P.2.2.1
  refine lv_aload_n hx hb dL_isRoundSo_0 rfl (lv_at hl 0 rfl) ?_
  refine lv_iload_n hx hb dL_isRoundSo_1 rfl (lv_at hl 1 rfl) ?_
  refine lv_iload_n hx hb dL_isRoundSo_2 rfl (lv_at hl 2 rfl) ?_
  refine m_callI (As := [.int (nI i), .int (nI y)]) (rest := []) ⟨hx, hb, hml, hown, ht⟩ (q_until l g A M X hXS hCI (nI i) (nI y)) (cwV 2 ht (gU uw_2029 uw_521 uw_522 uw_34 uw_523) rfl rfl rfl (by decide +kernel) ⟨Nat.le_of_ble_eq_true rfl, Nat.le_of_ble_eq_true rfl⟩) hK hM hS (m_recv hK hM hXS.ob.1 hXS.ob.2 rfl) rfl hl.1 rfl (Nat.le_of_ble_eq_true rfl) dL_isRoundSo_3 ⟨Nat.le_of_ble_eq_true rfl, Nat.le_of_ble_eq_true rfl⟩ (fun r_3 M H locs hp hM hS => ?_)
  obtain ⟨⟨t_3, e_3⟩, hX9⟩ := hp
  have hXS := hX9.at
  have e_3 : r_3 = unR (κ.1.1 0) (nI y) 501 0 (κ.1.2.1 i) := e_3.trans (until_eq hi (by omega))
  refine lv_istore_n (lv' := [(3, .int (r_3)), (0, .ref (X)), (1, .int (nI i)), (2, .int (nI y))]) hx hb dL_isRoundSo_6 rfl hl (by decide) rfl (fun ls hl => ?_)
  have cut_39 : ∀ (M : MM) (H : Heap) (locs : List Loc) (ls : Array Slot), RXS g A M M X κ → HD g A M H → va_S A s.heap H locs → lv_has ls 12 [(5, .int (nI 1)), (3, .int (r_3)), (0, .ref (X)), (1, .int (nI i)), (2, .int (nI y))] → W p l e (rmD 7) s m aa below meth c H locs 0 0 Q (F0 m 39 ls []) := by
    intro M H locs ls hXS hM hS hl
    rcases un_cases (κ.1.1 0) (nI y) (κ.1.2.1 i) with eU | eU | ⟨o, ho, eU⟩
    · have e39 := e_3.trans eU
      subst e39
      have hnz : ¬ κ.1.1 0 ≤ κ.1.2.1 i 5 - κ.1.2.1 i 10 := fun z => absurd (eU.symm.trans ((un_zero _ _ _).mpr z)) (by decide)
      have cut_139 : ∀ (M : MM) (H : Heap) (locs : List Loc) (ls : Array Slot), RXS g A M M X κ → HD g A M H → va_S A s.heap H locs → lv_has ls 12 [(5, .int (nI 1)), (3, .int ((-1000006))), (0, .ref (X)), (1, .int (nI i)), (2, .int (nI y))] → W p l e (rmD 7) s m aa below meth c H locs 0 0 Q (F0 m 139 ls []) := by
        intro M H locs ls hXS hM hS hl
        refine lv_iload_n hx hb dL_isRoundSo_139 rfl (lv_at hl 1 rfl) ?_
        refine lv_if_le (tgt := 422) hx hb dL_isRoundSo_140 (by decide) (fun c_140 => ?_) (fun c_140 => absurd (by decide) c_140)
        refine lv_iload hx hb dL_isRoundSo_422 (lv_at hl 0 rfl) ?_
        subst hQ
        exact m_zret hx hb hr (rfl) hlk hK hM hS dL_isRoundSo_424 (⟨rfl, κ, hXS, S.mono (by omega) (by omega) (by omega)⟩)
      refine lv_iload_n hx hb dL_isRoundSo_39 rfl (lv_at hl 4 rfl) ?_
      refine lv_if_ne (tgt := 47) hx hb dL_isRoundSo_40 (by decide) (fun c_40 => ?_) (fun c_40 => ?_)
      · refine lv_aload_n hx hb dL_isRoundSo_47 rfl (lv_at hl 2 rfl) ?_
        refine lv_iload_n hx hb dL_isRoundSo_48 rfl (lv_at hl 3 rfl) ?_
        refine lv_iload_n hx hb dL_isRoundSo_49 rfl (lv_at hl 4 rfl) ?_
        refine lv_iconst (v := nI 1) hx hb dL_isRoundSo_50 (by first | rfl | decide) ?_
        refine lv_isub hx hb dL_isRoundSo_51 ?_
        rw [pk_sub (a := y) (b := 1) (Nat.pos_of_ne_zero (fun z => c_40 (by rw [z]; rfl)))]
        refine m_callI (As := [.int (nI i), .int (nI (y - 1))]) (rest := []) ⟨hx, hb, hml, hown, ht⟩ (q_until l g A M X hXS hCI (nI i) (nI (y - 1))) (cwV 2 ht (gU uw_2029 uw_521 uw_522 uw_34 uw_523) rfl rfl rfl (by decide +kernel) ⟨Nat.le_of_ble_eq_true rfl, Nat.le_of_ble_eq_true rfl⟩) hK hM hS (m_recv hK hM hXS.ob.1 hXS.ob.2 rfl) rfl hl.1 rfl (Nat.le_of_ble_eq_true rfl) dL_isRoundSo_52 ⟨Nat.le_of_ble_eq_true rfl, Nat.le_of_ble_eq_true rfl⟩ (fun r_52 M H locs hp hM hS => ?_)
        obtain ⟨⟨t_52, e_52⟩, hX9⟩ := hp
        have hXS := hX9.at
        have e_52 : r_52 = unR (κ.1.1 0) (nI (y - 1)) 501 0 (κ.1.2.1 i) := e_52.trans (until_eq hi (by omega))
        refine lv_istore (lv' := [(6, .int (r_52)), (5, .int (nI 1)), (3, .int ((-1000006))), (0, .ref (X)), (1, .int (nI i)), (2, .int (nI y))]) hx hb dL_isRoundSo_55 hl (by decide) rfl (fun ls hl => ?_)
        have zm := un_mono (h := h) (r := κ.1.2.1 i) G.1 G.2.2.1 (by omega) hw2 (a := nI (y - 1)) (b := nI y) (by rw [nI_ti (by omega)]; omega) (by rw [nI_ti (by omega), nI_ti (by omega)]; omega) (by rw [nI_ti (by omega)]; omega)
        rw [← hw3] at zm
        rcases zm with es | ⟨p9, q9, hqp, hp5, es, er⟩
        · have e57 := e_52.trans es
          subst e57
          refine lv_iload hx hb dL_isRoundSo_57 (lv_at hl 1 rfl) ?_
          refine lv_if_eq (tgt := 136) hx hb dL_isRoundSo_59 (by decide) (fun c_59 => absurd c_59 (by decide)) (fun c_59 => ?_)
          refine lv_iload_n hx hb dL_isRoundSo_62 rfl (lv_at hl 2 rfl) ?_
          refine lv_ldc (v := (-1000006)) hx hb hown (ht _ uw_2030) dL_isRoundSo_63 ?_
          refine lv_icmp_eq (tgt := 79) hx hb dL_isRoundSo_65 (by decide) (fun c_65 => ?_) (fun c_65 => absurd (rfl) c_65)
          refine lv_iload hx hb dL_isRoundSo_79 (lv_at hl 0 rfl) ?_
          refine lv_ldc (v := (-1000006)) hx hb hown (ht _ uw_2030) dL_isRoundSo_81 ?_
          refine lv_icmp_eq (tgt := 96) hx hb dL_isRoundSo_83 (by decide) (fun c_83 => ?_) (fun c_83 => absurd (rfl) c_83)
          refine lv_iload_n hx hb dL_isRoundSo_96 rfl (lv_at hl 2 rfl) ?_
          refine lv_if_ne (tgt := 104) hx hb dL_isRoundSo_97 (by decide) (fun c_97 => ?_) (fun c_97 => absurd c_97 (by decide))
          refine lv_iconst (v := nI 0) hx hb dL_isRoundSo_104 (by first | rfl | decide) ?_
          refine lv_aload_n hx hb dL_isRoundSo_105 rfl (lv_at hl 3 rfl) ?_
          refine lv_iload_n hx hb dL_isRoundSo_106 rfl (lv_at hl 4 rfl) ?_
          refine lv_iconst (v := nI 0) hx hb dL_isRoundSo_107 (by first | rfl | decide) ?_
          refine m_callI (As := [.int (nI i), .int (nI 0)]) (rest := [.int (nI 0)]) ⟨hx, hb, hml, hown, ht⟩ (q_until l g A M X hXS hCI (nI i) (nI 0)) (cwV 2 ht (gU uw_2029 uw_521 uw_522 uw_34 uw_523) rfl rfl rfl (by decide +kernel) ⟨Nat.le_of_ble_eq_true rfl, Nat.le_of_ble_eq_true rfl⟩) hK hM hS (m_recv hK hM hXS.ob.1 hXS.ob.2 rfl) rfl hl.1 rfl (Nat.le_of_ble_eq_true rfl) dL_isRoundSo_108 ⟨Nat.le_of_ble_eq_true rfl, Nat.le_of_ble_eq_true rfl⟩ (fun r_108 M H locs hp hM hS => ?_)
          obtain ⟨⟨t_108, e_108⟩, hX9⟩ := hp
          have hXS := hX9.at
          have e_108 : r_108 = unR (κ.1.1 0) (nI 0) 501 0 (κ.1.2.1 i) := e_108.trans (until_eq hi (by omega))
          refine lv_if_ne (tgt := 128) hx hb dL_isRoundSo_111 (by decide) (fun c_111 => ?_) (fun c_111 => absurd c_111 (fun z => hnz ((un_zero _ _ _).mp (e_108.symm.trans z))))
          refine lv_iconst (v := nI 0) hx hb dL_isRoundSo_128 (by first | rfl | decide) ?_
          refine lv_icmp_ne (tgt := 136) hx hb dL_isRoundSo_129 (by decide) (fun c_129 => absurd (rfl) c_129) (fun c_129 => ?_)
          refine lv_iconst (v := nI 1) hx hb dL_isRoundSo_132 (by first | rfl | decide) ?_
          refine lv_goto (tgt := 137) hx hb dL_isRoundSo_133 (by decide) ?_
          refine lv_istore (lv' := [(5, .int (nI 1)), (6, .int ((-1000006))), (3, .int ((-1000006))), (0, .ref (X)), (1, .int (nI i)), (2, .int (nI y))]) hx hb dL_isRoundSo_137 hl (by decide) rfl (fun ls hl => ?_)
          exact cut_139 _ _ _ _ hXS hM hS (lv_sub hl [0, 2, 3, 4, 5] rfl)
        · exact absurd (eU.symm.trans er) (fun z => nI_none (by omega) z.symm)
      · refine lv_iload_n hx hb dL_isRoundSo_43 rfl (lv_at hl 1 rfl) ?_
        refine lv_goto (tgt := 55) hx hb dL_isRoundSo_44 (by decide) ?_
        refine lv_istore (lv' := [(6, .int ((-1000006))), (5, .int (nI 1)), (3, .int ((-1000006))), (0, .ref (X)), (1, .int (nI i)), (2, .int (nI y))]) hx hb dL_isRoundSo_55 hl (by decide) rfl (fun ls hl => ?_)
        refine lv_iload hx hb dL_isRoundSo_57 (lv_at hl 1 rfl) ?_
        refine lv_if_eq (tgt := 136) hx hb dL_isRoundSo_59 (by decide) (fun c_59 => absurd c_59 (by decide)) (fun c_59 => ?_)
        refine lv_iload_n hx hb dL_isRoundSo_62 rfl (lv_at hl 2 rfl) ?_
        refine lv_ldc (v := (-1000006)) hx hb hown (ht _ uw_2030) dL_isRoundSo_63 ?_
        refine lv_icmp_eq (tgt := 79) hx hb dL_isRoundSo_65 (by decide) (fun c_65 => ?_) (fun c_65 => absurd (rfl) c_65)
        refine lv_iload hx hb dL_isRoundSo_79 (lv_at hl 0 rfl) ?_
        refine lv_ldc (v := (-1000006)) hx hb hown (ht _ uw_2030) dL_isRoundSo_81 ?_
        refine lv_icmp_eq (tgt := 96) hx hb dL_isRoundSo_83 (by decide) (fun c_83 => ?_) (fun c_83 => absurd (rfl) c_83)
        refine lv_iload_n hx hb dL_isRoundSo_96 rfl (lv_at hl 2 rfl) ?_
        refine lv_if_ne (tgt := 104) hx hb dL_isRoundSo_97 (by decide) (fun c_97 => ?_) (fun c_97 => absurd c_97 (by decide))
        refine lv_iconst (v := nI 0) hx hb dL_isRoundSo_104 (by first | rfl | decide) ?_
        refine lv_aload_n hx hb dL_isRoundSo_105 rfl (lv_at hl 3 rfl) ?_
        refine lv_iload_n hx hb dL_isRoundSo_106 rfl (lv_at hl 4 rfl) ?_
        refine lv_iconst (v := nI 0) hx hb dL_isRoundSo_107 (by first | rfl | decide) ?_
        refine m_callI (As := [.int (nI i), .int (nI 0)]) (rest := [.int (nI 0)]) ⟨hx, hb, hml, hown, ht⟩ (q_until l g A M X hXS hCI (nI i) (nI 0)) (cwV 2 ht (gU uw_2029 uw_521 uw_522 uw_34 uw_523) rfl rfl rfl (by decide +kernel) ⟨Nat.le_of_ble_eq_true rfl, Nat.le_of_ble_eq_true rfl⟩) hK hM hS (m_recv hK hM hXS.ob.1 hXS.ob.2 rfl) rfl hl.1 rfl (Nat.le_of_ble_eq_true rfl) dL_isRoundSo_108 ⟨Nat.le_of_ble_eq_true rfl, Nat.le_of_ble_eq_true rfl⟩ (fun r_108 M H locs hp hM hS => ?_)
        obtain ⟨⟨t_108, e_108⟩, hX9⟩ := hp
        have hXS := hX9.at
        have e_108 : r_108 = unR (κ.1.1 0) (nI 0) 501 0 (κ.1.2.1 i) := e_108.trans (until_eq hi (by omega))
        refine lv_if_ne (tgt := 128) hx hb dL_isRoundSo_111 (by decide) (fun c_111 => ?_) (fun c_111 => absurd c_111 (fun z => hnz ((un_zero _ _ _).mp (e_108.symm.trans z))))
        refine lv_iconst (v := nI 0) hx hb dL_isRoundSo_128 (by first | rfl | decide) ?_
        refine lv_icmp_ne (tgt := 136) hx hb dL_isRoundSo_129 (by decide) (fun c_129 => absurd (rfl) c_129) (fun c_129 => ?_)
        refine lv_iconst (v := nI 1) hx hb dL_isRoundSo_132 (by first | rfl | decide) ?_
        refine lv_goto (tgt := 137) hx hb dL_isRoundSo_133 (by decide) ?_
        refine lv_istore (lv' := [(5, .int (nI 1)), (6, .int ((-1000006))), (3, .int ((-1000006))), (0, .ref (X)), (1, .int (nI i)), (2, .int (nI y))]) hx hb dL_isRoundSo_137 hl (by decide) rfl (fun ls hl => ?_)
        exact cut_139 _ _ _ _ hXS hM hS (lv_sub hl [0, 2, 3, 4, 5] rfl)
    · have e39 := e_3.trans eU
      subst e39
      have hz0 := (un_zero _ _ _).mp eU
      have cut_139 : ∀ (M : MM) (H : Heap) (locs : List Loc) (ls : Array Slot), RXS g A M M X κ → HD g A M H → va_S A s.heap H locs → lv_has ls 12 [(5, .int (nI 1)), (3, .int (nI 0)), (0, .ref (X)), (1, .int (nI i)), (2, .int (nI y))] → W p l e (rmD 7) s m aa below meth c H locs 0 0 Q (F0 m 139 ls []) := by
        intro M H locs ls hXS hM hS hl
        refine lv_iload_n hx hb dL_isRoundSo_139 rfl (lv_at hl 1 rfl) ?_
        refine lv_if_le (tgt := 422) hx hb dL_isRoundSo_140 (by decide) (fun c_140 => ?_) (fun c_140 => absurd (by decide) c_140)
        refine lv_iload hx hb dL_isRoundSo_422 (lv_at hl 0 rfl) ?_
        subst hQ
        exact m_zret hx hb hr (rfl) hlk hK hM hS dL_isRoundSo_424 (⟨rfl, κ, hXS, S.mono (by omega) (by omega) (by omega)⟩)
      refine lv_iload_n hx hb dL_isRoundSo_39 rfl (lv_at hl 4 rfl) ?_
      refine lv_if_ne (tgt := 47) hx hb dL_isRoundSo_40 (by decide) (fun c_40 => ?_) (fun c_40 => ?_)
      · refine lv_aload_n hx hb dL_isRoundSo_47 rfl (lv_at hl 2 rfl) ?_
        refine lv_iload_n hx hb dL_isRoundSo_48 rfl (lv_at hl 3 rfl) ?_
        refine lv_iload_n hx hb dL_isRoundSo_49 rfl (lv_at hl 4 rfl) ?_
        refine lv_iconst (v := nI 1) hx hb dL_isRoundSo_50 (by first | rfl | decide) ?_
        refine lv_isub hx hb dL_isRoundSo_51 ?_
        rw [pk_sub (a := y) (b := 1) (Nat.pos_of_ne_zero (fun z => c_40 (by rw [z]; rfl)))]
        refine m_callI (As := [.int (nI i), .int (nI (y - 1))]) (rest := []) ⟨hx, hb, hml, hown, ht⟩ (q_until l g A M X hXS hCI (nI i) (nI (y - 1))) (cwV 2 ht (gU uw_2029 uw_521 uw_522 uw_34 uw_523) rfl rfl rfl (by decide +kernel) ⟨Nat.le_of_ble_eq_true rfl, Nat.le_of_ble_eq_true rfl⟩) hK hM hS (m_recv hK hM hXS.ob.1 hXS.ob.2 rfl) rfl hl.1 rfl (Nat.le_of_ble_eq_true rfl) dL_isRoundSo_52 ⟨Nat.le_of_ble_eq_true rfl, Nat.le_of_ble_eq_true rfl⟩ (fun r_52 M H locs hp hM hS => ?_)
        obtain ⟨⟨t_52, e_52⟩, hX9⟩ := hp
        have hXS := hX9.at
        have e_52 : r_52 = unR (κ.1.1 0) (nI (y - 1)) 501 0 (κ.1.2.1 i) := e_52.trans (until_eq hi (by omega))
        refine lv_istore (lv' := [(6, .int (r_52)), (5, .int (nI 1)), (3, .int (nI 0)), (0, .ref (X)), (1, .int (nI i)), (2, .int (nI y))]) hx hb dL_isRoundSo_55 hl (by decide) rfl (fun ls hl => ?_)
        have zm := un_mono (h := h) (r := κ.1.2.1 i) G.1 G.2.2.1 (by omega) hw2 (a := nI (y - 1)) (b := nI y) (by rw [nI_ti (by omega)]; omega) (by rw [nI_ti (by omega), nI_ti (by omega)]; omega) (by rw [nI_ti (by omega)]; omega)
        rw [← hw3] at zm
        rcases zm with es | ⟨p9, q9, hqp, hp5, es, er⟩
        · have e57 := e_52.trans es
          subst e57
          refine lv_iload hx hb dL_isRoundSo_57 (lv_at hl 1 rfl) ?_
          refine lv_if_eq (tgt := 136) hx hb dL_isRoundSo_59 (by decide) (fun c_59 => absurd c_59 (by decide)) (fun c_59 => ?_)
          refine lv_iload_n hx hb dL_isRoundSo_62 rfl (lv_at hl 2 rfl) ?_
          refine lv_ldc (v := (-1000006)) hx hb hown (ht _ uw_2030) dL_isRoundSo_63 ?_
          refine lv_icmp_eq (tgt := 79) hx hb dL_isRoundSo_65 (by decide) (fun c_65 => absurd c_65 (nI_none (by omega))) (fun c_65 => ?_)
          refine lv_iload_n hx hb dL_isRoundSo_68 rfl (lv_at hl 2 rfl) ?_
          refine lv_if_lt (tgt := 136) hx hb dL_isRoundSo_69 (by decide) (fun c_69 => absurd c_69 (nIge0 (by omega))) (fun c_69 => ?_)
          refine lv_iload_n hx hb dL_isRoundSo_72 rfl (lv_at hl 2 rfl) ?_
          refine lv_sipush (v := nI 500) hx hb dL_isRoundSo_73 (by first | rfl | decide) ?_
          refine lv_icmp_gt (tgt := 136) hx hb dL_isRoundSo_76 (by decide) (fun c_76 => absurd c_76 (Int32.not_lt.mpr (nI_le (by omega) (by omega)))) (fun c_76 => ?_)
          refine lv_iload hx hb dL_isRoundSo_79 (lv_at hl 0 rfl) ?_
          refine lv_ldc (v := (-1000006)) hx hb hown (ht _ uw_2030) dL_isRoundSo_81 ?_
          refine lv_icmp_eq (tgt := 96) hx hb dL_isRoundSo_83 (by decide) (fun c_83 => ?_) (fun c_83 => absurd (rfl) c_83)
          refine lv_iload_n hx hb dL_isRoundSo_96 rfl (lv_at hl 2 rfl) ?_
          refine lv_if_ne (tgt := 104) hx hb dL_isRoundSo_97 (by decide) (fun c_97 => absurd (rfl) c_97) (fun c_97 => ?_)
          refine lv_iconst (v := nI 1) hx hb dL_isRoundSo_100 (by first | rfl | decide) ?_
          refine lv_goto (tgt := 105) hx hb dL_isRoundSo_101 (by decide) ?_
          refine lv_aload_n hx hb dL_isRoundSo_105 rfl (lv_at hl 3 rfl) ?_
          refine lv_iload_n hx hb dL_isRoundSo_106 rfl (lv_at hl 4 rfl) ?_
          refine lv_iconst (v := nI 0) hx hb dL_isRoundSo_107 (by first | rfl | decide) ?_
          refine m_callI (As := [.int (nI i), .int (nI 0)]) (rest := [.int (nI 1)]) ⟨hx, hb, hml, hown, ht⟩ (q_until l g A M X hXS hCI (nI i) (nI 0)) (cwV 2 ht (gU uw_2029 uw_521 uw_522 uw_34 uw_523) rfl rfl rfl (by decide +kernel) ⟨Nat.le_of_ble_eq_true rfl, Nat.le_of_ble_eq_true rfl⟩) hK hM hS (m_recv hK hM hXS.ob.1 hXS.ob.2 rfl) rfl hl.1 rfl (Nat.le_of_ble_eq_true rfl) dL_isRoundSo_108 ⟨Nat.le_of_ble_eq_true rfl, Nat.le_of_ble_eq_true rfl⟩ (fun r_108 M H locs hp hM hS => ?_)
          obtain ⟨⟨t_108, e_108⟩, hX9⟩ := hp
          have hXS := hX9.at
          have e_108 : r_108 = unR (κ.1.1 0) (nI 0) 501 0 (κ.1.2.1 i) := e_108.trans (until_eq hi (by omega))
          refine lv_if_ne (tgt := 128) hx hb dL_isRoundSo_111 (by decide) (fun c_111 => absurd (e_108.trans ((un_zero _ _ _).mpr hz0)) c_111) (fun c_111 => ?_)
          refine lv_aload_n hx hb dL_isRoundSo_114 rfl (lv_at hl 3 rfl) ?_
          refine lv_iload_n hx hb dL_isRoundSo_115 rfl (lv_at hl 4 rfl) ?_
          refine lv_bipush (v := nI 99) hx hb dL_isRoundSo_116 (by first | rfl | decide) ?_
          refine m_callI (As := [.int (nI i), .int (nI 99)]) (rest := [.int (nI 1)]) ⟨hx, hb, hml, hown, ht⟩ (q_until l g A M X hXS hCI (nI i) (nI 99)) (cwV 2 ht (gU uw_2029 uw_521 uw_522 uw_34 uw_523) rfl rfl rfl (by decide +kernel) ⟨Nat.le_of_ble_eq_true rfl, Nat.le_of_ble_eq_true rfl⟩) hK hM hS (m_recv hK hM hXS.ob.1 hXS.ob.2 rfl) rfl hl.1 rfl (Nat.le_of_ble_eq_true rfl) dL_isRoundSo_118 ⟨Nat.le_of_ble_eq_true rfl, Nat.le_of_ble_eq_true rfl⟩ (fun r_118 M H locs hp hM hS => ?_)
          obtain ⟨⟨t_118, e_118⟩, hX9⟩ := hp
          have hXS := hX9.at
          have e_118 : r_118 = unR (κ.1.1 0) (nI 99) 501 0 (κ.1.2.1 i) := e_118.trans (until_eq hi (by omega))
          refine lv_if_ne (tgt := 128) hx hb dL_isRoundSo_121 (by decide) (fun c_121 => absurd (e_118.trans ((un_zero _ _ _).mpr hz0)) c_121) (fun c_121 => ?_)
          refine lv_iconst (v := nI 1) hx hb dL_isRoundSo_124 (by first | rfl | decide) ?_
          refine lv_goto (tgt := 129) hx hb dL_isRoundSo_125 (by decide) ?_
          refine lv_icmp_ne (tgt := 136) hx hb dL_isRoundSo_129 (by decide) (fun c_129 => absurd (rfl) c_129) (fun c_129 => ?_)
          refine lv_iconst (v := nI 1) hx hb dL_isRoundSo_132 (by first | rfl | decide) ?_
          refine lv_goto (tgt := 137) hx hb dL_isRoundSo_133 (by decide) ?_
          refine lv_istore (lv' := [(5, .int (nI 1)), (6, .int ((-1000006))), (3, .int (nI 0)), (0, .ref (X)), (1, .int (nI i)), (2, .int (nI y))]) hx hb dL_isRoundSo_137 hl (by decide) rfl (fun ls hl => ?_)
          exact cut_139 _ _ _ _ hXS hM hS (lv_sub hl [0, 2, 3, 4, 5] rfl)
        · have e57 := e_52.trans es
          subst e57
          have e58 : 0 = q9 := nI_ij (by omega) (by omega) (eU.symm.trans er)
          refine lv_iload hx hb dL_isRoundSo_57 (lv_at hl 1 rfl) ?_
          refine lv_if_eq (tgt := 136) hx hb dL_isRoundSo_59 (by decide) (fun c_59 => absurd c_59 (by decide)) (fun c_59 => ?_)
          refine lv_iload_n hx hb dL_isRoundSo_62 rfl (lv_at hl 2 rfl) ?_
          refine lv_ldc (v := (-1000006)) hx hb hown (ht _ uw_2030) dL_isRoundSo_63 ?_
          refine lv_icmp_eq (tgt := 79) hx hb dL_isRoundSo_65 (by decide) (fun c_65 => absurd c_65 (nI_none (by omega))) (fun c_65 => ?_)
          refine lv_iload_n hx hb dL_isRoundSo_68 rfl (lv_at hl 2 rfl) ?_
          refine lv_if_lt (tgt := 136) hx hb dL_isRoundSo_69 (by decide) (fun c_69 => absurd c_69 (nIge0 (by omega))) (fun c_69 => ?_)
          refine lv_iload_n hx hb dL_isRoundSo_72 rfl (lv_at hl 2 rfl) ?_
          refine lv_sipush (v := nI 500) hx hb dL_isRoundSo_73 (by first | rfl | decide) ?_
          refine lv_icmp_gt (tgt := 136) hx hb dL_isRoundSo_76 (by decide) (fun c_76 => absurd c_76 (Int32.not_lt.mpr (nI_le (by omega) (by omega)))) (fun c_76 => ?_)
          refine lv_iload hx hb dL_isRoundSo_79 (lv_at hl 0 rfl) ?_
          refine lv_ldc (v := (-1000006)) hx hb hown (ht _ uw_2030) dL_isRoundSo_81 ?_
          refine lv_icmp_eq (tgt := 96) hx hb dL_isRoundSo_83 (by decide) (fun c_83 => absurd c_83 (nI_none (by omega))) (fun c_83 => ?_)
          refine lv_iload_n hx hb dL_isRoundSo_86 rfl (lv_at hl 2 rfl) ?_
          refine lv_if_lt (tgt := 136) hx hb dL_isRoundSo_87 (by decide) (fun c_87 => absurd c_87 (nIge0 (by omega))) (fun c_87 => ?_)
          refine lv_iload_n hx hb dL_isRoundSo_90 rfl (lv_at hl 2 rfl) ?_
          refine lv_iload hx hb dL_isRoundSo_91 (lv_at hl 0 rfl) ?_
          refine lv_icmp_gt (tgt := 136) hx hb dL_isRoundSo_93 (by decide) (fun c_93 => absurd c_93 (Int32.not_lt.mpr (nI_le (by omega) (by omega)))) (fun c_93 => ?_)
          refine lv_iload_n hx hb dL_isRoundSo_96 rfl (lv_at hl 2 rfl) ?_
          refine lv_if_ne (tgt := 104) hx hb dL_isRoundSo_97 (by decide) (fun c_97 => absurd (rfl) c_97) (fun c_97 => ?_)
          refine lv_iconst (v := nI 1) hx hb dL_isRoundSo_100 (by first | rfl | decide) ?_
          refine lv_goto (tgt := 105) hx hb dL_isRoundSo_101 (by decide) ?_
          refine lv_aload_n hx hb dL_isRoundSo_105 rfl (lv_at hl 3 rfl) ?_
          refine lv_iload_n hx hb dL_isRoundSo_106 rfl (lv_at hl 4 rfl) ?_
          refine lv_iconst (v := nI 0) hx hb dL_isRoundSo_107 (by first | rfl | decide) ?_
          refine m_callI (As := [.int (nI i), .int (nI 0)]) (rest := [.int (nI 1)]) ⟨hx, hb, hml, hown, ht⟩ (q_until l g A M X hXS hCI (nI i) (nI 0)) (cwV 2 ht (gU uw_2029 uw_521 uw_522 uw_34 uw_523) rfl rfl rfl (by decide +kernel) ⟨Nat.le_of_ble_eq_true rfl, Nat.le_of_ble_eq_true rfl⟩) hK hM hS (m_recv hK hM hXS.ob.1 hXS.ob.2 rfl) rfl hl.1 rfl (Nat.le_of_ble_eq_true rfl) dL_isRoundSo_108 ⟨Nat.le_of_ble_eq_true rfl, Nat.le_of_ble_eq_true rfl⟩ (fun r_108 M H locs hp hM hS => ?_)
          obtain ⟨⟨t_108, e_108⟩, hX9⟩ := hp
          have hXS := hX9.at
          have e_108 : r_108 = unR (κ.1.1 0) (nI 0) 501 0 (κ.1.2.1 i) := e_108.trans (until_eq hi (by omega))
          refine lv_if_ne (tgt := 128) hx hb dL_isRoundSo_111 (by decide) (fun c_111 => absurd (e_108.trans ((un_zero _ _ _).mpr hz0)) c_111) (fun c_111 => ?_)
          refine lv_aload_n hx hb dL_isRoundSo_114 rfl (lv_at hl 3 rfl) ?_
          refine lv_iload_n hx hb dL_isRoundSo_115 rfl (lv_at hl 4 rfl) ?_
          refine lv_bipush (v := nI 99) hx hb dL_isRoundSo_116 (by first | rfl | decide) ?_
          refine m_callI (As := [.int (nI i), .int (nI 99)]) (rest := [.int (nI 1)]) ⟨hx, hb, hml, hown, ht⟩ (q_until l g A M X hXS hCI (nI i) (nI 99)) (cwV 2 ht (gU uw_2029 uw_521 uw_522 uw_34 uw_523) rfl rfl rfl (by decide +kernel) ⟨Nat.le_of_ble_eq_true rfl, Nat.le_of_ble_eq_true rfl⟩) hK hM hS (m_recv hK hM hXS.ob.1 hXS.ob.2 rfl) rfl hl.1 rfl (Nat.le_of_ble_eq_true rfl) dL_isRoundSo_118 ⟨Nat.le_of_ble_eq_true rfl, Nat.le_of_ble_eq_true rfl⟩ (fun r_118 M H locs hp hM hS => ?_)
          obtain ⟨⟨t_118, e_118⟩, hX9⟩ := hp
          have hXS := hX9.at
          have e_118 : r_118 = unR (κ.1.1 0) (nI 99) 501 0 (κ.1.2.1 i) := e_118.trans (until_eq hi (by omega))
          refine lv_if_ne (tgt := 128) hx hb dL_isRoundSo_121 (by decide) (fun c_121 => absurd (e_118.trans ((un_zero _ _ _).mpr hz0)) c_121) (fun c_121 => ?_)
          refine lv_iconst (v := nI 1) hx hb dL_isRoundSo_124 (by first | rfl | decide) ?_
          refine lv_goto (tgt := 129) hx hb dL_isRoundSo_125 (by decide) ?_
          refine lv_icmp_ne (tgt := 136) hx hb dL_isRoundSo_129 (by decide) (fun c_129 => absurd (rfl) c_129) (fun c_129 => ?_)
          refine lv_iconst (v := nI 1) hx hb dL_isRoundSo_132 (by first | rfl | decide) ?_
          refine lv_goto (tgt := 137) hx hb dL_isRoundSo_133 (by decide) ?_
          refine lv_istore (lv' := [(5, .int (nI 1)), (6, .int (nI p9)), (3, .int (nI 0)), (0, .ref (X)), (1, .int (nI i)), (2, .int (nI y))]) hx hb dL_isRoundSo_137 hl (by decide) rfl (fun ls hl => ?_)
          exact cut_139 _ _ _ _ hXS hM hS (lv_sub hl [0, 2, 3, 4, 5] rfl)
      · refine lv_iload_n hx hb dL_isRoundSo_43 rfl (lv_at hl 1 rfl) ?_
        refine lv_goto (tgt := 55) hx hb dL_isRoundSo_44 (by decide) ?_
        refine lv_istore (lv' := [(6, .int (nI 0)), (5, .int (nI 1)), (3, .int (nI 0)), (0, .ref (X)), (1, .int (nI i)), (2, .int (nI y))]) hx hb dL_isRoundSo_55 hl (by decide) rfl (fun ls hl => ?_)
        refine lv_iload hx hb dL_isRoundSo_57 (lv_at hl 1 rfl) ?_
        refine lv_if_eq (tgt := 136) hx hb dL_isRoundSo_59 (by decide) (fun c_59 => absurd c_59 (by decide)) (fun c_59 => ?_)
        refine lv_iload_n hx hb dL_isRoundSo_62 rfl (lv_at hl 2 rfl) ?_
        refine lv_ldc (v := (-1000006)) hx hb hown (ht _ uw_2030) dL_isRoundSo_63 ?_
        refine lv_icmp_eq (tgt := 79) hx hb dL_isRoundSo_65 (by decide) (fun c_65 => absurd c_65 (nI_none (by omega))) (fun c_65 => ?_)
        refine lv_iload_n hx hb dL_isRoundSo_68 rfl (lv_at hl 2 rfl) ?_
        refine lv_if_lt (tgt := 136) hx hb dL_isRoundSo_69 (by decide) (fun c_69 => absurd c_69 (nIge0 (by omega))) (fun c_69 => ?_)
        refine lv_iload_n hx hb dL_isRoundSo_72 rfl (lv_at hl 2 rfl) ?_
        refine lv_sipush (v := nI 500) hx hb dL_isRoundSo_73 (by first | rfl | decide) ?_
        refine lv_icmp_gt (tgt := 136) hx hb dL_isRoundSo_76 (by decide) (fun c_76 => absurd c_76 (Int32.not_lt.mpr (nI_le (by omega) (by omega)))) (fun c_76 => ?_)
        refine lv_iload hx hb dL_isRoundSo_79 (lv_at hl 0 rfl) ?_
        refine lv_ldc (v := (-1000006)) hx hb hown (ht _ uw_2030) dL_isRoundSo_81 ?_
        refine lv_icmp_eq (tgt := 96) hx hb dL_isRoundSo_83 (by decide) (fun c_83 => absurd c_83 (nI_none (by omega))) (fun c_83 => ?_)
        refine lv_iload_n hx hb dL_isRoundSo_86 rfl (lv_at hl 2 rfl) ?_
        refine lv_if_lt (tgt := 136) hx hb dL_isRoundSo_87 (by decide) (fun c_87 => absurd c_87 (nIge0 (by omega))) (fun c_87 => ?_)
        refine lv_iload_n hx hb dL_isRoundSo_90 rfl (lv_at hl 2 rfl) ?_
        refine lv_iload hx hb dL_isRoundSo_91 (lv_at hl 0 rfl) ?_
        refine lv_icmp_gt (tgt := 136) hx hb dL_isRoundSo_93 (by decide) (fun c_93 => absurd c_93 (Int32.lt_irrefl)) (fun c_93 => ?_)
        refine lv_iload_n hx hb dL_isRoundSo_96 rfl (lv_at hl 2 rfl) ?_
        refine lv_if_ne (tgt := 104) hx hb dL_isRoundSo_97 (by decide) (fun c_97 => absurd (rfl) c_97) (fun c_97 => ?_)
        refine lv_iconst (v := nI 1) hx hb dL_isRoundSo_100 (by first | rfl | decide) ?_
        refine lv_goto (tgt := 105) hx hb dL_isRoundSo_101 (by decide) ?_
        refine lv_aload_n hx hb dL_isRoundSo_105 rfl (lv_at hl 3 rfl) ?_
        refine lv_iload_n hx hb dL_isRoundSo_106 rfl (lv_at hl 4 rfl) ?_
        refine lv_iconst (v := nI 0) hx hb dL_isRoundSo_107 (by first | rfl | decide) ?_
        refine m_callI (As := [.int (nI i), .int (nI 0)]) (rest := [.int (nI 1)]) ⟨hx, hb, hml, hown, ht⟩ (q_until l g A M X hXS hCI (nI i) (nI 0)) (cwV 2 ht (gU uw_2029 uw_521 uw_522 uw_34 uw_523) rfl rfl rfl (by decide +kernel) ⟨Nat.le_of_ble_eq_true rfl, Nat.le_of_ble_eq_true rfl⟩) hK hM hS (m_recv hK hM hXS.ob.1 hXS.ob.2 rfl) rfl hl.1 rfl (Nat.le_of_ble_eq_true rfl) dL_isRoundSo_108 ⟨Nat.le_of_ble_eq_true rfl, Nat.le_of_ble_eq_true rfl⟩ (fun r_108 M H locs hp hM hS => ?_)
        obtain ⟨⟨t_108, e_108⟩, hX9⟩ := hp
        have hXS := hX9.at
        have e_108 : r_108 = unR (κ.1.1 0) (nI 0) 501 0 (κ.1.2.1 i) := e_108.trans (until_eq hi (by omega))
        refine lv_if_ne (tgt := 128) hx hb dL_isRoundSo_111 (by decide) (fun c_111 => absurd (e_108.trans ((un_zero _ _ _).mpr hz0)) c_111) (fun c_111 => ?_)
        refine lv_aload_n hx hb dL_isRoundSo_114 rfl (lv_at hl 3 rfl) ?_
        refine lv_iload_n hx hb dL_isRoundSo_115 rfl (lv_at hl 4 rfl) ?_
        refine lv_bipush (v := nI 99) hx hb dL_isRoundSo_116 (by first | rfl | decide) ?_
        refine m_callI (As := [.int (nI i), .int (nI 99)]) (rest := [.int (nI 1)]) ⟨hx, hb, hml, hown, ht⟩ (q_until l g A M X hXS hCI (nI i) (nI 99)) (cwV 2 ht (gU uw_2029 uw_521 uw_522 uw_34 uw_523) rfl rfl rfl (by decide +kernel) ⟨Nat.le_of_ble_eq_true rfl, Nat.le_of_ble_eq_true rfl⟩) hK hM hS (m_recv hK hM hXS.ob.1 hXS.ob.2 rfl) rfl hl.1 rfl (Nat.le_of_ble_eq_true rfl) dL_isRoundSo_118 ⟨Nat.le_of_ble_eq_true rfl, Nat.le_of_ble_eq_true rfl⟩ (fun r_118 M H locs hp hM hS => ?_)
        obtain ⟨⟨t_118, e_118⟩, hX9⟩ := hp
        have hXS := hX9.at
        have e_118 : r_118 = unR (κ.1.1 0) (nI 99) 501 0 (κ.1.2.1 i) := e_118.trans (until_eq hi (by omega))
        refine lv_if_ne (tgt := 128) hx hb dL_isRoundSo_121 (by decide) (fun c_121 => absurd (e_118.trans ((un_zero _ _ _).mpr hz0)) c_121) (fun c_121 => ?_)
        refine lv_iconst (v := nI 1) hx hb dL_isRoundSo_124 (by first | rfl | decide) ?_
        refine lv_goto (tgt := 129) hx hb dL_isRoundSo_125 (by decide) ?_
        refine lv_icmp_ne (tgt := 136) hx hb dL_isRoundSo_129 (by decide) (fun c_129 => absurd (rfl) c_129) (fun c_129 => ?_)
        refine lv_iconst (v := nI 1) hx hb dL_isRoundSo_132 (by first | rfl | decide) ?_
        refine lv_goto (tgt := 137) hx hb dL_isRoundSo_133 (by decide) ?_
        refine lv_istore (lv' := [(5, .int (nI 1)), (6, .int (nI 0)), (3, .int (nI 0)), (0, .ref (X)), (1, .int (nI i)), (2, .int (nI y))]) hx hb dL_isRoundSo_137 hl (by decide) rfl (fun ls hl => ?_)
        exact cut_139 _ _ _ _ hXS hM hS (lv_sub hl [0, 2, 3, 4, 5] rfl)
    · have e39 := e_3.trans eU
      subst e39
      have hnz : ¬ κ.1.1 0 ≤ κ.1.2.1 i 5 - κ.1.2.1 i 10 := fun z => absurd (nI_ij (b := 0) (by omega) (by omega) (eU.symm.trans ((un_zero _ _ _).mpr z))) (by omega)
      have cut_139 : ∀ (M : MM) (H : Heap) (locs : List Loc) (ls : Array Slot), RXS g A M M X κ → HD g A M H → va_S A s.heap H locs → lv_has ls 12 [(5, .int (nI 1)), (3, .int (nI (o + 1))), (0, .ref (X)), (1, .int (nI i)), (2, .int (nI y))] → W p l e (rmD 7) s m aa below meth c H locs 0 0 Q (F0 m 139 ls []) := by
        intro M H locs ls hXS hM hS hl
        refine lv_iload_n hx hb dL_isRoundSo_139 rfl (lv_at hl 1 rfl) ?_
        refine lv_if_le (tgt := 422) hx hb dL_isRoundSo_140 (by decide) (fun c_140 => absurd c_140 (nI_nle (by omega) (by omega))) (fun c_140 => ?_)
        refine lv_iload_n hx hb dL_isRoundSo_143 rfl (lv_at hl 1 rfl) ?_
        refine lv_bipush (v := nI 25) hx hb dL_isRoundSo_144 (by first | rfl | decide) ?_
        refine lv_icmp_ge (tgt := 422) hx hb dL_isRoundSo_146 (by decide) (fun c_146 => ?_) (fun c_146 => ?_)
        · refine lv_iload hx hb dL_isRoundSo_422 (lv_at hl 0 rfl) ?_
          subst hQ
          exact m_zret hx hb hr (rfl) hlk hK hM hS dL_isRoundSo_424 (⟨rfl, κ, hXS, S.mono (by omega) (by omega) (by omega)⟩)
        · have ho24 : o + 1 < 25 := nI_lt_of (by omega) (by omega) c_146
          refine lv_aload_n hx hb dL_isRoundSo_149 rfl (lv_at hl 2 rfl) ?_
          refine lv_iload_n hx hb dL_isRoundSo_150 rfl (lv_at hl 3 rfl) ?_
          refine lv_iconst (v := nI 5) hx hb dL_isRoundSo_151 (by first | rfl | decide) ?_
          refine m_callRI (val := κ.1.2.1 i 5) (As := [.int (nI i), .int (nI 5)]) (rest := []) ⟨hx, hb, hml, hown, ht⟩ (q_gaugeOf l g A M X hXS hCI hi (fac_5 _ _)) (cwV 2 ht (gU uw_2017 uw_481 uw_482 uw_34 uw_483) rfl rfl rfl (by decide +kernel) ⟨Nat.le_of_ble_eq_true rfl, Nat.le_of_ble_eq_true rfl⟩) hK hM hS (m_recv hK hM hXS.ob.1 hXS.ob.2 rfl) rfl hl.1 rfl (Nat.le_of_ble_eq_true rfl) dL_isRoundSo_152 ⟨Nat.le_of_ble_eq_true rfl, Nat.le_of_ble_eq_true rfl⟩ (fun H locs hM hS => ?_)
          refine lv_istore (lv' := [(7, .int (κ.1.2.1 i 5)), (5, .int (nI 1)), (3, .int (nI (o + 1))), (0, .ref (X)), (1, .int (nI i)), (2, .int (nI y))]) hx hb dL_isRoundSo_155 hl (by decide) rfl (fun ls hl => ?_)
          rcases Nat.eq_zero_or_pos o with z0 | z0
          · subst z0
            have hUP := fun N => until_pas P hi N (y := y) (o := 0) (by omega) eU (by omega) (by omega) (by omega) (by omega)
            refine lv_iload_n hx hb dL_isRoundSo_157 rfl (lv_at hl 2 rfl) ?_
            refine lv_iconst (v := nI 1) hx hb dL_isRoundSo_158 (by first | rfl | decide) ?_
            refine lv_icmp_ne (tgt := 166) hx hb dL_isRoundSo_159 (by decide) (fun c_159 => absurd (rfl) c_159) (fun c_159 => ?_)
            refine lv_iconst (v := nI 0) hx hb dL_isRoundSo_162 (by first | rfl | decide) ?_
            refine lv_goto (tgt := 174) hx hb dL_isRoundSo_163 (by decide) ?_
            refine lv_istore (lv' := [(8, .int (nI 0)), (7, .int (κ.1.2.1 i 5)), (5, .int (nI 1)), (3, .int (nI (0 + 1))), (0, .ref (X)), (1, .int (nI i)), (2, .int (nI y))]) hx hb dL_isRoundSo_174 hl (by decide) rfl (fun ls hl => ?_)
            refine lv_iconst (v := nI 1) hx hb dL_isRoundSo_176 (by first | rfl | decide) ?_
            refine lv_istore (lv' := [(9, .int (nI 1)), (8, .int (nI 0)), (7, .int (κ.1.2.1 i 5)), (5, .int (nI 1)), (3, .int (nI (0 + 1))), (0, .ref (X)), (1, .int (nI i)), (2, .int (nI y))]) hx hb dL_isRoundSo_177 hl (by decide) rfl (fun ls hl => ?_)
            refine lv_iconst (v := nI 0) hx hb dL_isRoundSo_179 (by first | rfl | decide) ?_
            refine lv_istore (lv' := [(10, .int (nI 0)), (9, .int (nI 1)), (8, .int (nI 0)), (7, .int (κ.1.2.1 i 5)), (5, .int (nI 1)), (3, .int (nI (0 + 1))), (0, .ref (X)), (1, .int (nI i)), (2, .int (nI y))]) hx hb dL_isRoundSo_180 hl (by decide) rfl (fun ls hl => ?_)
            have loop_182 : ∀ (z_182 : Nat) (j : Nat) (b9 : Int32) (H : Heap) (locs : List Loc) (ls : Array Slot), n - j < z_182 → j ≤ n → HD g A M H → va_S A s.heap H locs → lv_has ls 12 [(10, .int (nI j)), (9, .int (b9)), (8, .int (nI 0)), (7, .int (κ.1.2.1 i 5)), (5, .int (nI 1)), (3, .int (nI (0 + 1))), (0, .ref (X)), (1, .int (nI i)), (2, .int (nI y))] → W p l e (rmD 7) s m aa below meth c H locs 0 0 Q (F0 m 182 ls []) := by
              intro z_182
              induction z_182 with
              | zero => intro j b9 H locs ls hz182 hj; exact absurd hz182 (Nat.not_lt_zero _)
              | succ z_182 ih_182 =>
              intro j b9 H locs ls hz182 hj hM  hS hl
              refine lv_iload hx hb dL_isRoundSo_182 (lv_at hl 0 rfl) ?_
              refine lv_aload_n hx hb dL_isRoundSo_184 rfl (lv_at hl 6 rfl) ?_
              refine lv_iconst (v := nI 3) hx hb dL_isRoundSo_185 (by first | rfl | decide) ?_
              refine m_callRI (val := nI n) (As := [.int (nI 3)]) (rest := [.int (nI j)]) ⟨hx, hb, hml, hown, ht⟩ (q_count l g A M X hXS hCI ((cnt_3 _).trans hn)) (cwV 1 ht (gU uw_2012 uw_503 uw_504 uw_34 uw_505) rfl rfl rfl (by decide +kernel) ⟨Nat.le_of_ble_eq_true rfl, Nat.le_of_ble_eq_true rfl⟩) hK hM hS (m_recv hK hM hXS.ob.1 hXS.ob.2 rfl) rfl hl.1 rfl (Nat.le_of_ble_eq_true rfl) dL_isRoundSo_186 ⟨Nat.le_of_ble_eq_true rfl, Nat.le_of_ble_eq_true rfl⟩ (fun H locs hM hS => ?_)
              refine lv_icmp_ge (tgt := 221) hx hb dL_isRoundSo_189 (by decide) (fun c_189 => ?_) (fun c_189 => ?_)
              · refine lv_iload_n hx hb dL_isRoundSo_221 rfl (lv_at hl 5 rfl) ?_
                refine lv_iconst (v := nI 1) hx hb dL_isRoundSo_222 (by first | rfl | decide) ?_
                refine lv_icmp_ne (tgt := 230) hx hb dL_isRoundSo_223 (by decide) (fun c_223 => absurd (rfl) c_223) (fun c_223 => ?_)
                refine lv_iconst (v := nI 0) hx hb dL_isRoundSo_226 (by first | rfl | decide) ?_
                refine lv_goto (tgt := 234) hx hb dL_isRoundSo_227 (by decide) ?_
                refine lv_istore (lv' := [(10, .int (nI 0)), (9, .int (b9)), (8, .int (nI 0)), (7, .int (κ.1.2.1 i 5)), (5, .int (nI 1)), (3, .int (nI (0 + 1))), (0, .ref (X)), (1, .int (nI i)), (2, .int (nI y))]) hx hb dL_isRoundSo_234 hl (by decide) rfl (fun ls hl => ?_)
                refine lv_iconst (v := nI 0) hx hb dL_isRoundSo_236 (by first | rfl | decide) ?_
                refine lv_istore (lv' := [(11, .int (nI 0)), (10, .int (nI 0)), (9, .int (b9)), (8, .int (nI 0)), (7, .int (κ.1.2.1 i 5)), (5, .int (nI 1)), (3, .int (nI (0 + 1))), (0, .ref (X)), (1, .int (nI i)), (2, .int (nI y))]) hx hb dL_isRoundSo_237 hl (by decide) rfl (fun ls hl => ?_)
                have loop_239 : ∀ (z_239 : Nat) (j : Nat) (b9 : Int32) (H : Heap) (locs : List Loc) (ls : Array Slot), n - j < z_239 → j ≤ n → (¬ b9 = 0 → ∀ k, k < j → κ.1.2.2 k 0 ≠ nI i) → HD g A M H → va_S A s.heap H locs → lv_has ls 12 [(11, .int (nI j)), (9, .int (b9)), (8, .int (nI 0)), (7, .int (κ.1.2.1 i 5)), (5, .int (nI 1)), (3, .int (nI (0 + 1))), (0, .ref (X)), (1, .int (nI i)), (2, .int (nI y))] → W p l e (rmD 7) s m aa below meth c H locs 0 0 Q (F0 m 239 ls []) := by
                  intro z_239
                  induction z_239 with
                  | zero => intro j b9 H locs ls hz239 hj hbf; exact absurd hz239 (Nat.not_lt_zero _)
                  | succ z_239 ih_239 =>
                  intro j b9 H locs ls hz239 hj hbf hM  hS hl
                  refine lv_iload hx hb dL_isRoundSo_239 (lv_at hl 0 rfl) ?_
                  refine lv_aload_n hx hb dL_isRoundSo_241 rfl (lv_at hl 6 rfl) ?_
                  refine lv_iconst (v := nI 3) hx hb dL_isRoundSo_242 (by first | rfl | decide) ?_
                  refine m_callRI (val := nI n) (As := [.int (nI 3)]) (rest := [.int (nI j)]) ⟨hx, hb, hml, hown, ht⟩ (q_count l g A M X hXS hCI ((cnt_3 _).trans hn)) (cwV 1 ht (gU uw_2012 uw_503 uw_504 uw_34 uw_505) rfl rfl rfl (by decide +kernel) ⟨Nat.le_of_ble_eq_true rfl, Nat.le_of_ble_eq_true rfl⟩) hK hM hS (m_recv hK hM hXS.ob.1 hXS.ob.2 rfl) rfl hl.1 rfl (Nat.le_of_ble_eq_true rfl) dL_isRoundSo_243 ⟨Nat.le_of_ble_eq_true rfl, Nat.le_of_ble_eq_true rfl⟩ (fun H locs hM hS => ?_)
                  refine lv_icmp_ge (tgt := 278) hx hb dL_isRoundSo_246 (by decide) (fun c_246 => ?_) (fun c_246 => ?_)
                  · have h6 : j = n := Nat.le_antisymm hj (nI_le_of (by have := P.1; omega) (by have := P.1; omega) c_246)
                    rw [h6] at hbf
                    refine lv_iload_n hx hb dL_isRoundSo_278 rfl (lv_at hl 5 rfl) ?_
                    refine lv_iconst (v := nI 1) hx hb dL_isRoundSo_279 (by first | rfl | decide) ?_
                    refine lv_icmp_ne (tgt := 287) hx hb dL_isRoundSo_280 (by decide) (fun c_280 => absurd (rfl) c_280) (fun c_280 => ?_)
                    refine lv_iconst (v := nI 0) hx hb dL_isRoundSo_283 (by first | rfl | decide) ?_
                    refine lv_goto (tgt := 295) hx hb dL_isRoundSo_284 (by decide) ?_
                    refine lv_istore (lv' := [(8, .int (nI 0)), (11, .int (nI j)), (9, .int (b9)), (7, .int (κ.1.2.1 i 5)), (5, .int (nI 1)), (3, .int (nI (0 + 1))), (0, .ref (X)), (1, .int (nI i)), (2, .int (nI y))]) hx hb dL_isRoundSo_295 hl (by decide) rfl (fun ls hl => ?_)
                    refine lv_iload hx hb dL_isRoundSo_297 (lv_at hl 4 rfl) ?_
                    refine lv_if_eq (tgt := 321) hx hb dL_isRoundSo_299 (by decide) (fun c_299 => absurd c_299 (by decide)) (fun c_299 => ?_)
                    refine lv_iload hx hb dL_isRoundSo_302 (lv_at hl 2 rfl) ?_
                    refine lv_if_eq (tgt := 317) hx hb dL_isRoundSo_304 (by decide) (fun c_304 => ?_) (fun c_304 => ?_)
                    · refine lv_iconst (v := nI 1) hx hb dL_isRoundSo_317 (by first | rfl | decide) ?_
                      refine lv_goto (tgt := 322) hx hb dL_isRoundSo_318 (by decide) ?_
                      refine lv_istore (lv' := [(5, .int (nI 1)), (8, .int (nI 0)), (11, .int (nI j)), (9, .int (b9)), (7, .int (κ.1.2.1 i 5)), (3, .int (nI (0 + 1))), (0, .ref (X)), (1, .int (nI i)), (2, .int (nI y))]) hx hb dL_isRoundSo_322 hl (by decide) rfl (fun ls hl => ?_)
                      refine lv_aload_n hx hb dL_isRoundSo_324 rfl (lv_at hl 6 rfl) ?_
                      refine lv_iload_n hx hb dL_isRoundSo_325 rfl (lv_at hl 8 rfl) ?_
                      refine lv_iconst (v := nI 1) hx hb dL_isRoundSo_326 (by first | rfl | decide) ?_
                      refine m_callI (As := [.int (nI y), .int (nI 1)]) (rest := []) ⟨hx, hb, hml, hown, ht⟩ (q_rain l g A M X hXS hCI (y := y) (q := 1) (by omega) (by omega) (by omega) hh2 (by omega)) (cwV 2 ht (gU uw_2011 uw_348 uw_349 uw_34 uw_350) rfl rfl rfl (by decide +kernel) ⟨Nat.le_of_ble_eq_true rfl, Nat.le_of_ble_eq_true rfl⟩) hK hM hS (m_recv hK hM hXS.ob.1 hXS.ob.2 rfl) rfl hl.1 rfl (Nat.le_of_ble_eq_true rfl) dL_isRoundSo_327 ⟨Nat.le_of_ble_eq_true rfl, Nat.le_of_ble_eq_true rfl⟩ (fun r5 M H locs hp hM hS => ?_)
                      obtain ⟨e5, hX9⟩ := hp
                      have hXS := hX9.at
                      obtain ⟨c5, ec5⟩ : ∃ c5, c5 = recX κ (pasC (nI y) κ.1 1) := ⟨_, rfl⟩
                      have Z5 := S.rain P hhH hg (y := y) (q := 1) (by omega) (by omega) (by omega) (by omega) (by omega)
                      have top5 : zTop c5 κ.1 n := by rw [ec5]; exact rec_top P.onN _
                      have e5b : c5.1 = pasC (nI y) κ.1 (0 + 1) := by rw [ec5]; rfl
                      rw [← ec5] at hXS Z5
                      have S5 := Z5.1
                      have hCI5 := S5.1
                      refine lv_istore (lv' := [(10, .int (r5)), (5, .int (nI 1)), (8, .int (nI 0)), (11, .int (nI j)), (9, .int (b9)), (7, .int (κ.1.2.1 i 5)), (3, .int (nI (0 + 1))), (0, .ref (X)), (1, .int (nI i)), (2, .int (nI y))]) hx hb dL_isRoundSo_330 hl (by decide) rfl (fun ls hl => ?_)
                      refine lv_iload hx hb dL_isRoundSo_332 (lv_at hl 1 rfl) ?_
                      refine lv_if_eq (tgt := 360) hx hb dL_isRoundSo_334 (by decide) (fun c_334 => absurd c_334 (by decide)) (fun c_334 => ?_)
                      refine lv_iload hx hb dL_isRoundSo_337 (lv_at hl 4 rfl) ?_
                      refine lv_if_eq (tgt := 351) hx hb dL_isRoundSo_339 (by decide) (fun c_339 => ?_) (fun c_339 => absurd (c_304) c_339)
                      refine lv_iload hx hb dL_isRoundSo_351 (lv_at hl 2 rfl) ?_
                      refine lv_if_lt (tgt := 360) hx hb dL_isRoundSo_353 (by decide) (fun c_353 => absurd c_353 (by decide)) (fun c_353 => ?_)
                      refine lv_iconst (v := nI 1) hx hb dL_isRoundSo_356 (by first | rfl | decide) ?_
                      refine lv_goto (tgt := 361) hx hb dL_isRoundSo_357 (by decide) ?_
                      refine lv_istore (lv' := [(5, .int (nI 1)), (10, .int (r5)), (8, .int (nI 0)), (11, .int (nI j)), (9, .int (b9)), (7, .int (κ.1.2.1 i 5)), (3, .int (nI (0 + 1))), (0, .ref (X)), (1, .int (nI i)), (2, .int (nI y))]) hx hb dL_isRoundSo_361 hl (by decide) rfl (fun ls hl => ?_)
                      refine lv_aload_n hx hb dL_isRoundSo_363 rfl (lv_at hl 7 rfl) ?_
                      refine m_callI (As := []) (rest := []) ⟨hx, hb, hml, hown, ht⟩ (q_undo l g A M X hXS hCI5) (cwV 0 ht (gU uw_706 uw_572 uw_573 uw_34 uw_574) rfl rfl rfl (by decide +kernel) ⟨Nat.le_of_ble_eq_true rfl, Nat.le_of_ble_eq_true rfl⟩) hK hM hS (m_recv hK hM hXS.ob.1 hXS.ob.2 rfl) rfl hl.1 rfl (Nat.le_of_ble_eq_true rfl) dL_isRoundSo_364 ⟨Nat.le_of_ble_eq_true rfl, Nat.le_of_ble_eq_true rfl⟩ (fun r4 M H locs hp hM hS => ?_)
                      obtain ⟨e4, hX9⟩ := hp
                      have hXS := hX9.at
                      obtain ⟨E7, -, -, -⟩ := undo_top top5
                      obtain ⟨c7, ec7⟩ : ∃ c7, c7 = (oUndo c5).2 := ⟨_, rfl⟩
                      rw [← ec7] at hXS E7
                      have S7 : zSI B (Hm + 1) (T + 20 * 1) c7 := by rw [ec7]; exact S5.undo
                      have hCI7 := S7.1
                      refine lv_istore (lv' := [(10, .int (r4)), (5, .int (nI 1)), (8, .int (nI 0)), (11, .int (nI j)), (9, .int (b9)), (7, .int (κ.1.2.1 i 5)), (3, .int (nI (0 + 1))), (0, .ref (X)), (1, .int (nI i)), (2, .int (nI y))]) hx hb dL_isRoundSo_367 hl (by decide) rfl (fun ls hl => ?_)
                      refine lv_iload_n hx hb dL_isRoundSo_369 rfl (lv_at hl 6 rfl) ?_
                      refine lv_iconst (v := nI 1) hx hb dL_isRoundSo_370 (by first | rfl | decide) ?_
                      refine lv_icmp_ne (tgt := 378) hx hb dL_isRoundSo_371 (by decide) (fun c_371 => absurd (rfl) c_371) (fun c_371 => ?_)
                      refine lv_iconst (v := nI 0) hx hb dL_isRoundSo_374 (by first | rfl | decide) ?_
                      refine lv_goto (tgt := 382) hx hb dL_isRoundSo_375 (by decide) ?_
                      refine lv_istore (lv' := [(10, .int (nI 0)), (5, .int (nI 1)), (8, .int (nI 0)), (11, .int (nI j)), (9, .int (b9)), (7, .int (κ.1.2.1 i 5)), (3, .int (nI (0 + 1))), (0, .ref (X)), (1, .int (nI i)), (2, .int (nI y))]) hx hb dL_isRoundSo_382 hl (by decide) rfl (fun ls hl => ?_)
                      refine lv_iload hx hb dL_isRoundSo_384 (lv_at hl 1 rfl) ?_
                      refine lv_if_eq (tgt := 419) hx hb dL_isRoundSo_386 (by decide) (fun c_386 => absurd c_386 (by decide)) (fun c_386 => ?_)
                      refine lv_iload hx hb dL_isRoundSo_389 (lv_at hl 0 rfl) ?_
                      refine lv_if_lt (tgt := 419) hx hb dL_isRoundSo_391 (by decide) (fun c_391 => absurd c_391 (by decide)) (fun c_391 => ?_)
                      refine lv_aload_n hx hb dL_isRoundSo_394 rfl (lv_at hl 7 rfl) ?_
                      refine lv_iload_n hx hb dL_isRoundSo_395 rfl (lv_at hl 8 rfl) ?_
                      refine lv_iconst (v := nI 5) hx hb dL_isRoundSo_396 (by first | rfl | decide) ?_
                      refine m_callRI (val := c7.1.2.1 i 5) (As := [.int (nI i), .int (nI 5)]) (rest := []) ⟨hx, hb, hml, hown, ht⟩ (q_gaugeOf l g A M X hXS hCI7 hi (fac_5 _ _)) (cwV 2 ht (gU uw_2017 uw_481 uw_482 uw_34 uw_483) rfl rfl rfl (by decide +kernel) ⟨Nat.le_of_ble_eq_true rfl, Nat.le_of_ble_eq_true rfl⟩) hK hM hS (m_recv hK hM hXS.ob.1 hXS.ob.2 rfl) rfl hl.1 rfl (Nat.le_of_ble_eq_true rfl) dL_isRoundSo_397 ⟨Nat.le_of_ble_eq_true rfl, Nat.le_of_ble_eq_true rfl⟩ (fun H locs hM hS => ?_)
                      refine lv_iload hx hb dL_isRoundSo_400 (lv_at hl 5 rfl) ?_
                      refine lv_icmp_ne (tgt := 419) hx hb dL_isRoundSo_402 (by decide) (fun c_402 => absurd (E7.2.1 i hi 5 (by omega)) c_402) (fun c_402 => ?_)
                      refine lv_aload_n hx hb dL_isRoundSo_405 rfl (lv_at hl 7 rfl) ?_
                      refine lv_iload_n hx hb dL_isRoundSo_406 rfl (lv_at hl 8 rfl) ?_
                      refine lv_iload_n hx hb dL_isRoundSo_407 rfl (lv_at hl 9 rfl) ?_
                      refine m_callI (As := [.int (nI i), .int (nI y)]) (rest := []) ⟨hx, hb, hml, hown, ht⟩ (q_until l g A M X hXS hCI7 (nI i) (nI y)) (cwV 2 ht (gU uw_2029 uw_521 uw_522 uw_34 uw_523) rfl rfl rfl (by decide +kernel) ⟨Nat.le_of_ble_eq_true rfl, Nat.le_of_ble_eq_true rfl⟩) hK hM hS (m_recv hK hM hXS.ob.1 hXS.ob.2 rfl) rfl hl.1 rfl (Nat.le_of_ble_eq_true rfl) dL_isRoundSo_408 ⟨Nat.le_of_ble_eq_true rfl, Nat.le_of_ble_eq_true rfl⟩ (fun r_408 M H locs hp hM hS => ?_)
                      obtain ⟨⟨t_408, e_408⟩, hX9⟩ := hp
                      have hXS := hX9.at
                      have e_408 : r_408 = unR (c7.1.1 0) (nI y) 501 0 (c7.1.2.1 i) := e_408.trans (until_eq hi (by omega))
                      refine lv_iload_n hx hb dL_isRoundSo_411 rfl (lv_at hl 6 rfl) ?_
                      refine lv_icmp_ne (tgt := 419) hx hb dL_isRoundSo_412 (by decide) (fun c_412 => absurd (by rw [e_408, E7.1 0 (by omega), RowE.un _ _ _ _ _ _ (E7.2.1 i hi)]; exact eU) c_412) (fun c_412 => ?_)
                      refine lv_iconst (v := nI 1) hx hb dL_isRoundSo_415 (by first | rfl | decide) ?_
                      refine lv_goto (tgt := 420) hx hb dL_isRoundSo_416 (by decide) ?_
                      refine lv_istore (lv' := [(5, .int (nI 1)), (10, .int (nI 0)), (8, .int (nI 0)), (11, .int (nI j)), (9, .int (b9)), (7, .int (κ.1.2.1 i 5)), (3, .int (nI (0 + 1))), (0, .ref (X)), (1, .int (nI i)), (2, .int (nI y))]) hx hb dL_isRoundSo_420 hl (by decide) rfl (fun ls hl => ?_)
                      refine lv_iload hx hb dL_isRoundSo_422 (lv_at hl 0 rfl) ?_
                      subst hQ
                      exact m_zret hx hb hr (rfl) hlk hK hM hS dL_isRoundSo_424 (⟨rfl, c7, hXS, S7.mono (by omega) (by omega) (by omega)⟩)
                    · refine lv_aload_n hx hb dL_isRoundSo_307 rfl (lv_at hl 6 rfl) ?_
                      refine lv_iload_n hx hb dL_isRoundSo_308 rfl (lv_at hl 7 rfl) ?_
                      refine lv_iload_n hx hb dL_isRoundSo_309 rfl (lv_at hl 8 rfl) ?_
                      refine m_callI (As := [.int (nI i), .int (nI y)]) (rest := []) ⟨hx, hb, hml, hown, ht⟩ (q_until l g A M X hXS hCI (nI i) (nI y)) (cwV 2 ht (gU uw_2029 uw_521 uw_522 uw_34 uw_523) rfl rfl rfl (by decide +kernel) ⟨Nat.le_of_ble_eq_true rfl, Nat.le_of_ble_eq_true rfl⟩) hK hM hS (m_recv hK hM hXS.ob.1 hXS.ob.2 rfl) rfl hl.1 rfl (Nat.le_of_ble_eq_true rfl) dL_isRoundSo_310 ⟨Nat.le_of_ble_eq_true rfl, Nat.le_of_ble_eq_true rfl⟩ (fun r_310 M H locs hp hM hS => ?_)
                      obtain ⟨⟨t_310, e_310⟩, hX9⟩ := hp
                      have hXS := hX9.at
                      have e_310 : r_310 = unR (κ.1.1 0) (nI y) 501 0 (κ.1.2.1 i) := e_310.trans (until_eq hi (by omega))
                      refine lv_iconst (v := nI 1) hx hb dL_isRoundSo_313 (by first | rfl | decide) ?_
                      refine lv_icmp_ne (tgt := 321) hx hb dL_isRoundSo_314 (by decide) (fun c_314 => absurd (e_310.trans (hUP (hbf c_304)).1) c_314) (fun c_314 => ?_)
                      refine lv_iconst (v := nI 1) hx hb dL_isRoundSo_317 (by first | rfl | decide) ?_
                      refine lv_goto (tgt := 322) hx hb dL_isRoundSo_318 (by decide) ?_
                      refine lv_istore (lv' := [(5, .int (nI 1)), (8, .int (nI 0)), (11, .int (nI j)), (9, .int (b9)), (7, .int (κ.1.2.1 i 5)), (3, .int (nI (0 + 1))), (0, .ref (X)), (1, .int (nI i)), (2, .int (nI y))]) hx hb dL_isRoundSo_322 hl (by decide) rfl (fun ls hl => ?_)
                      refine lv_aload_n hx hb dL_isRoundSo_324 rfl (lv_at hl 6 rfl) ?_
                      refine lv_iload_n hx hb dL_isRoundSo_325 rfl (lv_at hl 8 rfl) ?_
                      refine lv_iconst (v := nI 1) hx hb dL_isRoundSo_326 (by first | rfl | decide) ?_
                      refine m_callI (As := [.int (nI y), .int (nI 1)]) (rest := []) ⟨hx, hb, hml, hown, ht⟩ (q_rain l g A M X hXS hCI (y := y) (q := 1) (by omega) (by omega) (by omega) hh2 (by omega)) (cwV 2 ht (gU uw_2011 uw_348 uw_349 uw_34 uw_350) rfl rfl rfl (by decide +kernel) ⟨Nat.le_of_ble_eq_true rfl, Nat.le_of_ble_eq_true rfl⟩) hK hM hS (m_recv hK hM hXS.ob.1 hXS.ob.2 rfl) rfl hl.1 rfl (Nat.le_of_ble_eq_true rfl) dL_isRoundSo_327 ⟨Nat.le_of_ble_eq_true rfl, Nat.le_of_ble_eq_true rfl⟩ (fun r5 M H locs hp hM hS => ?_)
                      obtain ⟨e5, hX9⟩ := hp
                      have hXS := hX9.at
                      obtain ⟨c5, ec5⟩ : ∃ c5, c5 = recX κ (pasC (nI y) κ.1 1) := ⟨_, rfl⟩
                      have Z5 := S.rain P hhH hg (y := y) (q := 1) (by omega) (by omega) (by omega) (by omega) (by omega)
                      have top5 : zTop c5 κ.1 n := by rw [ec5]; exact rec_top P.onN _
                      have e5b : c5.1 = pasC (nI y) κ.1 (0 + 1) := by rw [ec5]; rfl
                      rw [← ec5] at hXS Z5
                      have S5 := Z5.1
                      have hCI5 := S5.1
                      refine lv_istore (lv' := [(10, .int (r5)), (5, .int (nI 1)), (8, .int (nI 0)), (11, .int (nI j)), (9, .int (b9)), (7, .int (κ.1.2.1 i 5)), (3, .int (nI (0 + 1))), (0, .ref (X)), (1, .int (nI i)), (2, .int (nI y))]) hx hb dL_isRoundSo_330 hl (by decide) rfl (fun ls hl => ?_)
                      refine lv_iload hx hb dL_isRoundSo_332 (lv_at hl 1 rfl) ?_
                      refine lv_if_eq (tgt := 360) hx hb dL_isRoundSo_334 (by decide) (fun c_334 => absurd c_334 (by decide)) (fun c_334 => ?_)
                      refine lv_iload hx hb dL_isRoundSo_337 (lv_at hl 4 rfl) ?_
                      refine lv_if_eq (tgt := 351) hx hb dL_isRoundSo_339 (by decide) (fun c_339 => absurd c_339 (c_304)) (fun c_339 => ?_)
                      refine lv_aload_n hx hb dL_isRoundSo_342 rfl (lv_at hl 7 rfl) ?_
                      refine lv_iload_n hx hb dL_isRoundSo_343 rfl (lv_at hl 8 rfl) ?_
                      refine lv_iload_n hx hb dL_isRoundSo_344 rfl (lv_at hl 9 rfl) ?_
                      refine m_callI (As := [.int (nI i), .int (nI y)]) (rest := []) ⟨hx, hb, hml, hown, ht⟩ (q_until l g A M X hXS hCI5 (nI i) (nI y)) (cwV 2 ht (gU uw_2029 uw_521 uw_522 uw_34 uw_523) rfl rfl rfl (by decide +kernel) ⟨Nat.le_of_ble_eq_true rfl, Nat.le_of_ble_eq_true rfl⟩) hK hM hS (m_recv hK hM hXS.ob.1 hXS.ob.2 rfl) rfl hl.1 rfl (Nat.le_of_ble_eq_true rfl) dL_isRoundSo_345 ⟨Nat.le_of_ble_eq_true rfl, Nat.le_of_ble_eq_true rfl⟩ (fun r_345 M H locs hp hM hS => ?_)
                      obtain ⟨⟨t_345, e_345⟩, hX9⟩ := hp
                      have hXS := hX9.at
                      have e_345 : r_345 = unR (c5.1.1 0) (nI y) 501 0 (c5.1.2.1 i) := e_345.trans (until_eq hi (by omega))
                      refine lv_if_ne (tgt := 360) hx hb dL_isRoundSo_348 (by decide) (fun c_348 => absurd (by rw [e_345, e5b]; exact (hUP (hbf c_304)).2) c_348) (fun c_348 => ?_)
                      refine lv_iload hx hb dL_isRoundSo_351 (lv_at hl 2 rfl) ?_
                      refine lv_if_lt (tgt := 360) hx hb dL_isRoundSo_353 (by decide) (fun c_353 => absurd c_353 (by decide)) (fun c_353 => ?_)
                      refine lv_iconst (v := nI 1) hx hb dL_isRoundSo_356 (by first | rfl | decide) ?_
                      refine lv_goto (tgt := 361) hx hb dL_isRoundSo_357 (by decide) ?_
                      refine lv_istore (lv' := [(5, .int (nI 1)), (10, .int (r5)), (8, .int (nI 0)), (11, .int (nI j)), (9, .int (b9)), (7, .int (κ.1.2.1 i 5)), (3, .int (nI (0 + 1))), (0, .ref (X)), (1, .int (nI i)), (2, .int (nI y))]) hx hb dL_isRoundSo_361 hl (by decide) rfl (fun ls hl => ?_)
                      refine lv_aload_n hx hb dL_isRoundSo_363 rfl (lv_at hl 7 rfl) ?_
                      refine m_callI (As := []) (rest := []) ⟨hx, hb, hml, hown, ht⟩ (q_undo l g A M X hXS hCI5) (cwV 0 ht (gU uw_706 uw_572 uw_573 uw_34 uw_574) rfl rfl rfl (by decide +kernel) ⟨Nat.le_of_ble_eq_true rfl, Nat.le_of_ble_eq_true rfl⟩) hK hM hS (m_recv hK hM hXS.ob.1 hXS.ob.2 rfl) rfl hl.1 rfl (Nat.le_of_ble_eq_true rfl) dL_isRoundSo_364 ⟨Nat.le_of_ble_eq_true rfl, Nat.le_of_ble_eq_true rfl⟩ (fun r4 M H locs hp hM hS => ?_)
                      obtain ⟨e4, hX9⟩ := hp
                      have hXS := hX9.at
                      obtain ⟨E7, -, -, -⟩ := undo_top top5
                      obtain ⟨c7, ec7⟩ : ∃ c7, c7 = (oUndo c5).2 := ⟨_, rfl⟩
                      rw [← ec7] at hXS E7
                      have S7 : zSI B (Hm + 1) (T + 20 * 1) c7 := by rw [ec7]; exact S5.undo
                      have hCI7 := S7.1
                      refine lv_istore (lv' := [(10, .int (r4)), (5, .int (nI 1)), (8, .int (nI 0)), (11, .int (nI j)), (9, .int (b9)), (7, .int (κ.1.2.1 i 5)), (3, .int (nI (0 + 1))), (0, .ref (X)), (1, .int (nI i)), (2, .int (nI y))]) hx hb dL_isRoundSo_367 hl (by decide) rfl (fun ls hl => ?_)
                      refine lv_iload_n hx hb dL_isRoundSo_369 rfl (lv_at hl 6 rfl) ?_
                      refine lv_iconst (v := nI 1) hx hb dL_isRoundSo_370 (by first | rfl | decide) ?_
                      refine lv_icmp_ne (tgt := 378) hx hb dL_isRoundSo_371 (by decide) (fun c_371 => absurd (rfl) c_371) (fun c_371 => ?_)
                      refine lv_iconst (v := nI 0) hx hb dL_isRoundSo_374 (by first | rfl | decide) ?_
                      refine lv_goto (tgt := 382) hx hb dL_isRoundSo_375 (by decide) ?_
                      refine lv_istore (lv' := [(10, .int (nI 0)), (5, .int (nI 1)), (8, .int (nI 0)), (11, .int (nI j)), (9, .int (b9)), (7, .int (κ.1.2.1 i 5)), (3, .int (nI (0 + 1))), (0, .ref (X)), (1, .int (nI i)), (2, .int (nI y))]) hx hb dL_isRoundSo_382 hl (by decide) rfl (fun ls hl => ?_)
                      refine lv_iload hx hb dL_isRoundSo_384 (lv_at hl 1 rfl) ?_
                      refine lv_if_eq (tgt := 419) hx hb dL_isRoundSo_386 (by decide) (fun c_386 => absurd c_386 (by decide)) (fun c_386 => ?_)
                      refine lv_iload hx hb dL_isRoundSo_389 (lv_at hl 0 rfl) ?_
                      refine lv_if_lt (tgt := 419) hx hb dL_isRoundSo_391 (by decide) (fun c_391 => absurd c_391 (by decide)) (fun c_391 => ?_)
                      refine lv_aload_n hx hb dL_isRoundSo_394 rfl (lv_at hl 7 rfl) ?_
                      refine lv_iload_n hx hb dL_isRoundSo_395 rfl (lv_at hl 8 rfl) ?_
                      refine lv_iconst (v := nI 5) hx hb dL_isRoundSo_396 (by first | rfl | decide) ?_
                      refine m_callRI (val := c7.1.2.1 i 5) (As := [.int (nI i), .int (nI 5)]) (rest := []) ⟨hx, hb, hml, hown, ht⟩ (q_gaugeOf l g A M X hXS hCI7 hi (fac_5 _ _)) (cwV 2 ht (gU uw_2017 uw_481 uw_482 uw_34 uw_483) rfl rfl rfl (by decide +kernel) ⟨Nat.le_of_ble_eq_true rfl, Nat.le_of_ble_eq_true rfl⟩) hK hM hS (m_recv hK hM hXS.ob.1 hXS.ob.2 rfl) rfl hl.1 rfl (Nat.le_of_ble_eq_true rfl) dL_isRoundSo_397 ⟨Nat.le_of_ble_eq_true rfl, Nat.le_of_ble_eq_true rfl⟩ (fun H locs hM hS => ?_)
                      refine lv_iload hx hb dL_isRoundSo_400 (lv_at hl 5 rfl) ?_
                      refine lv_icmp_ne (tgt := 419) hx hb dL_isRoundSo_402 (by decide) (fun c_402 => absurd (E7.2.1 i hi 5 (by omega)) c_402) (fun c_402 => ?_)
                      refine lv_aload_n hx hb dL_isRoundSo_405 rfl (lv_at hl 7 rfl) ?_
                      refine lv_iload_n hx hb dL_isRoundSo_406 rfl (lv_at hl 8 rfl) ?_
                      refine lv_iload_n hx hb dL_isRoundSo_407 rfl (lv_at hl 9 rfl) ?_
                      refine m_callI (As := [.int (nI i), .int (nI y)]) (rest := []) ⟨hx, hb, hml, hown, ht⟩ (q_until l g A M X hXS hCI7 (nI i) (nI y)) (cwV 2 ht (gU uw_2029 uw_521 uw_522 uw_34 uw_523) rfl rfl rfl (by decide +kernel) ⟨Nat.le_of_ble_eq_true rfl, Nat.le_of_ble_eq_true rfl⟩) hK hM hS (m_recv hK hM hXS.ob.1 hXS.ob.2 rfl) rfl hl.1 rfl (Nat.le_of_ble_eq_true rfl) dL_isRoundSo_408 ⟨Nat.le_of_ble_eq_true rfl, Nat.le_of_ble_eq_true rfl⟩ (fun r_408 M H locs hp hM hS => ?_)
                      obtain ⟨⟨t_408, e_408⟩, hX9⟩ := hp
                      have hXS := hX9.at
                      have e_408 : r_408 = unR (c7.1.1 0) (nI y) 501 0 (c7.1.2.1 i) := e_408.trans (until_eq hi (by omega))
                      refine lv_iload_n hx hb dL_isRoundSo_411 rfl (lv_at hl 6 rfl) ?_
                      refine lv_icmp_ne (tgt := 419) hx hb dL_isRoundSo_412 (by decide) (fun c_412 => absurd (by rw [e_408, E7.1 0 (by omega), RowE.un _ _ _ _ _ _ (E7.2.1 i hi)]; exact eU) c_412) (fun c_412 => ?_)
                      refine lv_iconst (v := nI 1) hx hb dL_isRoundSo_415 (by first | rfl | decide) ?_
                      refine lv_goto (tgt := 420) hx hb dL_isRoundSo_416 (by decide) ?_
                      refine lv_istore (lv' := [(5, .int (nI 1)), (10, .int (nI 0)), (8, .int (nI 0)), (11, .int (nI j)), (9, .int (b9)), (7, .int (κ.1.2.1 i 5)), (3, .int (nI (0 + 1))), (0, .ref (X)), (1, .int (nI i)), (2, .int (nI y))]) hx hb dL_isRoundSo_420 hl (by decide) rfl (fun ls hl => ?_)
                      refine lv_iload hx hb dL_isRoundSo_422 (lv_at hl 0 rfl) ?_
                      subst hQ
                      exact m_zret hx hb hr (rfl) hlk hK hM hS dL_isRoundSo_424 (⟨rfl, c7, hXS, S7.mono (by omega) (by omega) (by omega)⟩)
                  · have hjn : j < n := nI_lt_of (by have := P.1; omega) (by have := P.1; omega) c_246
                    refine lv_iload hx hb dL_isRoundSo_249 (lv_at hl 1 rfl) ?_
                    refine lv_if_eq (tgt := 269) hx hb dL_isRoundSo_251 (by decide) (fun c_251 => ?_) (fun c_251 => ?_)
                    · refine lv_iconst (v := nI 0) hx hb dL_isRoundSo_269 (by first | rfl | decide) ?_
                      refine lv_istore (lv' := [(9, .int (nI 0)), (11, .int (nI j)), (8, .int (nI 0)), (7, .int (κ.1.2.1 i 5)), (5, .int (nI 1)), (3, .int (nI (0 + 1))), (0, .ref (X)), (1, .int (nI i)), (2, .int (nI y))]) hx hb dL_isRoundSo_270 hl (by decide) rfl (fun ls hl => ?_)
                      refine lv_iinc (v := nI (j + 1)) (lv' := [(11, .int (nI (j + 1))), (9, .int (nI 0)), (8, .int (nI 0)), (7, .int (κ.1.2.1 i 5)), (5, .int (nI 1)), (3, .int (nI (0 + 1))), (0, .ref (X)), (1, .int (nI i)), (2, .int (nI y))]) hx hb dL_isRoundSo_272 hl (k := 1) rfl (nI_1 _) (by decide) rfl (fun ls hl => ?_)
                      refine lv_goto (tgt := 239) hx hb dL_isRoundSo_275 (by decide) ?_
                      exact ih_239 (j + 1) (nI 0) _ _ _ (by omega) (by omega) (fun z => absurd rfl z) hM hS (lv_sub hl [0, 1, 2, 3, 4, 5, 6, 7, 8] rfl)
                    · refine lv_aload_n hx hb dL_isRoundSo_254 rfl (lv_at hl 6 rfl) ?_
                      refine lv_iload hx hb dL_isRoundSo_255 (lv_at hl 0 rfl) ?_
                      refine lv_iconst (v := nI 0) hx hb dL_isRoundSo_257 (by first | rfl | decide) ?_
                      refine m_callRI (val := κ.1.2.2 j 0) (As := [.int (nI j), .int (nI 0)]) (rest := []) ⟨hx, hb, hml, hown, ht⟩ (q_runner l g A M X hXS hCI hn P.1 hjn (rnr_0 _ _)) (cwV 2 ht (gU uw_489 uw_499 uw_500 uw_34 uw_501) rfl rfl rfl (by decide +kernel) ⟨Nat.le_of_ble_eq_true rfl, Nat.le_of_ble_eq_true rfl⟩) hK hM hS (m_recv hK hM hXS.ob.1 hXS.ob.2 rfl) rfl hl.1 rfl (Nat.le_of_ble_eq_true rfl) dL_isRoundSo_258 ⟨Nat.le_of_ble_eq_true rfl, Nat.le_of_ble_eq_true rfl⟩ (fun H locs hM hS => ?_)
                      refine lv_iload_n hx hb dL_isRoundSo_261 rfl (lv_at hl 7 rfl) ?_
                      refine lv_icmp_eq (tgt := 269) hx hb dL_isRoundSo_262 (by decide) (fun c_262 => ?_) (fun c_262 => ?_)
                      · refine lv_iconst (v := nI 0) hx hb dL_isRoundSo_269 (by first | rfl | decide) ?_
                        refine lv_istore (lv' := [(9, .int (nI 0)), (11, .int (nI j)), (8, .int (nI 0)), (7, .int (κ.1.2.1 i 5)), (5, .int (nI 1)), (3, .int (nI (0 + 1))), (0, .ref (X)), (1, .int (nI i)), (2, .int (nI y))]) hx hb dL_isRoundSo_270 hl (by decide) rfl (fun ls hl => ?_)
                        refine lv_iinc (v := nI (j + 1)) (lv' := [(11, .int (nI (j + 1))), (9, .int (nI 0)), (8, .int (nI 0)), (7, .int (κ.1.2.1 i 5)), (5, .int (nI 1)), (3, .int (nI (0 + 1))), (0, .ref (X)), (1, .int (nI i)), (2, .int (nI y))]) hx hb dL_isRoundSo_272 hl (k := 1) rfl (nI_1 _) (by decide) rfl (fun ls hl => ?_)
                        refine lv_goto (tgt := 239) hx hb dL_isRoundSo_275 (by decide) ?_
                        exact ih_239 (j + 1) (nI 0) _ _ _ (by omega) (by omega) (fun z => absurd rfl z) hM hS (lv_sub hl [0, 1, 2, 3, 4, 5, 6, 7, 8] rfl)
                      · refine lv_iconst (v := nI 1) hx hb dL_isRoundSo_265 (by first | rfl | decide) ?_
                        refine lv_goto (tgt := 270) hx hb dL_isRoundSo_266 (by decide) ?_
                        refine lv_istore (lv' := [(9, .int (nI 1)), (11, .int (nI j)), (8, .int (nI 0)), (7, .int (κ.1.2.1 i 5)), (5, .int (nI 1)), (3, .int (nI (0 + 1))), (0, .ref (X)), (1, .int (nI i)), (2, .int (nI y))]) hx hb dL_isRoundSo_270 hl (by decide) rfl (fun ls hl => ?_)
                        refine lv_iinc (v := nI (j + 1)) (lv' := [(11, .int (nI (j + 1))), (9, .int (nI 1)), (8, .int (nI 0)), (7, .int (κ.1.2.1 i 5)), (5, .int (nI 1)), (3, .int (nI (0 + 1))), (0, .ref (X)), (1, .int (nI i)), (2, .int (nI y))]) hx hb dL_isRoundSo_272 hl (k := 1) rfl (nI_1 _) (by decide) rfl (fun ls hl => ?_)
                        refine lv_goto (tgt := 239) hx hb dL_isRoundSo_275 (by decide) ?_
                        exact ih_239 (j + 1) (nI 1) _ _ _ (by omega) (by omega) (fun _ => nog_step (hbf c_251) c_262) hM hS (lv_sub hl [0, 1, 2, 3, 4, 5, 6, 7, 8] rfl)
                exact loop_239 _ 0 b9 _ _ _ (Nat.lt_succ_self _) (by omega) (fun _ k hk => absurd hk (Nat.not_lt_zero k)) hM hS (lv_sub hl [0, 2, 3, 4, 5, 6, 7, 8, 9] rfl)
              · have hjn : j < n := nI_lt_of (by have := P.1; omega) (by have := P.1; omega) c_189
                refine lv_iload hx hb dL_isRoundSo_192 (lv_at hl 1 rfl) ?_
                refine lv_if_eq (tgt := 212) hx hb dL_isRoundSo_194 (by decide) (fun c_194 => ?_) (fun c_194 => ?_)
                · refine lv_iconst (v := nI 0) hx hb dL_isRoundSo_212 (by first | rfl | decide) ?_
                  refine lv_istore (lv' := [(9, .int (nI 0)), (10, .int (nI j)), (8, .int (nI 0)), (7, .int (κ.1.2.1 i 5)), (5, .int (nI 1)), (3, .int (nI (0 + 1))), (0, .ref (X)), (1, .int (nI i)), (2, .int (nI y))]) hx hb dL_isRoundSo_213 hl (by decide) rfl (fun ls hl => ?_)
                  refine lv_iinc (v := nI (j + 1)) (lv' := [(10, .int (nI (j + 1))), (9, .int (nI 0)), (8, .int (nI 0)), (7, .int (κ.1.2.1 i 5)), (5, .int (nI 1)), (3, .int (nI (0 + 1))), (0, .ref (X)), (1, .int (nI i)), (2, .int (nI y))]) hx hb dL_isRoundSo_215 hl (k := 1) rfl (nI_1 _) (by decide) rfl (fun ls hl => ?_)
                  refine lv_goto (tgt := 182) hx hb dL_isRoundSo_218 (by decide) ?_
                  exact ih_182 (j + 1) (nI 0) _ _ _ (by omega) (by omega) hM hS (lv_sub hl [0, 1, 2, 3, 4, 5, 6, 7, 8] rfl)
                · refine lv_aload_n hx hb dL_isRoundSo_197 rfl (lv_at hl 6 rfl) ?_
                  refine lv_iload hx hb dL_isRoundSo_198 (lv_at hl 0 rfl) ?_
                  refine lv_iconst (v := nI 0) hx hb dL_isRoundSo_200 (by first | rfl | decide) ?_
                  refine m_callRI (val := κ.1.2.2 j 0) (As := [.int (nI j), .int (nI 0)]) (rest := []) ⟨hx, hb, hml, hown, ht⟩ (q_runner l g A M X hXS hCI hn P.1 hjn (rnr_0 _ _)) (cwV 2 ht (gU uw_489 uw_499 uw_500 uw_34 uw_501) rfl rfl rfl (by decide +kernel) ⟨Nat.le_of_ble_eq_true rfl, Nat.le_of_ble_eq_true rfl⟩) hK hM hS (m_recv hK hM hXS.ob.1 hXS.ob.2 rfl) rfl hl.1 rfl (Nat.le_of_ble_eq_true rfl) dL_isRoundSo_201 ⟨Nat.le_of_ble_eq_true rfl, Nat.le_of_ble_eq_true rfl⟩ (fun H locs hM hS => ?_)
                  refine lv_iload_n hx hb dL_isRoundSo_204 rfl (lv_at hl 7 rfl) ?_
                  refine lv_icmp_eq (tgt := 212) hx hb dL_isRoundSo_205 (by decide) (fun c_205 => ?_) (fun c_205 => ?_)
                  · refine lv_iconst (v := nI 0) hx hb dL_isRoundSo_212 (by first | rfl | decide) ?_
                    refine lv_istore (lv' := [(9, .int (nI 0)), (10, .int (nI j)), (8, .int (nI 0)), (7, .int (κ.1.2.1 i 5)), (5, .int (nI 1)), (3, .int (nI (0 + 1))), (0, .ref (X)), (1, .int (nI i)), (2, .int (nI y))]) hx hb dL_isRoundSo_213 hl (by decide) rfl (fun ls hl => ?_)
                    refine lv_iinc (v := nI (j + 1)) (lv' := [(10, .int (nI (j + 1))), (9, .int (nI 0)), (8, .int (nI 0)), (7, .int (κ.1.2.1 i 5)), (5, .int (nI 1)), (3, .int (nI (0 + 1))), (0, .ref (X)), (1, .int (nI i)), (2, .int (nI y))]) hx hb dL_isRoundSo_215 hl (k := 1) rfl (nI_1 _) (by decide) rfl (fun ls hl => ?_)
                    refine lv_goto (tgt := 182) hx hb dL_isRoundSo_218 (by decide) ?_
                    exact ih_182 (j + 1) (nI 0) _ _ _ (by omega) (by omega) hM hS (lv_sub hl [0, 1, 2, 3, 4, 5, 6, 7, 8] rfl)
                  · refine lv_iconst (v := nI 1) hx hb dL_isRoundSo_208 (by first | rfl | decide) ?_
                    refine lv_goto (tgt := 213) hx hb dL_isRoundSo_209 (by decide) ?_
                    refine lv_istore (lv' := [(9, .int (nI 1)), (10, .int (nI j)), (8, .int (nI 0)), (7, .int (κ.1.2.1 i 5)), (5, .int (nI 1)), (3, .int (nI (0 + 1))), (0, .ref (X)), (1, .int (nI i)), (2, .int (nI y))]) hx hb dL_isRoundSo_213 hl (by decide) rfl (fun ls hl => ?_)
                    refine lv_iinc (v := nI (j + 1)) (lv' := [(10, .int (nI (j + 1))), (9, .int (nI 1)), (8, .int (nI 0)), (7, .int (κ.1.2.1 i 5)), (5, .int (nI 1)), (3, .int (nI (0 + 1))), (0, .ref (X)), (1, .int (nI i)), (2, .int (nI y))]) hx hb dL_isRoundSo_215 hl (k := 1) rfl (nI_1 _) (by decide) rfl (fun ls hl => ?_)
                    refine lv_goto (tgt := 182) hx hb dL_isRoundSo_218 (by decide) ?_
                    exact ih_182 (j + 1) (nI 1) _ _ _ (by omega) (by omega) hM hS (lv_sub hl [0, 1, 2, 3, 4, 5, 6, 7, 8] rfl)
            exact loop_182 _ 0 (nI 1) _ _ _ (Nat.lt_succ_self _) (by omega) hM hS (lv_sub hl [0, 1, 2, 3, 4, 5, 6, 7, 8] rfl)
          · refine lv_iload_n hx hb dL_isRoundSo_157 rfl (lv_at hl 2 rfl) ?_
            refine lv_iconst (v := nI 1) hx hb dL_isRoundSo_158 (by first | rfl | decide) ?_
            refine lv_icmp_ne (tgt := 166) hx hb dL_isRoundSo_159 (by decide) (fun c_159 => ?_) (fun c_159 => absurd c_159 (fun z => absurd (nI_ij (b := 1) (by omega) (by omega) z) (by omega)))
            refine lv_aload_n hx hb dL_isRoundSo_166 rfl (lv_at hl 3 rfl) ?_
            refine lv_iload_n hx hb dL_isRoundSo_167 rfl (lv_at hl 5 rfl) ?_
            refine lv_iload_n hx hb dL_isRoundSo_168 rfl (lv_at hl 2 rfl) ?_
            refine lv_iconst (v := nI 1) hx hb dL_isRoundSo_169 (by first | rfl | decide) ?_
            refine lv_isub hx hb dL_isRoundSo_170 ?_
            rw [show nI (o + 1) - nI 1 = nI o from pk_sub (by omega)]
            refine m_callI (As := [.int (nI y), .int (nI o)]) (rest := []) ⟨hx, hb, hml, hown, ht⟩ (q_rain l g A M X hXS hCI (y := y) (q := o) (by omega) z0 (by omega) hh2 (by omega)) (cwV 2 ht (gU uw_2011 uw_348 uw_349 uw_34 uw_350) rfl rfl rfl (by decide +kernel) ⟨Nat.le_of_ble_eq_true rfl, Nat.le_of_ble_eq_true rfl⟩) hK hM hS (m_recv hK hM hXS.ob.1 hXS.ob.2 rfl) rfl hl.1 rfl (Nat.le_of_ble_eq_true rfl) dL_isRoundSo_171 ⟨Nat.le_of_ble_eq_true rfl, Nat.le_of_ble_eq_true rfl⟩ (fun r8 M H locs hp hM hS => ?_)
            obtain ⟨e8, hX9⟩ := hp
            have hXS := hX9.at
            obtain ⟨c2, ec2⟩ : ∃ c2, c2 = recX κ (pasC (nI y) κ.1 o) := ⟨_, rfl⟩
            have Z := S.rain P hhH hg (y := y) (q := o) (by omega) (by omega) (by omega) (by omega) (by omega)
            have top2 : zTop c2 κ.1 n := by rw [ec2]; exact rec_top P.onN _
            obtain ⟨n2, P2⟩ := Z.2.1
            have hn2 : c2.1.1 3 = nI n2 := by rw [ec2]; exact P2.2.1
            rw [← ec2] at hXS Z
            have S2 := Z.1
            have hCI2 := S2.1
            refine lv_istore (lv' := [(8, .int (r8)), (7, .int (κ.1.2.1 i 5)), (5, .int (nI 1)), (3, .int (nI (o + 1))), (0, .ref (X)), (1, .int (nI i)), (2, .int (nI y))]) hx hb dL_isRoundSo_174 hl (by decide) rfl (fun ls hl => ?_)
            refine lv_iconst (v := nI 1) hx hb dL_isRoundSo_176 (by first | rfl | decide) ?_
            refine lv_istore (lv' := [(9, .int (nI 1)), (8, .int (r8)), (7, .int (κ.1.2.1 i 5)), (5, .int (nI 1)), (3, .int (nI (o + 1))), (0, .ref (X)), (1, .int (nI i)), (2, .int (nI y))]) hx hb dL_isRoundSo_177 hl (by decide) rfl (fun ls hl => ?_)
            refine lv_iconst (v := nI 0) hx hb dL_isRoundSo_179 (by first | rfl | decide) ?_
            refine lv_istore (lv' := [(10, .int (nI 0)), (9, .int (nI 1)), (8, .int (r8)), (7, .int (κ.1.2.1 i 5)), (5, .int (nI 1)), (3, .int (nI (o + 1))), (0, .ref (X)), (1, .int (nI i)), (2, .int (nI y))]) hx hb dL_isRoundSo_180 hl (by decide) rfl (fun ls hl => ?_)
            have loop_182 : ∀ (z_182 : Nat) (j : Nat) (b9 : Int32) (H : Heap) (locs : List Loc) (ls : Array Slot), n2 - j < z_182 → j ≤ n2 → HD g A M H → va_S A s.heap H locs → lv_has ls 12 [(10, .int (nI j)), (9, .int (b9)), (8, .int (r8)), (7, .int (κ.1.2.1 i 5)), (5, .int (nI 1)), (3, .int (nI (o + 1))), (0, .ref (X)), (1, .int (nI i)), (2, .int (nI y))] → W p l e (rmD 7) s m aa below meth c H locs 0 0 Q (F0 m 182 ls []) := by
              intro z_182
              induction z_182 with
              | zero => intro j b9 H locs ls hz182 hj; exact absurd hz182 (Nat.not_lt_zero _)
              | succ z_182 ih_182 =>
              intro j b9 H locs ls hz182 hj hM  hS hl
              refine lv_iload hx hb dL_isRoundSo_182 (lv_at hl 0 rfl) ?_
              refine lv_aload_n hx hb dL_isRoundSo_184 rfl (lv_at hl 6 rfl) ?_
              refine lv_iconst (v := nI 3) hx hb dL_isRoundSo_185 (by first | rfl | decide) ?_
              refine m_callRI (val := nI n2) (As := [.int (nI 3)]) (rest := [.int (nI j)]) ⟨hx, hb, hml, hown, ht⟩ (q_count l g A M X hXS hCI2 ((cnt_3 _).trans hn2)) (cwV 1 ht (gU uw_2012 uw_503 uw_504 uw_34 uw_505) rfl rfl rfl (by decide +kernel) ⟨Nat.le_of_ble_eq_true rfl, Nat.le_of_ble_eq_true rfl⟩) hK hM hS (m_recv hK hM hXS.ob.1 hXS.ob.2 rfl) rfl hl.1 rfl (Nat.le_of_ble_eq_true rfl) dL_isRoundSo_186 ⟨Nat.le_of_ble_eq_true rfl, Nat.le_of_ble_eq_true rfl⟩ (fun H locs hM hS => ?_)
              refine lv_icmp_ge (tgt := 221) hx hb dL_isRoundSo_189 (by decide) (fun c_189 => ?_) (fun c_189 => ?_)
              · refine lv_iload_n hx hb dL_isRoundSo_221 rfl (lv_at hl 5 rfl) ?_
                refine lv_iconst (v := nI 1) hx hb dL_isRoundSo_222 (by first | rfl | decide) ?_
                refine lv_icmp_ne (tgt := 230) hx hb dL_isRoundSo_223 (by decide) (fun c_223 => ?_) (fun c_223 => absurd c_223 (fun z => absurd (nI_ij (b := 1) (by omega) (by omega) z) (by omega)))
                refine lv_aload_n hx hb dL_isRoundSo_230 rfl (lv_at hl 6 rfl) ?_
                refine m_callI (As := []) (rest := []) ⟨hx, hb, hml, hown, ht⟩ (q_undo l g A M X hXS hCI2) (cwV 0 ht (gU uw_706 uw_572 uw_573 uw_34 uw_574) rfl rfl rfl (by decide +kernel) ⟨Nat.le_of_ble_eq_true rfl, Nat.le_of_ble_eq_true rfl⟩) hK hM hS (m_recv hK hM hXS.ob.1 hXS.ob.2 rfl) rfl hl.1 rfl (Nat.le_of_ble_eq_true rfl) dL_isRoundSo_231 ⟨Nat.le_of_ble_eq_true rfl, Nat.le_of_ble_eq_true rfl⟩ (fun r7 M H locs hp hM hS => ?_)
                obtain ⟨e7, hX9⟩ := hp
                have hXS := hX9.at
                obtain ⟨E3, -, -, -⟩ := undo_top top2
                obtain ⟨c3, ec3⟩ : ∃ c3, c3 = (oUndo c2).2 := ⟨_, rfl⟩
                rw [← ec3] at hXS E3
                have S3 : zSI B (Hm + o) (T + 20 * o) c3 := by rw [ec3]; exact S2.undo
                have hCI3 := S3.1
                have P3 : zPI B (T + 20 * o) c3.1 n h := (P.cg E3).mono (Nat.le_refl B) (by omega)
                have hn3 := P3.2.1
                have hg3 : 0 ≤ (c3.1.1 1).toInt := by rw [E3.1 1 (by omega)]; exact hg
                have eU3 : unR (c3.1.1 0) (nI y) 501 0 (c3.1.2.1 i) = nI (o + 1) := by rw [E3.1 0 (by omega), RowE.un _ _ _ _ _ _ (E3.2.1 i hi)]; exact eU
                have hUP := fun N => until_pas P3 hi N (y := y) (o := o) (by omega) eU3 (by omega) (by omega) (by omega) (by omega)
                refine lv_istore (lv' := [(10, .int (r7)), (9, .int (b9)), (8, .int (r8)), (7, .int (κ.1.2.1 i 5)), (5, .int (nI 1)), (3, .int (nI (o + 1))), (0, .ref (X)), (1, .int (nI i)), (2, .int (nI y))]) hx hb dL_isRoundSo_234 hl (by decide) rfl (fun ls hl => ?_)
                refine lv_iconst (v := nI 0) hx hb dL_isRoundSo_236 (by first | rfl | decide) ?_
                refine lv_istore (lv' := [(11, .int (nI 0)), (10, .int (r7)), (9, .int (b9)), (8, .int (r8)), (7, .int (κ.1.2.1 i 5)), (5, .int (nI 1)), (3, .int (nI (o + 1))), (0, .ref (X)), (1, .int (nI i)), (2, .int (nI y))]) hx hb dL_isRoundSo_237 hl (by decide) rfl (fun ls hl => ?_)
                have loop_239 : ∀ (z_239 : Nat) (j : Nat) (b9 : Int32) (H : Heap) (locs : List Loc) (ls : Array Slot), n - j < z_239 → j ≤ n → (¬ b9 = 0 → ∀ k, k < j → c3.1.2.2 k 0 ≠ nI i) → HD g A M H → va_S A s.heap H locs → lv_has ls 12 [(11, .int (nI j)), (9, .int (b9)), (8, .int (r8)), (7, .int (κ.1.2.1 i 5)), (5, .int (nI 1)), (3, .int (nI (o + 1))), (0, .ref (X)), (1, .int (nI i)), (2, .int (nI y))] → W p l e (rmD 7) s m aa below meth c H locs 0 0 Q (F0 m 239 ls []) := by
                  intro z_239
                  induction z_239 with
                  | zero => intro j b9 H locs ls hz239 hj hbf; exact absurd hz239 (Nat.not_lt_zero _)
                  | succ z_239 ih_239 =>
                  intro j b9 H locs ls hz239 hj hbf hM  hS hl
                  refine lv_iload hx hb dL_isRoundSo_239 (lv_at hl 0 rfl) ?_
                  refine lv_aload_n hx hb dL_isRoundSo_241 rfl (lv_at hl 6 rfl) ?_
                  refine lv_iconst (v := nI 3) hx hb dL_isRoundSo_242 (by first | rfl | decide) ?_
                  refine m_callRI (val := nI n) (As := [.int (nI 3)]) (rest := [.int (nI j)]) ⟨hx, hb, hml, hown, ht⟩ (q_count l g A M X hXS hCI3 ((cnt_3 _).trans hn3)) (cwV 1 ht (gU uw_2012 uw_503 uw_504 uw_34 uw_505) rfl rfl rfl (by decide +kernel) ⟨Nat.le_of_ble_eq_true rfl, Nat.le_of_ble_eq_true rfl⟩) hK hM hS (m_recv hK hM hXS.ob.1 hXS.ob.2 rfl) rfl hl.1 rfl (Nat.le_of_ble_eq_true rfl) dL_isRoundSo_243 ⟨Nat.le_of_ble_eq_true rfl, Nat.le_of_ble_eq_true rfl⟩ (fun H locs hM hS => ?_)
                  refine lv_icmp_ge (tgt := 278) hx hb dL_isRoundSo_246 (by decide) (fun c_246 => ?_) (fun c_246 => ?_)
                  · have h6 : j = n := Nat.le_antisymm hj (nI_le_of (by have := P.1; omega) (by have := P.1; omega) c_246)
                    rw [h6] at hbf
                    refine lv_iload_n hx hb dL_isRoundSo_278 rfl (lv_at hl 5 rfl) ?_
                    refine lv_iconst (v := nI 1) hx hb dL_isRoundSo_279 (by first | rfl | decide) ?_
                    refine lv_icmp_ne (tgt := 287) hx hb dL_isRoundSo_280 (by decide) (fun c_280 => ?_) (fun c_280 => absurd c_280 (fun z => absurd (nI_ij (b := 1) (by omega) (by omega) z) (by omega)))
                    refine lv_aload_n hx hb dL_isRoundSo_287 rfl (lv_at hl 6 rfl) ?_
                    refine lv_iload_n hx hb dL_isRoundSo_288 rfl (lv_at hl 8 rfl) ?_
                    refine lv_iload_n hx hb dL_isRoundSo_289 rfl (lv_at hl 5 rfl) ?_
                    refine lv_iconst (v := nI 1) hx hb dL_isRoundSo_290 (by first | rfl | decide) ?_
                    refine lv_isub hx hb dL_isRoundSo_291 ?_
                    rw [show nI (o + 1) - nI 1 = nI o from pk_sub (by omega)]
                    refine m_callI (As := [.int (nI y), .int (nI o)]) (rest := []) ⟨hx, hb, hml, hown, ht⟩ (q_rain l g A M X hXS hCI3 (y := y) (q := o) (by omega) z0 (by omega) P3.2.2.2.1 (by omega)) (cwV 2 ht (gU uw_2011 uw_348 uw_349 uw_34 uw_350) rfl rfl rfl (by decide +kernel) ⟨Nat.le_of_ble_eq_true rfl, Nat.le_of_ble_eq_true rfl⟩) hK hM hS (m_recv hK hM hXS.ob.1 hXS.ob.2 rfl) rfl hl.1 rfl (Nat.le_of_ble_eq_true rfl) dL_isRoundSo_292 ⟨Nat.le_of_ble_eq_true rfl, Nat.le_of_ble_eq_true rfl⟩ (fun r6 M H locs hp hM hS => ?_)
                    obtain ⟨e6, hX9⟩ := hp
                    have hXS := hX9.at
                    obtain ⟨c4, ec4⟩ : ∃ c4, c4 = recX c3 (pasC (nI y) c3.1 o) := ⟨_, rfl⟩
                    have Z4 := S3.rain P3 (by omega) hg3 (y := y) (q := o) (by omega) (by omega) (by omega) (by omega) (by omega)
                    have top4 : zTop c4 c3.1 n := by rw [ec4]; exact rec_top P3.onN _
                    have e4 : c4.1 = pasC (nI y) c3.1 o := by rw [ec4]; rfl
                    obtain ⟨n4, P4⟩ := Z4.2.1
                    rw [← e4] at P4
                    rw [← ec4] at hXS Z4
                    have S4 := Z4.1
                    have hCI4 := S4.1
                    have hg4 : 0 ≤ (c4.1.1 1).toInt := by rw [e4, pas_W _ _ (by omega) (by omega)]; exact hg3
                    refine lv_istore (lv' := [(8, .int (r6)), (11, .int (nI j)), (9, .int (b9)), (7, .int (κ.1.2.1 i 5)), (5, .int (nI 1)), (3, .int (nI (o + 1))), (0, .ref (X)), (1, .int (nI i)), (2, .int (nI y))]) hx hb dL_isRoundSo_295 hl (by decide) rfl (fun ls hl => ?_)
                    refine lv_iload hx hb dL_isRoundSo_297 (lv_at hl 4 rfl) ?_
                    refine lv_if_eq (tgt := 321) hx hb dL_isRoundSo_299 (by decide) (fun c_299 => absurd c_299 (by decide)) (fun c_299 => ?_)
                    refine lv_iload hx hb dL_isRoundSo_302 (lv_at hl 2 rfl) ?_
                    refine lv_if_eq (tgt := 317) hx hb dL_isRoundSo_304 (by decide) (fun c_304 => ?_) (fun c_304 => ?_)
                    · refine lv_iconst (v := nI 1) hx hb dL_isRoundSo_317 (by first | rfl | decide) ?_
                      refine lv_goto (tgt := 322) hx hb dL_isRoundSo_318 (by decide) ?_
                      refine lv_istore (lv' := [(5, .int (nI 1)), (8, .int (r6)), (11, .int (nI j)), (9, .int (b9)), (7, .int (κ.1.2.1 i 5)), (3, .int (nI (o + 1))), (0, .ref (X)), (1, .int (nI i)), (2, .int (nI y))]) hx hb dL_isRoundSo_322 hl (by decide) rfl (fun ls hl => ?_)
                      refine lv_aload_n hx hb dL_isRoundSo_324 rfl (lv_at hl 6 rfl) ?_
                      refine lv_iload_n hx hb dL_isRoundSo_325 rfl (lv_at hl 8 rfl) ?_
                      refine lv_iconst (v := nI 1) hx hb dL_isRoundSo_326 (by first | rfl | decide) ?_
                      refine m_callI (As := [.int (nI y), .int (nI 1)]) (rest := []) ⟨hx, hb, hml, hown, ht⟩ (q_rain l g A M X hXS hCI4 (y := y) (q := 1) (by omega) (by omega) (by omega) P4.2.2.2.1 (by omega)) (cwV 2 ht (gU uw_2011 uw_348 uw_349 uw_34 uw_350) rfl rfl rfl (by decide +kernel) ⟨Nat.le_of_ble_eq_true rfl, Nat.le_of_ble_eq_true rfl⟩) hK hM hS (m_recv hK hM hXS.ob.1 hXS.ob.2 rfl) rfl hl.1 rfl (Nat.le_of_ble_eq_true rfl) dL_isRoundSo_327 ⟨Nat.le_of_ble_eq_true rfl, Nat.le_of_ble_eq_true rfl⟩ (fun r5 M H locs hp hM hS => ?_)
                      obtain ⟨e5, hX9⟩ := hp
                      have hXS := hX9.at
                      obtain ⟨c5, ec5⟩ : ∃ c5, c5 = recX c4 (pasC (nI y) c4.1 1) := ⟨_, rfl⟩
                      have Z5 := S4.rain P4 (by omega) hg4 (y := y) (q := 1) (by omega) (by omega) (by omega) (by omega) (by omega)
                      have top5 : zTop2 c5 c3.1 n := by rw [ec5]; exact rec_top2 top4 _
                      have e5b : c5.1 = pasC (nI y) c3.1 (o + 1) := by rw [ec5]; show pasC (nI y) c4.1 1 = _; rw [e4]; rfl
                      rw [← ec5] at hXS Z5
                      have S5 := Z5.1
                      have hCI5 := S5.1
                      refine lv_istore (lv' := [(10, .int (r5)), (5, .int (nI 1)), (8, .int (r6)), (11, .int (nI j)), (9, .int (b9)), (7, .int (κ.1.2.1 i 5)), (3, .int (nI (o + 1))), (0, .ref (X)), (1, .int (nI i)), (2, .int (nI y))]) hx hb dL_isRoundSo_330 hl (by decide) rfl (fun ls hl => ?_)
                      refine lv_iload hx hb dL_isRoundSo_332 (lv_at hl 1 rfl) ?_
                      refine lv_if_eq (tgt := 360) hx hb dL_isRoundSo_334 (by decide) (fun c_334 => absurd c_334 (by decide)) (fun c_334 => ?_)
                      refine lv_iload hx hb dL_isRoundSo_337 (lv_at hl 4 rfl) ?_
                      refine lv_if_eq (tgt := 351) hx hb dL_isRoundSo_339 (by decide) (fun c_339 => ?_) (fun c_339 => absurd (c_304) c_339)
                      refine lv_iload hx hb dL_isRoundSo_351 (lv_at hl 2 rfl) ?_
                      refine lv_if_lt (tgt := 360) hx hb dL_isRoundSo_353 (by decide) (fun c_353 => absurd c_353 (by rw [e6]; exact Z4.2.2)) (fun c_353 => ?_)
                      refine lv_iconst (v := nI 1) hx hb dL_isRoundSo_356 (by first | rfl | decide) ?_
                      refine lv_goto (tgt := 361) hx hb dL_isRoundSo_357 (by decide) ?_
                      refine lv_istore (lv' := [(5, .int (nI 1)), (10, .int (r5)), (8, .int (r6)), (11, .int (nI j)), (9, .int (b9)), (7, .int (κ.1.2.1 i 5)), (3, .int (nI (o + 1))), (0, .ref (X)), (1, .int (nI i)), (2, .int (nI y))]) hx hb dL_isRoundSo_361 hl (by decide) rfl (fun ls hl => ?_)
                      refine lv_aload_n hx hb dL_isRoundSo_363 rfl (lv_at hl 7 rfl) ?_
                      refine m_callI (As := []) (rest := []) ⟨hx, hb, hml, hown, ht⟩ (q_undo l g A M X hXS hCI5) (cwV 0 ht (gU uw_706 uw_572 uw_573 uw_34 uw_574) rfl rfl rfl (by decide +kernel) ⟨Nat.le_of_ble_eq_true rfl, Nat.le_of_ble_eq_true rfl⟩) hK hM hS (m_recv hK hM hXS.ob.1 hXS.ob.2 rfl) rfl hl.1 rfl (Nat.le_of_ble_eq_true rfl) dL_isRoundSo_364 ⟨Nat.le_of_ble_eq_true rfl, Nat.le_of_ble_eq_true rfl⟩ (fun r4 M H locs hp hM hS => ?_)
                      obtain ⟨e4b, hX9⟩ := hp
                      have hXS := hX9.at
                      obtain ⟨c6, ec6⟩ : ∃ c6, c6 = (oUndo c5).2 := ⟨_, rfl⟩
                      have top6 : zTop c6 c3.1 n := by rw [ec6]; exact undo_top2 top5
                      rw [← ec6] at hXS
                      have S6 : zSI B (Hm + o + o + 1) (T + 20 * o + 20 * o + 20 * 1) c6 := by rw [ec6]; exact S5.undo
                      have hCI6 := S6.1
                      refine lv_istore (lv' := [(10, .int (r4)), (5, .int (nI 1)), (8, .int (r6)), (11, .int (nI j)), (9, .int (b9)), (7, .int (κ.1.2.1 i 5)), (3, .int (nI (o + 1))), (0, .ref (X)), (1, .int (nI i)), (2, .int (nI y))]) hx hb dL_isRoundSo_367 hl (by decide) rfl (fun ls hl => ?_)
                      refine lv_iload_n hx hb dL_isRoundSo_369 rfl (lv_at hl 6 rfl) ?_
                      refine lv_iconst (v := nI 1) hx hb dL_isRoundSo_370 (by first | rfl | decide) ?_
                      refine lv_icmp_ne (tgt := 378) hx hb dL_isRoundSo_371 (by decide) (fun c_371 => ?_) (fun c_371 => absurd c_371 (fun z => absurd (nI_ij (b := 1) (by omega) (by omega) z) (by omega)))
                      refine lv_aload_n hx hb dL_isRoundSo_378 rfl (lv_at hl 7 rfl) ?_
                      refine m_callI (As := []) (rest := []) ⟨hx, hb, hml, hown, ht⟩ (q_undo l g A M X hXS hCI6) (cwV 0 ht (gU uw_706 uw_572 uw_573 uw_34 uw_574) rfl rfl rfl (by decide +kernel) ⟨Nat.le_of_ble_eq_true rfl, Nat.le_of_ble_eq_true rfl⟩) hK hM hS (m_recv hK hM hXS.ob.1 hXS.ob.2 rfl) rfl hl.1 rfl (Nat.le_of_ble_eq_true rfl) dL_isRoundSo_379 ⟨Nat.le_of_ble_eq_true rfl, Nat.le_of_ble_eq_true rfl⟩ (fun r2 M H locs hp hM hS => ?_)
                      obtain ⟨e2, hX9⟩ := hp
                      have hXS := hX9.at
                      obtain ⟨E6, q7, eq7, ek7⟩ := undo_top top6
                      have e2 := e2.trans eq7
                      subst e2
                      have hq7 : q7 ≤ 6 := by have := hCI6.2.1; omega
                      obtain ⟨c7, ec7⟩ : ∃ c7, c7 = (oUndo c6).2 := ⟨_, rfl⟩
                      rw [← ec7] at hXS E6
                      have E7 := E6.tr E3
                      have S7 : zSI B (Hm + o + o + 1) (T + 20 * o + 20 * o + 20 * 1) c7 := by rw [ec7]; exact S6.undo
                      have hCI7 := S7.1
                      refine lv_istore (lv' := [(10, .int (nI q7)), (5, .int (nI 1)), (8, .int (r6)), (11, .int (nI j)), (9, .int (b9)), (7, .int (κ.1.2.1 i 5)), (3, .int (nI (o + 1))), (0, .ref (X)), (1, .int (nI i)), (2, .int (nI y))]) hx hb dL_isRoundSo_382 hl (by decide) rfl (fun ls hl => ?_)
                      refine lv_iload hx hb dL_isRoundSo_384 (lv_at hl 1 rfl) ?_
                      refine lv_if_eq (tgt := 419) hx hb dL_isRoundSo_386 (by decide) (fun c_386 => absurd c_386 (by decide)) (fun c_386 => ?_)
                      refine lv_iload hx hb dL_isRoundSo_389 (lv_at hl 0 rfl) ?_
                      refine lv_if_lt (tgt := 419) hx hb dL_isRoundSo_391 (by decide) (fun c_391 => absurd c_391 (nIge0 (by omega))) (fun c_391 => ?_)
                      refine lv_aload_n hx hb dL_isRoundSo_394 rfl (lv_at hl 7 rfl) ?_
                      refine lv_iload_n hx hb dL_isRoundSo_395 rfl (lv_at hl 8 rfl) ?_
                      refine lv_iconst (v := nI 5) hx hb dL_isRoundSo_396 (by first | rfl | decide) ?_
                      refine m_callRI (val := c7.1.2.1 i 5) (As := [.int (nI i), .int (nI 5)]) (rest := []) ⟨hx, hb, hml, hown, ht⟩ (q_gaugeOf l g A M X hXS hCI7 hi (fac_5 _ _)) (cwV 2 ht (gU uw_2017 uw_481 uw_482 uw_34 uw_483) rfl rfl rfl (by decide +kernel) ⟨Nat.le_of_ble_eq_true rfl, Nat.le_of_ble_eq_true rfl⟩) hK hM hS (m_recv hK hM hXS.ob.1 hXS.ob.2 rfl) rfl hl.1 rfl (Nat.le_of_ble_eq_true rfl) dL_isRoundSo_397 ⟨Nat.le_of_ble_eq_true rfl, Nat.le_of_ble_eq_true rfl⟩ (fun H locs hM hS => ?_)
                      refine lv_iload hx hb dL_isRoundSo_400 (lv_at hl 5 rfl) ?_
                      refine lv_icmp_ne (tgt := 419) hx hb dL_isRoundSo_402 (by decide) (fun c_402 => absurd (E7.2.1 i hi 5 (by omega)) c_402) (fun c_402 => ?_)
                      refine lv_aload_n hx hb dL_isRoundSo_405 rfl (lv_at hl 7 rfl) ?_
                      refine lv_iload_n hx hb dL_isRoundSo_406 rfl (lv_at hl 8 rfl) ?_
                      refine lv_iload_n hx hb dL_isRoundSo_407 rfl (lv_at hl 9 rfl) ?_
                      refine m_callI (As := [.int (nI i), .int (nI y)]) (rest := []) ⟨hx, hb, hml, hown, ht⟩ (q_until l g A M X hXS hCI7 (nI i) (nI y)) (cwV 2 ht (gU uw_2029 uw_521 uw_522 uw_34 uw_523) rfl rfl rfl (by decide +kernel) ⟨Nat.le_of_ble_eq_true rfl, Nat.le_of_ble_eq_true rfl⟩) hK hM hS (m_recv hK hM hXS.ob.1 hXS.ob.2 rfl) rfl hl.1 rfl (Nat.le_of_ble_eq_true rfl) dL_isRoundSo_408 ⟨Nat.le_of_ble_eq_true rfl, Nat.le_of_ble_eq_true rfl⟩ (fun r_408 M H locs hp hM hS => ?_)
                      obtain ⟨⟨t_408, e_408⟩, hX9⟩ := hp
                      have hXS := hX9.at
                      have e_408 : r_408 = unR (c7.1.1 0) (nI y) 501 0 (c7.1.2.1 i) := e_408.trans (until_eq hi (by omega))
                      refine lv_iload_n hx hb dL_isRoundSo_411 rfl (lv_at hl 6 rfl) ?_
                      refine lv_icmp_ne (tgt := 419) hx hb dL_isRoundSo_412 (by decide) (fun c_412 => absurd (by rw [e_408, E7.1 0 (by omega), RowE.un _ _ _ _ _ _ (E7.2.1 i hi)]; exact eU) c_412) (fun c_412 => ?_)
                      refine lv_iconst (v := nI 1) hx hb dL_isRoundSo_415 (by first | rfl | decide) ?_
                      refine lv_goto (tgt := 420) hx hb dL_isRoundSo_416 (by decide) ?_
                      refine lv_istore (lv' := [(5, .int (nI 1)), (10, .int (nI q7)), (8, .int (r6)), (11, .int (nI j)), (9, .int (b9)), (7, .int (κ.1.2.1 i 5)), (3, .int (nI (o + 1))), (0, .ref (X)), (1, .int (nI i)), (2, .int (nI y))]) hx hb dL_isRoundSo_420 hl (by decide) rfl (fun ls hl => ?_)
                      refine lv_iload hx hb dL_isRoundSo_422 (lv_at hl 0 rfl) ?_
                      subst hQ
                      exact m_zret hx hb hr (rfl) hlk hK hM hS dL_isRoundSo_424 (⟨rfl, c7, hXS, S7.mono (by omega) (by omega) (by omega)⟩)
                    · refine lv_aload_n hx hb dL_isRoundSo_307 rfl (lv_at hl 6 rfl) ?_
                      refine lv_iload_n hx hb dL_isRoundSo_308 rfl (lv_at hl 7 rfl) ?_
                      refine lv_iload_n hx hb dL_isRoundSo_309 rfl (lv_at hl 8 rfl) ?_
                      refine m_callI (As := [.int (nI i), .int (nI y)]) (rest := []) ⟨hx, hb, hml, hown, ht⟩ (q_until l g A M X hXS hCI4 (nI i) (nI y)) (cwV 2 ht (gU uw_2029 uw_521 uw_522 uw_34 uw_523) rfl rfl rfl (by decide +kernel) ⟨Nat.le_of_ble_eq_true rfl, Nat.le_of_ble_eq_true rfl⟩) hK hM hS (m_recv hK hM hXS.ob.1 hXS.ob.2 rfl) rfl hl.1 rfl (Nat.le_of_ble_eq_true rfl) dL_isRoundSo_310 ⟨Nat.le_of_ble_eq_true rfl, Nat.le_of_ble_eq_true rfl⟩ (fun r_310 M H locs hp hM hS => ?_)
                      obtain ⟨⟨t_310, e_310⟩, hX9⟩ := hp
                      have hXS := hX9.at
                      have e_310 : r_310 = unR (c4.1.1 0) (nI y) 501 0 (c4.1.2.1 i) := e_310.trans (until_eq hi (by omega))
                      refine lv_iconst (v := nI 1) hx hb dL_isRoundSo_313 (by first | rfl | decide) ?_
                      refine lv_icmp_ne (tgt := 321) hx hb dL_isRoundSo_314 (by decide) (fun c_314 => absurd (by rw [e_310, e4]; exact (hUP (hbf c_304)).1) c_314) (fun c_314 => ?_)
                      refine lv_iconst (v := nI 1) hx hb dL_isRoundSo_317 (by first | rfl | decide) ?_
                      refine lv_goto (tgt := 322) hx hb dL_isRoundSo_318 (by decide) ?_
                      refine lv_istore (lv' := [(5, .int (nI 1)), (8, .int (r6)), (11, .int (nI j)), (9, .int (b9)), (7, .int (κ.1.2.1 i 5)), (3, .int (nI (o + 1))), (0, .ref (X)), (1, .int (nI i)), (2, .int (nI y))]) hx hb dL_isRoundSo_322 hl (by decide) rfl (fun ls hl => ?_)
                      refine lv_aload_n hx hb dL_isRoundSo_324 rfl (lv_at hl 6 rfl) ?_
                      refine lv_iload_n hx hb dL_isRoundSo_325 rfl (lv_at hl 8 rfl) ?_
                      refine lv_iconst (v := nI 1) hx hb dL_isRoundSo_326 (by first | rfl | decide) ?_
                      refine m_callI (As := [.int (nI y), .int (nI 1)]) (rest := []) ⟨hx, hb, hml, hown, ht⟩ (q_rain l g A M X hXS hCI4 (y := y) (q := 1) (by omega) (by omega) (by omega) P4.2.2.2.1 (by omega)) (cwV 2 ht (gU uw_2011 uw_348 uw_349 uw_34 uw_350) rfl rfl rfl (by decide +kernel) ⟨Nat.le_of_ble_eq_true rfl, Nat.le_of_ble_eq_true rfl⟩) hK hM hS (m_recv hK hM hXS.ob.1 hXS.ob.2 rfl) rfl hl.1 rfl (Nat.le_of_ble_eq_true rfl) dL_isRoundSo_327 ⟨Nat.le_of_ble_eq_true rfl, Nat.le_of_ble_eq_true rfl⟩ (fun r5 M H locs hp hM hS => ?_)
                      obtain ⟨e5, hX9⟩ := hp
                      have hXS := hX9.at
                      obtain ⟨c5, ec5⟩ : ∃ c5, c5 = recX c4 (pasC (nI y) c4.1 1) := ⟨_, rfl⟩
                      have Z5 := S4.rain P4 (by omega) hg4 (y := y) (q := 1) (by omega) (by omega) (by omega) (by omega) (by omega)
                      have top5 : zTop2 c5 c3.1 n := by rw [ec5]; exact rec_top2 top4 _
                      have e5b : c5.1 = pasC (nI y) c3.1 (o + 1) := by rw [ec5]; show pasC (nI y) c4.1 1 = _; rw [e4]; rfl
                      rw [← ec5] at hXS Z5
                      have S5 := Z5.1
                      have hCI5 := S5.1
                      refine lv_istore (lv' := [(10, .int (r5)), (5, .int (nI 1)), (8, .int (r6)), (11, .int (nI j)), (9, .int (b9)), (7, .int (κ.1.2.1 i 5)), (3, .int (nI (o + 1))), (0, .ref (X)), (1, .int (nI i)), (2, .int (nI y))]) hx hb dL_isRoundSo_330 hl (by decide) rfl (fun ls hl => ?_)
                      refine lv_iload hx hb dL_isRoundSo_332 (lv_at hl 1 rfl) ?_
                      refine lv_if_eq (tgt := 360) hx hb dL_isRoundSo_334 (by decide) (fun c_334 => absurd c_334 (by decide)) (fun c_334 => ?_)
                      refine lv_iload hx hb dL_isRoundSo_337 (lv_at hl 4 rfl) ?_
                      refine lv_if_eq (tgt := 351) hx hb dL_isRoundSo_339 (by decide) (fun c_339 => absurd c_339 (c_304)) (fun c_339 => ?_)
                      refine lv_aload_n hx hb dL_isRoundSo_342 rfl (lv_at hl 7 rfl) ?_
                      refine lv_iload_n hx hb dL_isRoundSo_343 rfl (lv_at hl 8 rfl) ?_
                      refine lv_iload_n hx hb dL_isRoundSo_344 rfl (lv_at hl 9 rfl) ?_
                      refine m_callI (As := [.int (nI i), .int (nI y)]) (rest := []) ⟨hx, hb, hml, hown, ht⟩ (q_until l g A M X hXS hCI5 (nI i) (nI y)) (cwV 2 ht (gU uw_2029 uw_521 uw_522 uw_34 uw_523) rfl rfl rfl (by decide +kernel) ⟨Nat.le_of_ble_eq_true rfl, Nat.le_of_ble_eq_true rfl⟩) hK hM hS (m_recv hK hM hXS.ob.1 hXS.ob.2 rfl) rfl hl.1 rfl (Nat.le_of_ble_eq_true rfl) dL_isRoundSo_345 ⟨Nat.le_of_ble_eq_true rfl, Nat.le_of_ble_eq_true rfl⟩ (fun r_345 M H locs hp hM hS => ?_)
                      obtain ⟨⟨t_345, e_345⟩, hX9⟩ := hp
                      have hXS := hX9.at
                      have e_345 : r_345 = unR (c5.1.1 0) (nI y) 501 0 (c5.1.2.1 i) := e_345.trans (until_eq hi (by omega))
                      refine lv_if_ne (tgt := 360) hx hb dL_isRoundSo_348 (by decide) (fun c_348 => absurd (by rw [e_345, e5b]; exact (hUP (hbf c_304)).2) c_348) (fun c_348 => ?_)
                      refine lv_iload hx hb dL_isRoundSo_351 (lv_at hl 2 rfl) ?_
                      refine lv_if_lt (tgt := 360) hx hb dL_isRoundSo_353 (by decide) (fun c_353 => absurd c_353 (by rw [e6]; exact Z4.2.2)) (fun c_353 => ?_)
                      refine lv_iconst (v := nI 1) hx hb dL_isRoundSo_356 (by first | rfl | decide) ?_
                      refine lv_goto (tgt := 361) hx hb dL_isRoundSo_357 (by decide) ?_
                      refine lv_istore (lv' := [(5, .int (nI 1)), (10, .int (r5)), (8, .int (r6)), (11, .int (nI j)), (9, .int (b9)), (7, .int (κ.1.2.1 i 5)), (3, .int (nI (o + 1))), (0, .ref (X)), (1, .int (nI i)), (2, .int (nI y))]) hx hb dL_isRoundSo_361 hl (by decide) rfl (fun ls hl => ?_)
                      refine lv_aload_n hx hb dL_isRoundSo_363 rfl (lv_at hl 7 rfl) ?_
                      refine m_callI (As := []) (rest := []) ⟨hx, hb, hml, hown, ht⟩ (q_undo l g A M X hXS hCI5) (cwV 0 ht (gU uw_706 uw_572 uw_573 uw_34 uw_574) rfl rfl rfl (by decide +kernel) ⟨Nat.le_of_ble_eq_true rfl, Nat.le_of_ble_eq_true rfl⟩) hK hM hS (m_recv hK hM hXS.ob.1 hXS.ob.2 rfl) rfl hl.1 rfl (Nat.le_of_ble_eq_true rfl) dL_isRoundSo_364 ⟨Nat.le_of_ble_eq_true rfl, Nat.le_of_ble_eq_true rfl⟩ (fun r4 M H locs hp hM hS => ?_)
                      obtain ⟨e4b, hX9⟩ := hp
                      have hXS := hX9.at
                      obtain ⟨c6, ec6⟩ : ∃ c6, c6 = (oUndo c5).2 := ⟨_, rfl⟩
                      have top6 : zTop c6 c3.1 n := by rw [ec6]; exact undo_top2 top5
                      rw [← ec6] at hXS
                      have S6 : zSI B (Hm + o + o + 1) (T + 20 * o + 20 * o + 20 * 1) c6 := by rw [ec6]; exact S5.undo
                      have hCI6 := S6.1
                      refine lv_istore (lv' := [(10, .int (r4)), (5, .int (nI 1)), (8, .int (r6)), (11, .int (nI j)), (9, .int (b9)), (7, .int (κ.1.2.1 i 5)), (3, .int (nI (o + 1))), (0, .ref (X)), (1, .int (nI i)), (2, .int (nI y))]) hx hb dL_isRoundSo_367 hl (by decide) rfl (fun ls hl => ?_)
                      refine lv_iload_n hx hb dL_isRoundSo_369 rfl (lv_at hl 6 rfl) ?_
                      refine lv_iconst (v := nI 1) hx hb dL_isRoundSo_370 (by first | rfl | decide) ?_
                      refine lv_icmp_ne (tgt := 378) hx hb dL_isRoundSo_371 (by decide) (fun c_371 => ?_) (fun c_371 => absurd c_371 (fun z => absurd (nI_ij (b := 1) (by omega) (by omega) z) (by omega)))
                      refine lv_aload_n hx hb dL_isRoundSo_378 rfl (lv_at hl 7 rfl) ?_
                      refine m_callI (As := []) (rest := []) ⟨hx, hb, hml, hown, ht⟩ (q_undo l g A M X hXS hCI6) (cwV 0 ht (gU uw_706 uw_572 uw_573 uw_34 uw_574) rfl rfl rfl (by decide +kernel) ⟨Nat.le_of_ble_eq_true rfl, Nat.le_of_ble_eq_true rfl⟩) hK hM hS (m_recv hK hM hXS.ob.1 hXS.ob.2 rfl) rfl hl.1 rfl (Nat.le_of_ble_eq_true rfl) dL_isRoundSo_379 ⟨Nat.le_of_ble_eq_true rfl, Nat.le_of_ble_eq_true rfl⟩ (fun r2 M H locs hp hM hS => ?_)
                      obtain ⟨e2, hX9⟩ := hp
                      have hXS := hX9.at
                      obtain ⟨E6, q7, eq7, ek7⟩ := undo_top top6
                      have e2 := e2.trans eq7
                      subst e2
                      have hq7 : q7 ≤ 6 := by have := hCI6.2.1; omega
                      obtain ⟨c7, ec7⟩ : ∃ c7, c7 = (oUndo c6).2 := ⟨_, rfl⟩
                      rw [← ec7] at hXS E6
                      have E7 := E6.tr E3
                      have S7 : zSI B (Hm + o + o + 1) (T + 20 * o + 20 * o + 20 * 1) c7 := by rw [ec7]; exact S6.undo
                      have hCI7 := S7.1
                      refine lv_istore (lv' := [(10, .int (nI q7)), (5, .int (nI 1)), (8, .int (r6)), (11, .int (nI j)), (9, .int (b9)), (7, .int (κ.1.2.1 i 5)), (3, .int (nI (o + 1))), (0, .ref (X)), (1, .int (nI i)), (2, .int (nI y))]) hx hb dL_isRoundSo_382 hl (by decide) rfl (fun ls hl => ?_)
                      refine lv_iload hx hb dL_isRoundSo_384 (lv_at hl 1 rfl) ?_
                      refine lv_if_eq (tgt := 419) hx hb dL_isRoundSo_386 (by decide) (fun c_386 => absurd c_386 (by decide)) (fun c_386 => ?_)
                      refine lv_iload hx hb dL_isRoundSo_389 (lv_at hl 0 rfl) ?_
                      refine lv_if_lt (tgt := 419) hx hb dL_isRoundSo_391 (by decide) (fun c_391 => absurd c_391 (nIge0 (by omega))) (fun c_391 => ?_)
                      refine lv_aload_n hx hb dL_isRoundSo_394 rfl (lv_at hl 7 rfl) ?_
                      refine lv_iload_n hx hb dL_isRoundSo_395 rfl (lv_at hl 8 rfl) ?_
                      refine lv_iconst (v := nI 5) hx hb dL_isRoundSo_396 (by first | rfl | decide) ?_
                      refine m_callRI (val := c7.1.2.1 i 5) (As := [.int (nI i), .int (nI 5)]) (rest := []) ⟨hx, hb, hml, hown, ht⟩ (q_gaugeOf l g A M X hXS hCI7 hi (fac_5 _ _)) (cwV 2 ht (gU uw_2017 uw_481 uw_482 uw_34 uw_483) rfl rfl rfl (by decide +kernel) ⟨Nat.le_of_ble_eq_true rfl, Nat.le_of_ble_eq_true rfl⟩) hK hM hS (m_recv hK hM hXS.ob.1 hXS.ob.2 rfl) rfl hl.1 rfl (Nat.le_of_ble_eq_true rfl) dL_isRoundSo_397 ⟨Nat.le_of_ble_eq_true rfl, Nat.le_of_ble_eq_true rfl⟩ (fun H locs hM hS => ?_)
                      refine lv_iload hx hb dL_isRoundSo_400 (lv_at hl 5 rfl) ?_
                      refine lv_icmp_ne (tgt := 419) hx hb dL_isRoundSo_402 (by decide) (fun c_402 => absurd (E7.2.1 i hi 5 (by omega)) c_402) (fun c_402 => ?_)
                      refine lv_aload_n hx hb dL_isRoundSo_405 rfl (lv_at hl 7 rfl) ?_
                      refine lv_iload_n hx hb dL_isRoundSo_406 rfl (lv_at hl 8 rfl) ?_
                      refine lv_iload_n hx hb dL_isRoundSo_407 rfl (lv_at hl 9 rfl) ?_
                      refine m_callI (As := [.int (nI i), .int (nI y)]) (rest := []) ⟨hx, hb, hml, hown, ht⟩ (q_until l g A M X hXS hCI7 (nI i) (nI y)) (cwV 2 ht (gU uw_2029 uw_521 uw_522 uw_34 uw_523) rfl rfl rfl (by decide +kernel) ⟨Nat.le_of_ble_eq_true rfl, Nat.le_of_ble_eq_true rfl⟩) hK hM hS (m_recv hK hM hXS.ob.1 hXS.ob.2 rfl) rfl hl.1 rfl (Nat.le_of_ble_eq_true rfl) dL_isRoundSo_408 ⟨Nat.le_of_ble_eq_true rfl, Nat.le_of_ble_eq_true rfl⟩ (fun r_408 M H locs hp hM hS => ?_)
                      obtain ⟨⟨t_408, e_408⟩, hX9⟩ := hp
                      have hXS := hX9.at
                      have e_408 : r_408 = unR (c7.1.1 0) (nI y) 501 0 (c7.1.2.1 i) := e_408.trans (until_eq hi (by omega))
                      refine lv_iload_n hx hb dL_isRoundSo_411 rfl (lv_at hl 6 rfl) ?_
                      refine lv_icmp_ne (tgt := 419) hx hb dL_isRoundSo_412 (by decide) (fun c_412 => absurd (by rw [e_408, E7.1 0 (by omega), RowE.un _ _ _ _ _ _ (E7.2.1 i hi)]; exact eU) c_412) (fun c_412 => ?_)
                      refine lv_iconst (v := nI 1) hx hb dL_isRoundSo_415 (by first | rfl | decide) ?_
                      refine lv_goto (tgt := 420) hx hb dL_isRoundSo_416 (by decide) ?_
                      refine lv_istore (lv' := [(5, .int (nI 1)), (10, .int (nI q7)), (8, .int (r6)), (11, .int (nI j)), (9, .int (b9)), (7, .int (κ.1.2.1 i 5)), (3, .int (nI (o + 1))), (0, .ref (X)), (1, .int (nI i)), (2, .int (nI y))]) hx hb dL_isRoundSo_420 hl (by decide) rfl (fun ls hl => ?_)
                      refine lv_iload hx hb dL_isRoundSo_422 (lv_at hl 0 rfl) ?_
                      subst hQ
                      exact m_zret hx hb hr (rfl) hlk hK hM hS dL_isRoundSo_424 (⟨rfl, c7, hXS, S7.mono (by omega) (by omega) (by omega)⟩)
                  · have hjn : j < n := nI_lt_of (by have := P.1; omega) (by have := P.1; omega) c_246
                    refine lv_iload hx hb dL_isRoundSo_249 (lv_at hl 1 rfl) ?_
                    refine lv_if_eq (tgt := 269) hx hb dL_isRoundSo_251 (by decide) (fun c_251 => ?_) (fun c_251 => ?_)
                    · refine lv_iconst (v := nI 0) hx hb dL_isRoundSo_269 (by first | rfl | decide) ?_
                      refine lv_istore (lv' := [(9, .int (nI 0)), (11, .int (nI j)), (8, .int (r8)), (7, .int (κ.1.2.1 i 5)), (5, .int (nI 1)), (3, .int (nI (o + 1))), (0, .ref (X)), (1, .int (nI i)), (2, .int (nI y))]) hx hb dL_isRoundSo_270 hl (by decide) rfl (fun ls hl => ?_)
                      refine lv_iinc (v := nI (j + 1)) (lv' := [(11, .int (nI (j + 1))), (9, .int (nI 0)), (8, .int (r8)), (7, .int (κ.1.2.1 i 5)), (5, .int (nI 1)), (3, .int (nI (o + 1))), (0, .ref (X)), (1, .int (nI i)), (2, .int (nI y))]) hx hb dL_isRoundSo_272 hl (k := 1) rfl (nI_1 _) (by decide) rfl (fun ls hl => ?_)
                      refine lv_goto (tgt := 239) hx hb dL_isRoundSo_275 (by decide) ?_
                      exact ih_239 (j + 1) (nI 0) _ _ _ (by omega) (by omega) (fun z => absurd rfl z) hM hS (lv_sub hl [0, 1, 2, 3, 4, 5, 6, 7, 8] rfl)
                    · refine lv_aload_n hx hb dL_isRoundSo_254 rfl (lv_at hl 6 rfl) ?_
                      refine lv_iload hx hb dL_isRoundSo_255 (lv_at hl 0 rfl) ?_
                      refine lv_iconst (v := nI 0) hx hb dL_isRoundSo_257 (by first | rfl | decide) ?_
                      refine m_callRI (val := c3.1.2.2 j 0) (As := [.int (nI j), .int (nI 0)]) (rest := []) ⟨hx, hb, hml, hown, ht⟩ (q_runner l g A M X hXS hCI3 hn3 P.1 hjn (rnr_0 _ _)) (cwV 2 ht (gU uw_489 uw_499 uw_500 uw_34 uw_501) rfl rfl rfl (by decide +kernel) ⟨Nat.le_of_ble_eq_true rfl, Nat.le_of_ble_eq_true rfl⟩) hK hM hS (m_recv hK hM hXS.ob.1 hXS.ob.2 rfl) rfl hl.1 rfl (Nat.le_of_ble_eq_true rfl) dL_isRoundSo_258 ⟨Nat.le_of_ble_eq_true rfl, Nat.le_of_ble_eq_true rfl⟩ (fun H locs hM hS => ?_)
                      refine lv_iload_n hx hb dL_isRoundSo_261 rfl (lv_at hl 7 rfl) ?_
                      refine lv_icmp_eq (tgt := 269) hx hb dL_isRoundSo_262 (by decide) (fun c_262 => ?_) (fun c_262 => ?_)
                      · refine lv_iconst (v := nI 0) hx hb dL_isRoundSo_269 (by first | rfl | decide) ?_
                        refine lv_istore (lv' := [(9, .int (nI 0)), (11, .int (nI j)), (8, .int (r8)), (7, .int (κ.1.2.1 i 5)), (5, .int (nI 1)), (3, .int (nI (o + 1))), (0, .ref (X)), (1, .int (nI i)), (2, .int (nI y))]) hx hb dL_isRoundSo_270 hl (by decide) rfl (fun ls hl => ?_)
                        refine lv_iinc (v := nI (j + 1)) (lv' := [(11, .int (nI (j + 1))), (9, .int (nI 0)), (8, .int (r8)), (7, .int (κ.1.2.1 i 5)), (5, .int (nI 1)), (3, .int (nI (o + 1))), (0, .ref (X)), (1, .int (nI i)), (2, .int (nI y))]) hx hb dL_isRoundSo_272 hl (k := 1) rfl (nI_1 _) (by decide) rfl (fun ls hl => ?_)
                        refine lv_goto (tgt := 239) hx hb dL_isRoundSo_275 (by decide) ?_
                        exact ih_239 (j + 1) (nI 0) _ _ _ (by omega) (by omega) (fun z => absurd rfl z) hM hS (lv_sub hl [0, 1, 2, 3, 4, 5, 6, 7, 8] rfl)
                      · refine lv_iconst (v := nI 1) hx hb dL_isRoundSo_265 (by first | rfl | decide) ?_
                        refine lv_goto (tgt := 270) hx hb dL_isRoundSo_266 (by decide) ?_
                        refine lv_istore (lv' := [(9, .int (nI 1)), (11, .int (nI j)), (8, .int (r8)), (7, .int (κ.1.2.1 i 5)), (5, .int (nI 1)), (3, .int (nI (o + 1))), (0, .ref (X)), (1, .int (nI i)), (2, .int (nI y))]) hx hb dL_isRoundSo_270 hl (by decide) rfl (fun ls hl => ?_)
                        refine lv_iinc (v := nI (j + 1)) (lv' := [(11, .int (nI (j + 1))), (9, .int (nI 1)), (8, .int (r8)), (7, .int (κ.1.2.1 i 5)), (5, .int (nI 1)), (3, .int (nI (o + 1))), (0, .ref (X)), (1, .int (nI i)), (2, .int (nI y))]) hx hb dL_isRoundSo_272 hl (k := 1) rfl (nI_1 _) (by decide) rfl (fun ls hl => ?_)
                        refine lv_goto (tgt := 239) hx hb dL_isRoundSo_275 (by decide) ?_
                        exact ih_239 (j + 1) (nI 1) _ _ _ (by omega) (by omega) (fun _ => nog_step (hbf c_251) c_262) hM hS (lv_sub hl [0, 1, 2, 3, 4, 5, 6, 7, 8] rfl)
                exact loop_239 _ 0 b9 _ _ _ (Nat.lt_succ_self _) (by omega) (fun _ k hk => absurd hk (Nat.not_lt_zero k)) hM hS (lv_sub hl [0, 2, 3, 4, 5, 6, 7, 8, 9] rfl)
              · have hjn : j < n2 := nI_lt_of (by have := P2.1; omega) (by have := P2.1; omega) c_189
                refine lv_iload hx hb dL_isRoundSo_192 (lv_at hl 1 rfl) ?_
                refine lv_if_eq (tgt := 212) hx hb dL_isRoundSo_194 (by decide) (fun c_194 => ?_) (fun c_194 => ?_)
                · refine lv_iconst (v := nI 0) hx hb dL_isRoundSo_212 (by first | rfl | decide) ?_
                  refine lv_istore (lv' := [(9, .int (nI 0)), (10, .int (nI j)), (8, .int (r8)), (7, .int (κ.1.2.1 i 5)), (5, .int (nI 1)), (3, .int (nI (o + 1))), (0, .ref (X)), (1, .int (nI i)), (2, .int (nI y))]) hx hb dL_isRoundSo_213 hl (by decide) rfl (fun ls hl => ?_)
                  refine lv_iinc (v := nI (j + 1)) (lv' := [(10, .int (nI (j + 1))), (9, .int (nI 0)), (8, .int (r8)), (7, .int (κ.1.2.1 i 5)), (5, .int (nI 1)), (3, .int (nI (o + 1))), (0, .ref (X)), (1, .int (nI i)), (2, .int (nI y))]) hx hb dL_isRoundSo_215 hl (k := 1) rfl (nI_1 _) (by decide) rfl (fun ls hl => ?_)
                  refine lv_goto (tgt := 182) hx hb dL_isRoundSo_218 (by decide) ?_
                  exact ih_182 (j + 1) (nI 0) _ _ _ (by omega) (by omega) hM hS (lv_sub hl [0, 1, 2, 3, 4, 5, 6, 7, 8] rfl)
                · refine lv_aload_n hx hb dL_isRoundSo_197 rfl (lv_at hl 6 rfl) ?_
                  refine lv_iload hx hb dL_isRoundSo_198 (lv_at hl 0 rfl) ?_
                  refine lv_iconst (v := nI 0) hx hb dL_isRoundSo_200 (by first | rfl | decide) ?_
                  refine m_callRI (val := c2.1.2.2 j 0) (As := [.int (nI j), .int (nI 0)]) (rest := []) ⟨hx, hb, hml, hown, ht⟩ (q_runner l g A M X hXS hCI2 hn2 P2.1 hjn (rnr_0 _ _)) (cwV 2 ht (gU uw_489 uw_499 uw_500 uw_34 uw_501) rfl rfl rfl (by decide +kernel) ⟨Nat.le_of_ble_eq_true rfl, Nat.le_of_ble_eq_true rfl⟩) hK hM hS (m_recv hK hM hXS.ob.1 hXS.ob.2 rfl) rfl hl.1 rfl (Nat.le_of_ble_eq_true rfl) dL_isRoundSo_201 ⟨Nat.le_of_ble_eq_true rfl, Nat.le_of_ble_eq_true rfl⟩ (fun H locs hM hS => ?_)
                  refine lv_iload_n hx hb dL_isRoundSo_204 rfl (lv_at hl 7 rfl) ?_
                  refine lv_icmp_eq (tgt := 212) hx hb dL_isRoundSo_205 (by decide) (fun c_205 => ?_) (fun c_205 => ?_)
                  · refine lv_iconst (v := nI 0) hx hb dL_isRoundSo_212 (by first | rfl | decide) ?_
                    refine lv_istore (lv' := [(9, .int (nI 0)), (10, .int (nI j)), (8, .int (r8)), (7, .int (κ.1.2.1 i 5)), (5, .int (nI 1)), (3, .int (nI (o + 1))), (0, .ref (X)), (1, .int (nI i)), (2, .int (nI y))]) hx hb dL_isRoundSo_213 hl (by decide) rfl (fun ls hl => ?_)
                    refine lv_iinc (v := nI (j + 1)) (lv' := [(10, .int (nI (j + 1))), (9, .int (nI 0)), (8, .int (r8)), (7, .int (κ.1.2.1 i 5)), (5, .int (nI 1)), (3, .int (nI (o + 1))), (0, .ref (X)), (1, .int (nI i)), (2, .int (nI y))]) hx hb dL_isRoundSo_215 hl (k := 1) rfl (nI_1 _) (by decide) rfl (fun ls hl => ?_)
                    refine lv_goto (tgt := 182) hx hb dL_isRoundSo_218 (by decide) ?_
                    exact ih_182 (j + 1) (nI 0) _ _ _ (by omega) (by omega) hM hS (lv_sub hl [0, 1, 2, 3, 4, 5, 6, 7, 8] rfl)
                  · refine lv_iconst (v := nI 1) hx hb dL_isRoundSo_208 (by first | rfl | decide) ?_
                    refine lv_goto (tgt := 213) hx hb dL_isRoundSo_209 (by decide) ?_
                    refine lv_istore (lv' := [(9, .int (nI 1)), (10, .int (nI j)), (8, .int (r8)), (7, .int (κ.1.2.1 i 5)), (5, .int (nI 1)), (3, .int (nI (o + 1))), (0, .ref (X)), (1, .int (nI i)), (2, .int (nI y))]) hx hb dL_isRoundSo_213 hl (by decide) rfl (fun ls hl => ?_)
                    refine lv_iinc (v := nI (j + 1)) (lv' := [(10, .int (nI (j + 1))), (9, .int (nI 1)), (8, .int (r8)), (7, .int (κ.1.2.1 i 5)), (5, .int (nI 1)), (3, .int (nI (o + 1))), (0, .ref (X)), (1, .int (nI i)), (2, .int (nI y))]) hx hb dL_isRoundSo_215 hl (k := 1) rfl (nI_1 _) (by decide) rfl (fun ls hl => ?_)
                    refine lv_goto (tgt := 182) hx hb dL_isRoundSo_218 (by decide) ?_
                    exact ih_182 (j + 1) (nI 1) _ _ _ (by omega) (by omega) hM hS (lv_sub hl [0, 1, 2, 3, 4, 5, 6, 7, 8] rfl)
            exact loop_182 _ 0 (nI 1) _ _ _ (Nat.lt_succ_self _) (by omega) hM hS (lv_sub hl [0, 1, 2, 3, 4, 5, 6, 7, 8] rfl)
      refine lv_iload_n hx hb dL_isRoundSo_39 rfl (lv_at hl 4 rfl) ?_
      refine lv_if_ne (tgt := 47) hx hb dL_isRoundSo_40 (by decide) (fun c_40 => ?_) (fun c_40 => ?_)
      · refine lv_aload_n hx hb dL_isRoundSo_47 rfl (lv_at hl 2 rfl) ?_
        refine lv_iload_n hx hb dL_isRoundSo_48 rfl (lv_at hl 3 rfl) ?_
        refine lv_iload_n hx hb dL_isRoundSo_49 rfl (lv_at hl 4 rfl) ?_
        refine lv_iconst (v := nI 1) hx hb dL_isRoundSo_50 (by first | rfl | decide) ?_
        refine lv_isub hx hb dL_isRoundSo_51 ?_
        rw [pk_sub (a := y) (b := 1) (Nat.pos_of_ne_zero (fun z => c_40 (by rw [z]; rfl)))]
        refine m_callI (As := [.int (nI i), .int (nI (y - 1))]) (rest := []) ⟨hx, hb, hml, hown, ht⟩ (q_until l g A M X hXS hCI (nI i) (nI (y - 1))) (cwV 2 ht (gU uw_2029 uw_521 uw_522 uw_34 uw_523) rfl rfl rfl (by decide +kernel) ⟨Nat.le_of_ble_eq_true rfl, Nat.le_of_ble_eq_true rfl⟩) hK hM hS (m_recv hK hM hXS.ob.1 hXS.ob.2 rfl) rfl hl.1 rfl (Nat.le_of_ble_eq_true rfl) dL_isRoundSo_52 ⟨Nat.le_of_ble_eq_true rfl, Nat.le_of_ble_eq_true rfl⟩ (fun r_52 M H locs hp hM hS => ?_)
        obtain ⟨⟨t_52, e_52⟩, hX9⟩ := hp
        have hXS := hX9.at
        have e_52 : r_52 = unR (κ.1.1 0) (nI (y - 1)) 501 0 (κ.1.2.1 i) := e_52.trans (until_eq hi (by omega))
        refine lv_istore (lv' := [(6, .int (r_52)), (5, .int (nI 1)), (3, .int (nI (o + 1))), (0, .ref (X)), (1, .int (nI i)), (2, .int (nI y))]) hx hb dL_isRoundSo_55 hl (by decide) rfl (fun ls hl => ?_)
        have zm := un_mono (h := h) (r := κ.1.2.1 i) G.1 G.2.2.1 (by omega) hw2 (a := nI (y - 1)) (b := nI y) (by rw [nI_ti (by omega)]; omega) (by rw [nI_ti (by omega), nI_ti (by omega)]; omega) (by rw [nI_ti (by omega)]; omega)
        rw [← hw3] at zm
        rcases zm with es | ⟨p9, q9, hqp, hp5, es, er⟩
        · have e57 := e_52.trans es
          subst e57
          refine lv_iload hx hb dL_isRoundSo_57 (lv_at hl 1 rfl) ?_
          refine lv_if_eq (tgt := 136) hx hb dL_isRoundSo_59 (by decide) (fun c_59 => absurd c_59 (by decide)) (fun c_59 => ?_)
          refine lv_iload_n hx hb dL_isRoundSo_62 rfl (lv_at hl 2 rfl) ?_
          refine lv_ldc (v := (-1000006)) hx hb hown (ht _ uw_2030) dL_isRoundSo_63 ?_
          refine lv_icmp_eq (tgt := 79) hx hb dL_isRoundSo_65 (by decide) (fun c_65 => absurd c_65 (nI_none (by omega))) (fun c_65 => ?_)
          refine lv_iload_n hx hb dL_isRoundSo_68 rfl (lv_at hl 2 rfl) ?_
          refine lv_if_lt (tgt := 136) hx hb dL_isRoundSo_69 (by decide) (fun c_69 => absurd c_69 (nIge0 (by omega))) (fun c_69 => ?_)
          refine lv_iload_n hx hb dL_isRoundSo_72 rfl (lv_at hl 2 rfl) ?_
          refine lv_sipush (v := nI 500) hx hb dL_isRoundSo_73 (by first | rfl | decide) ?_
          refine lv_icmp_gt (tgt := 136) hx hb dL_isRoundSo_76 (by decide) (fun c_76 => absurd c_76 (Int32.not_lt.mpr (nI_le (by omega) (by omega)))) (fun c_76 => ?_)
          refine lv_iload hx hb dL_isRoundSo_79 (lv_at hl 0 rfl) ?_
          refine lv_ldc (v := (-1000006)) hx hb hown (ht _ uw_2030) dL_isRoundSo_81 ?_
          refine lv_icmp_eq (tgt := 96) hx hb dL_isRoundSo_83 (by decide) (fun c_83 => ?_) (fun c_83 => absurd (rfl) c_83)
          refine lv_iload_n hx hb dL_isRoundSo_96 rfl (lv_at hl 2 rfl) ?_
          refine lv_if_ne (tgt := 104) hx hb dL_isRoundSo_97 (by decide) (fun c_97 => ?_) (fun c_97 => absurd c_97 (fun z => absurd (nI_ij (b := 0) (by omega) (by omega) z) (by omega)))
          refine lv_iconst (v := nI 0) hx hb dL_isRoundSo_104 (by first | rfl | decide) ?_
          refine lv_aload_n hx hb dL_isRoundSo_105 rfl (lv_at hl 3 rfl) ?_
          refine lv_iload_n hx hb dL_isRoundSo_106 rfl (lv_at hl 4 rfl) ?_
          refine lv_iconst (v := nI 0) hx hb dL_isRoundSo_107 (by first | rfl | decide) ?_
          refine m_callI (As := [.int (nI i), .int (nI 0)]) (rest := [.int (nI 0)]) ⟨hx, hb, hml, hown, ht⟩ (q_until l g A M X hXS hCI (nI i) (nI 0)) (cwV 2 ht (gU uw_2029 uw_521 uw_522 uw_34 uw_523) rfl rfl rfl (by decide +kernel) ⟨Nat.le_of_ble_eq_true rfl, Nat.le_of_ble_eq_true rfl⟩) hK hM hS (m_recv hK hM hXS.ob.1 hXS.ob.2 rfl) rfl hl.1 rfl (Nat.le_of_ble_eq_true rfl) dL_isRoundSo_108 ⟨Nat.le_of_ble_eq_true rfl, Nat.le_of_ble_eq_true rfl⟩ (fun r_108 M H locs hp hM hS => ?_)
          obtain ⟨⟨t_108, e_108⟩, hX9⟩ := hp
          have hXS := hX9.at
          have e_108 : r_108 = unR (κ.1.1 0) (nI 0) 501 0 (κ.1.2.1 i) := e_108.trans (until_eq hi (by omega))
          refine lv_if_ne (tgt := 128) hx hb dL_isRoundSo_111 (by decide) (fun c_111 => ?_) (fun c_111 => absurd c_111 (fun z => hnz ((un_zero _ _ _).mp (e_108.symm.trans z))))
          refine lv_iconst (v := nI 0) hx hb dL_isRoundSo_128 (by first | rfl | decide) ?_
          refine lv_icmp_ne (tgt := 136) hx hb dL_isRoundSo_129 (by decide) (fun c_129 => absurd (rfl) c_129) (fun c_129 => ?_)
          refine lv_iconst (v := nI 1) hx hb dL_isRoundSo_132 (by first | rfl | decide) ?_
          refine lv_goto (tgt := 137) hx hb dL_isRoundSo_133 (by decide) ?_
          refine lv_istore (lv' := [(5, .int (nI 1)), (6, .int ((-1000006))), (3, .int (nI (o + 1))), (0, .ref (X)), (1, .int (nI i)), (2, .int (nI y))]) hx hb dL_isRoundSo_137 hl (by decide) rfl (fun ls hl => ?_)
          exact cut_139 _ _ _ _ hXS hM hS (lv_sub hl [0, 2, 3, 4, 5] rfl)
        · have e57 := e_52.trans es
          subst e57
          have e58 : (o + 1) = q9 := nI_ij (by omega) (by omega) (eU.symm.trans er)
          refine lv_iload hx hb dL_isRoundSo_57 (lv_at hl 1 rfl) ?_
          refine lv_if_eq (tgt := 136) hx hb dL_isRoundSo_59 (by decide) (fun c_59 => absurd c_59 (by decide)) (fun c_59 => ?_)
          refine lv_iload_n hx hb dL_isRoundSo_62 rfl (lv_at hl 2 rfl) ?_
          refine lv_ldc (v := (-1000006)) hx hb hown (ht _ uw_2030) dL_isRoundSo_63 ?_
          refine lv_icmp_eq (tgt := 79) hx hb dL_isRoundSo_65 (by decide) (fun c_65 => absurd c_65 (nI_none (by omega))) (fun c_65 => ?_)
          refine lv_iload_n hx hb dL_isRoundSo_68 rfl (lv_at hl 2 rfl) ?_
          refine lv_if_lt (tgt := 136) hx hb dL_isRoundSo_69 (by decide) (fun c_69 => absurd c_69 (nIge0 (by omega))) (fun c_69 => ?_)
          refine lv_iload_n hx hb dL_isRoundSo_72 rfl (lv_at hl 2 rfl) ?_
          refine lv_sipush (v := nI 500) hx hb dL_isRoundSo_73 (by first | rfl | decide) ?_
          refine lv_icmp_gt (tgt := 136) hx hb dL_isRoundSo_76 (by decide) (fun c_76 => absurd c_76 (Int32.not_lt.mpr (nI_le (by omega) (by omega)))) (fun c_76 => ?_)
          refine lv_iload hx hb dL_isRoundSo_79 (lv_at hl 0 rfl) ?_
          refine lv_ldc (v := (-1000006)) hx hb hown (ht _ uw_2030) dL_isRoundSo_81 ?_
          refine lv_icmp_eq (tgt := 96) hx hb dL_isRoundSo_83 (by decide) (fun c_83 => absurd c_83 (nI_none (by omega))) (fun c_83 => ?_)
          refine lv_iload_n hx hb dL_isRoundSo_86 rfl (lv_at hl 2 rfl) ?_
          refine lv_if_lt (tgt := 136) hx hb dL_isRoundSo_87 (by decide) (fun c_87 => absurd c_87 (nIge0 (by omega))) (fun c_87 => ?_)
          refine lv_iload_n hx hb dL_isRoundSo_90 rfl (lv_at hl 2 rfl) ?_
          refine lv_iload hx hb dL_isRoundSo_91 (lv_at hl 0 rfl) ?_
          refine lv_icmp_gt (tgt := 136) hx hb dL_isRoundSo_93 (by decide) (fun c_93 => absurd c_93 (Int32.not_lt.mpr (nI_le (by omega) (by omega)))) (fun c_93 => ?_)
          refine lv_iload_n hx hb dL_isRoundSo_96 rfl (lv_at hl 2 rfl) ?_
          refine lv_if_ne (tgt := 104) hx hb dL_isRoundSo_97 (by decide) (fun c_97 => ?_) (fun c_97 => absurd c_97 (fun z => absurd (nI_ij (b := 0) (by omega) (by omega) z) (by omega)))
          refine lv_iconst (v := nI 0) hx hb dL_isRoundSo_104 (by first | rfl | decide) ?_
          refine lv_aload_n hx hb dL_isRoundSo_105 rfl (lv_at hl 3 rfl) ?_
          refine lv_iload_n hx hb dL_isRoundSo_106 rfl (lv_at hl 4 rfl) ?_
          refine lv_iconst (v := nI 0) hx hb dL_isRoundSo_107 (by first | rfl | decide) ?_
          refine m_callI (As := [.int (nI i), .int (nI 0)]) (rest := [.int (nI 0)]) ⟨hx, hb, hml, hown, ht⟩ (q_until l g A M X hXS hCI (nI i) (nI 0)) (cwV 2 ht (gU uw_2029 uw_521 uw_522 uw_34 uw_523) rfl rfl rfl (by decide +kernel) ⟨Nat.le_of_ble_eq_true rfl, Nat.le_of_ble_eq_true rfl⟩) hK hM hS (m_recv hK hM hXS.ob.1 hXS.ob.2 rfl) rfl hl.1 rfl (Nat.le_of_ble_eq_true rfl) dL_isRoundSo_108 ⟨Nat.le_of_ble_eq_true rfl, Nat.le_of_ble_eq_true rfl⟩ (fun r_108 M H locs hp hM hS => ?_)
          obtain ⟨⟨t_108, e_108⟩, hX9⟩ := hp
          have hXS := hX9.at
          have e_108 : r_108 = unR (κ.1.1 0) (nI 0) 501 0 (κ.1.2.1 i) := e_108.trans (until_eq hi (by omega))
          refine lv_if_ne (tgt := 128) hx hb dL_isRoundSo_111 (by decide) (fun c_111 => ?_) (fun c_111 => absurd c_111 (fun z => hnz ((un_zero _ _ _).mp (e_108.symm.trans z))))
          refine lv_iconst (v := nI 0) hx hb dL_isRoundSo_128 (by first | rfl | decide) ?_
          refine lv_icmp_ne (tgt := 136) hx hb dL_isRoundSo_129 (by decide) (fun c_129 => absurd (rfl) c_129) (fun c_129 => ?_)
          refine lv_iconst (v := nI 1) hx hb dL_isRoundSo_132 (by first | rfl | decide) ?_
          refine lv_goto (tgt := 137) hx hb dL_isRoundSo_133 (by decide) ?_
          refine lv_istore (lv' := [(5, .int (nI 1)), (6, .int (nI p9)), (3, .int (nI (o + 1))), (0, .ref (X)), (1, .int (nI i)), (2, .int (nI y))]) hx hb dL_isRoundSo_137 hl (by decide) rfl (fun ls hl => ?_)
          exact cut_139 _ _ _ _ hXS hM hS (lv_sub hl [0, 2, 3, 4, 5] rfl)
      · refine lv_iload_n hx hb dL_isRoundSo_43 rfl (lv_at hl 1 rfl) ?_
        refine lv_goto (tgt := 55) hx hb dL_isRoundSo_44 (by decide) ?_
        refine lv_istore (lv' := [(6, .int (nI (o + 1))), (5, .int (nI 1)), (3, .int (nI (o + 1))), (0, .ref (X)), (1, .int (nI i)), (2, .int (nI y))]) hx hb dL_isRoundSo_55 hl (by decide) rfl (fun ls hl => ?_)
        refine lv_iload hx hb dL_isRoundSo_57 (lv_at hl 1 rfl) ?_
        refine lv_if_eq (tgt := 136) hx hb dL_isRoundSo_59 (by decide) (fun c_59 => absurd c_59 (by decide)) (fun c_59 => ?_)
        refine lv_iload_n hx hb dL_isRoundSo_62 rfl (lv_at hl 2 rfl) ?_
        refine lv_ldc (v := (-1000006)) hx hb hown (ht _ uw_2030) dL_isRoundSo_63 ?_
        refine lv_icmp_eq (tgt := 79) hx hb dL_isRoundSo_65 (by decide) (fun c_65 => absurd c_65 (nI_none (by omega))) (fun c_65 => ?_)
        refine lv_iload_n hx hb dL_isRoundSo_68 rfl (lv_at hl 2 rfl) ?_
        refine lv_if_lt (tgt := 136) hx hb dL_isRoundSo_69 (by decide) (fun c_69 => absurd c_69 (nIge0 (by omega))) (fun c_69 => ?_)
        refine lv_iload_n hx hb dL_isRoundSo_72 rfl (lv_at hl 2 rfl) ?_
        refine lv_sipush (v := nI 500) hx hb dL_isRoundSo_73 (by first | rfl | decide) ?_
        refine lv_icmp_gt (tgt := 136) hx hb dL_isRoundSo_76 (by decide) (fun c_76 => absurd c_76 (Int32.not_lt.mpr (nI_le (by omega) (by omega)))) (fun c_76 => ?_)
        refine lv_iload hx hb dL_isRoundSo_79 (lv_at hl 0 rfl) ?_
        refine lv_ldc (v := (-1000006)) hx hb hown (ht _ uw_2030) dL_isRoundSo_81 ?_
        refine lv_icmp_eq (tgt := 96) hx hb dL_isRoundSo_83 (by decide) (fun c_83 => absurd c_83 (nI_none (by omega))) (fun c_83 => ?_)
        refine lv_iload_n hx hb dL_isRoundSo_86 rfl (lv_at hl 2 rfl) ?_
        refine lv_if_lt (tgt := 136) hx hb dL_isRoundSo_87 (by decide) (fun c_87 => absurd c_87 (nIge0 (by omega))) (fun c_87 => ?_)
        refine lv_iload_n hx hb dL_isRoundSo_90 rfl (lv_at hl 2 rfl) ?_
        refine lv_iload hx hb dL_isRoundSo_91 (lv_at hl 0 rfl) ?_
        refine lv_icmp_gt (tgt := 136) hx hb dL_isRoundSo_93 (by decide) (fun c_93 => absurd c_93 (Int32.lt_irrefl)) (fun c_93 => ?_)
        refine lv_iload_n hx hb dL_isRoundSo_96 rfl (lv_at hl 2 rfl) ?_
        refine lv_if_ne (tgt := 104) hx hb dL_isRoundSo_97 (by decide) (fun c_97 => ?_) (fun c_97 => absurd c_97 (fun z => absurd (nI_ij (b := 0) (by omega) (by omega) z) (by omega)))
        refine lv_iconst (v := nI 0) hx hb dL_isRoundSo_104 (by first | rfl | decide) ?_
        refine lv_aload_n hx hb dL_isRoundSo_105 rfl (lv_at hl 3 rfl) ?_
        refine lv_iload_n hx hb dL_isRoundSo_106 rfl (lv_at hl 4 rfl) ?_
        refine lv_iconst (v := nI 0) hx hb dL_isRoundSo_107 (by first | rfl | decide) ?_
        refine m_callI (As := [.int (nI i), .int (nI 0)]) (rest := [.int (nI 0)]) ⟨hx, hb, hml, hown, ht⟩ (q_until l g A M X hXS hCI (nI i) (nI 0)) (cwV 2 ht (gU uw_2029 uw_521 uw_522 uw_34 uw_523) rfl rfl rfl (by decide +kernel) ⟨Nat.le_of_ble_eq_true rfl, Nat.le_of_ble_eq_true rfl⟩) hK hM hS (m_recv hK hM hXS.ob.1 hXS.ob.2 rfl) rfl hl.1 rfl (Nat.le_of_ble_eq_true rfl) dL_isRoundSo_108 ⟨Nat.le_of_ble_eq_true rfl, Nat.le_of_ble_eq_true rfl⟩ (fun r_108 M H locs hp hM hS => ?_)
        obtain ⟨⟨t_108, e_108⟩, hX9⟩ := hp
        have hXS := hX9.at
        have e_108 : r_108 = unR (κ.1.1 0) (nI 0) 501 0 (κ.1.2.1 i) := e_108.trans (until_eq hi (by omega))
        refine lv_if_ne (tgt := 128) hx hb dL_isRoundSo_111 (by decide) (fun c_111 => ?_) (fun c_111 => absurd c_111 (fun z => hnz ((un_zero _ _ _).mp (e_108.symm.trans z))))
        refine lv_iconst (v := nI 0) hx hb dL_isRoundSo_128 (by first | rfl | decide) ?_
        refine lv_icmp_ne (tgt := 136) hx hb dL_isRoundSo_129 (by decide) (fun c_129 => absurd (rfl) c_129) (fun c_129 => ?_)
        refine lv_iconst (v := nI 1) hx hb dL_isRoundSo_132 (by first | rfl | decide) ?_
        refine lv_goto (tgt := 137) hx hb dL_isRoundSo_133 (by decide) ?_
        refine lv_istore (lv' := [(5, .int (nI 1)), (6, .int (nI (o + 1))), (3, .int (nI (o + 1))), (0, .ref (X)), (1, .int (nI i)), (2, .int (nI y))]) hx hb dL_isRoundSo_137 hl (by decide) rfl (fun ls hl => ?_)
        exact cut_139 _ _ _ _ hXS hM hS (lv_sub hl [0, 2, 3, 4, 5] rfl)
  refine lv_aload_n hx hb dL_isRoundSo_7 rfl (lv_at hl 1 rfl) ?_
  refine m_callRI (val := mosL κ.1 6) (As := []) (rest := []) ⟨hx, hb, hml, hown, ht⟩ (q_most l g A M X hXS hCI) (cwV 0 ht (gU uw_520 uw_546 uw_547 uw_34 uw_548) rfl rfl rfl (by decide +kernel) ⟨Nat.le_of_ble_eq_true rfl, Nat.le_of_ble_eq_true rfl⟩) hK hM hS (m_recv hK hM hXS.ob.1 hXS.ob.2 rfl) rfl hl.1 rfl (Nat.le_of_ble_eq_true rfl) dL_isRoundSo_8 ⟨Nat.le_of_ble_eq_true rfl, Nat.le_of_ble_eq_true rfl⟩ (fun H locs hM hS => ?_)
  refine lv_istore (lv' := [(4, .int (mosL κ.1 6)), (3, .int (r_3)), (0, .ref (X)), (1, .int (nI i)), (2, .int (nI y))]) hx hb dL_isRoundSo_11 hl (by decide) rfl (fun ls hl => ?_)
  rcases mos_rng κ.1 6 (by omega) with eM | ⟨kM, hkM, eM⟩
  · refine lv_iload hx hb dL_isRoundSo_13 (lv_at hl 0 rfl) ?_
    refine lv_ldc (v := (-1000006)) hx hb hown (ht _ uw_2030) dL_isRoundSo_15 ?_
    refine lv_icmp_eq (tgt := 32) hx hb dL_isRoundSo_17 (by decide) (fun c_17 => ?_) (fun c_17 => absurd (eM) c_17)
    refine lv_iconst (v := nI 1) hx hb dL_isRoundSo_32 (by first | rfl | decide) ?_
    refine lv_goto (tgt := 37) hx hb dL_isRoundSo_33 (by decide) ?_
    refine lv_istore (lv' := [(5, .int (nI 1)), (4, .int (mosL κ.1 6)), (3, .int (r_3)), (0, .ref (X)), (1, .int (nI i)), (2, .int (nI y))]) hx hb dL_isRoundSo_37 hl (by decide) rfl (fun ls hl => ?_)
    rcases un_cases (κ.1.1 0) (nI y) (κ.1.2.1 i) with eU | eU | ⟨o, ho, eU⟩
    · have e39 := e_3.trans eU
      subst e39
      have hnz : ¬ κ.1.1 0 ≤ κ.1.2.1 i 5 - κ.1.2.1 i 10 := fun z => absurd (eU.symm.trans ((un_zero _ _ _).mpr z)) (by decide)
      exact cut_39 _ _ _ _ hXS hM hS (lv_sub hl [0, 2, 3, 4, 5] rfl)
    · have e39 := e_3.trans eU
      subst e39
      have hz0 := (un_zero _ _ _).mp eU
      exact cut_39 _ _ _ _ hXS hM hS (lv_sub hl [0, 2, 3, 4, 5] rfl)
    · have e39 := e_3.trans eU
      subst e39
      have hnz : ¬ κ.1.1 0 ≤ κ.1.2.1 i 5 - κ.1.2.1 i 10 := fun z => absurd (nI_ij (b := 0) (by omega) (by omega) (eU.symm.trans ((un_zero _ _ _).mpr z))) (by omega)
      exact cut_39 _ _ _ _ hXS hM hS (lv_sub hl [0, 2, 3, 4, 5] rfl)
  · refine lv_iload hx hb dL_isRoundSo_13 (lv_at hl 0 rfl) ?_
    refine lv_ldc (v := (-1000006)) hx hb hown (ht _ uw_2030) dL_isRoundSo_15 ?_
    refine lv_icmp_eq (tgt := 32) hx hb dL_isRoundSo_17 (by decide) (fun c_17 => absurd c_17 (fun z => nI_none (by omega) (eM.symm.trans z))) (fun c_17 => ?_)
    refine lv_iload hx hb dL_isRoundSo_20 (lv_at hl 0 rfl) ?_
    refine lv_if_lt (tgt := 36) hx hb dL_isRoundSo_22 (by decide) (fun c_22 => absurd c_22 (by rw [show mosL κ.1 6 = nI kM from eM]; exact nIge0 (by omega))) (fun c_22 => ?_)
    refine lv_iload hx hb dL_isRoundSo_25 (lv_at hl 0 rfl) ?_
    refine lv_bipush (v := nI 6) hx hb dL_isRoundSo_27 (by first | rfl | decide) ?_
    refine lv_icmp_ge (tgt := 36) hx hb dL_isRoundSo_29 (by decide) (fun c_29 => absurd c_29 (by rw [show mosL κ.1 6 = nI kM from eM]; exact nI_ge hkM (by omega))) (fun c_29 => ?_)
    refine lv_iconst (v := nI 1) hx hb dL_isRoundSo_32 (by first | rfl | decide) ?_
    refine lv_goto (tgt := 37) hx hb dL_isRoundSo_33 (by decide) ?_
    refine lv_istore (lv' := [(5, .int (nI 1)), (4, .int (mosL κ.1 6)), (3, .int (r_3)), (0, .ref (X)), (1, .int (nI i)), (2, .int (nI y))]) hx hb dL_isRoundSo_37 hl (by decide) rfl (fun ls hl => ?_)
    rcases un_cases (κ.1.1 0) (nI y) (κ.1.2.1 i) with eU | eU | ⟨o, ho, eU⟩
    · have e39 := e_3.trans eU
      subst e39
      have hnz : ¬ κ.1.1 0 ≤ κ.1.2.1 i 5 - κ.1.2.1 i 10 := fun z => absurd (eU.symm.trans ((un_zero _ _ _).mpr z)) (by decide)
      exact cut_39 _ _ _ _ hXS hM hS (lv_sub hl [0, 2, 3, 4, 5] rfl)
    · have e39 := e_3.trans eU
      subst e39
      have hz0 := (un_zero _ _ _).mp eU
      exact cut_39 _ _ _ _ hXS hM hS (lv_sub hl [0, 2, 3, 4, 5] rfl)
    · have e39 := e_3.trans eU
      subst e39
      have hnz : ¬ κ.1.1 0 ≤ κ.1.2.1 i 5 - κ.1.2.1 i 10 := fun z => absurd (nI_ij (b := 0) (by omega) (by omega) (eU.symm.trans ((un_zero _ _ _).mpr z))) (by omega)
      exact cut_39 _ _ _ _ hXS hM hS (lv_sub hl [0, 2, 3, 4, 5] rfl)
