set_option maxRecDepth 20000 in
theorem gL_areAlike_X4_parts : GoodIn wsL_areAlike (wsV RL 73 RX4 yX4_parts wsX4_parts) := goodIn_app (goodIn_of _ (by decide +kernel)) ggL_areAlike_X4_parts
set_option maxRecDepth 20000 in
theorem ggL_areAlike_L_up : GoodIn wsL_areAlike wsL_up := goodIn_r _ [222, 223] (by decide +kernel) (by decide +kernel)
set_option maxRecDepth 20000 in
theorem gL_areAlike_L_up : GoodIn wsL_areAlike (va_wsS RL 18 yL_up wsL_up) := goodIn_app (goodIn_of _ (by decide +kernel)) ggL_areAlike_L_up
set_option maxRecDepth 20000 in
theorem ggL_areAlike_X4_way : GoodIn wsL_areAlike wsX4_way := goodIn_r _ [227, 6, 14, 8, 9, 179, 180, 181, 18, 182, 20, 228, 229, 4, 230, 231, 114, 115, 116, 117, 118, 119, 21, 22, 23, 24, 25, 26, 120, 121, 122, 30, 123, 32, 37, 38, 39, 40, 41, 42, 43, 44, 45, 46, 124, 125, 126, 127, 128, 129, 130, 131, 132, 133, 134, 135, 136, 137, 138, 139, 140, 141, 142, 143, 144, 145, 68, 61, 62, 63, 146, 147, 148, 149, 74, 75, 76, 150, 151, 152, 153, 154, 155, 156, 157, 158, 159, 160, 161, 64, 65, 66, 67, 69, 70, 71, 72, 73, 33, 34, 35, 36, 77, 78, 232, 233, 234, 235, 236, 237, 238, 239, 240, 241, 242, 243, 244, 245, 246, 247, 259, 260, 261] (by decide +kernel) (by decide +kernel)
set_option maxRecDepth 20000 in
theorem gL_areAlike_X4_way : GoodIn wsL_areAlike (wsV RL 76 RX4 yX4_way wsX4_way) := goodIn_app (goodIn_of _ (by decide +kernel)) ggL_areAlike_X4_way
theorem dL_areAlike_0 : decode cL_areAlike 0 = .ok (.aload_n 0, 1) := by decide +kernel
theorem dL_areAlike_1 : decode cL_areAlike 1 = .ok (.iconst 0, 1) := by decide +kernel
theorem dL_areAlike_2 : decode cL_areAlike 2 = .ok (.invokevirtual 15, 3) := by decide +kernel
theorem dL_areAlike_5 : decode cL_areAlike 5 = .ok (.istore_n 3, 1) := by decide +kernel
theorem dL_areAlike_6 : decode cL_areAlike 6 = .ok (.aload_n 0, 1) := by decide +kernel
theorem dL_areAlike_7 : decode cL_areAlike 7 = .ok (.iconst 3, 1) := by decide +kernel
theorem dL_areAlike_8 : decode cL_areAlike 8 = .ok (.invokevirtual 15, 3) := by decide +kernel
theorem dL_areAlike_11 : decode cL_areAlike 11 = .ok (.aload_n 1, 1) := by decide +kernel
theorem dL_areAlike_12 : decode cL_areAlike 12 = .ok (.iconst 3, 1) := by decide +kernel
theorem dL_areAlike_13 : decode cL_areAlike 13 = .ok (.invokevirtual 15, 3) := by decide +kernel
theorem dL_areAlike_16 : decode cL_areAlike 16 = .ok (.if_icmp .ne 70, 3) := by decide +kernel
theorem dL_areAlike_19 : decode cL_areAlike 19 = .ok (.aload_n 0, 1) := by decide +kernel
theorem dL_areAlike_20 : decode cL_areAlike 20 = .ok (.iconst 4, 1) := by decide +kernel
theorem dL_areAlike_21 : decode cL_areAlike 21 = .ok (.invokevirtual 15, 3) := by decide +kernel
theorem dL_areAlike_24 : decode cL_areAlike 24 = .ok (.aload_n 1, 1) := by decide +kernel
theorem dL_areAlike_25 : decode cL_areAlike 25 = .ok (.iconst 4, 1) := by decide +kernel
theorem dL_areAlike_26 : decode cL_areAlike 26 = .ok (.invokevirtual 15, 3) := by decide +kernel
theorem dL_areAlike_29 : decode cL_areAlike 29 = .ok (.if_icmp .ne 57, 3) := by decide +kernel
theorem dL_areAlike_32 : decode cL_areAlike 32 = .ok (.aload_n 0, 1) := by decide +kernel
theorem dL_areAlike_33 : decode cL_areAlike 33 = .ok (.iconst 5, 1) := by decide +kernel
theorem dL_areAlike_34 : decode cL_areAlike 34 = .ok (.invokevirtual 15, 3) := by decide +kernel
theorem dL_areAlike_37 : decode cL_areAlike 37 = .ok (.aload_n 1, 1) := by decide +kernel
theorem dL_areAlike_38 : decode cL_areAlike 38 = .ok (.iconst 5, 1) := by decide +kernel
theorem dL_areAlike_39 : decode cL_areAlike 39 = .ok (.invokevirtual 15, 3) := by decide +kernel
theorem dL_areAlike_42 : decode cL_areAlike 42 = .ok (.if_icmp .ne 44, 3) := by decide +kernel
theorem dL_areAlike_45 : decode cL_areAlike 45 = .ok (.aload_n 0, 1) := by decide +kernel
theorem dL_areAlike_46 : decode cL_areAlike 46 = .ok (.invokevirtual 55, 3) := by decide +kernel
theorem dL_areAlike_49 : decode cL_areAlike 49 = .ok (.aload_n 1, 1) := by decide +kernel
theorem dL_areAlike_50 : decode cL_areAlike 50 = .ok (.invokevirtual 55, 3) := by decide +kernel
theorem dL_areAlike_53 : decode cL_areAlike 53 = .ok (.if_icmp .ne 33, 3) := by decide +kernel
theorem dL_areAlike_56 : decode cL_areAlike 56 = .ok (.aload_n 0, 1) := by decide +kernel
theorem dL_areAlike_57 : decode cL_areAlike 57 = .ok (.iconst (-1), 1) := by decide +kernel
theorem dL_areAlike_58 : decode cL_areAlike 58 = .ok (.invokevirtual 58, 3) := by decide +kernel
theorem dL_areAlike_61 : decode cL_areAlike 61 = .ok (.aload_n 1, 1) := by decide +kernel
theorem dL_areAlike_62 : decode cL_areAlike 62 = .ok (.iconst (-1), 1) := by decide +kernel
theorem dL_areAlike_63 : decode cL_areAlike 63 = .ok (.invokevirtual 58, 3) := by decide +kernel
theorem dL_areAlike_66 : decode cL_areAlike 66 = .ok (.if_icmp .ne 20, 3) := by decide +kernel
theorem dL_areAlike_69 : decode cL_areAlike 69 = .ok (.aload_n 0, 1) := by decide +kernel
theorem dL_areAlike_70 : decode cL_areAlike 70 = .ok (.iconst 0, 1) := by decide +kernel
theorem dL_areAlike_71 : decode cL_areAlike 71 = .ok (.invokevirtual 58, 3) := by decide +kernel
theorem dL_areAlike_74 : decode cL_areAlike 74 = .ok (.aload_n 1, 1) := by decide +kernel
theorem dL_areAlike_75 : decode cL_areAlike 75 = .ok (.iconst 0, 1) := by decide +kernel
theorem dL_areAlike_76 : decode cL_areAlike 76 = .ok (.invokevirtual 58, 3) := by decide +kernel
theorem dL_areAlike_79 : decode cL_areAlike 79 = .ok (.if_icmp .ne 7, 3) := by decide +kernel
theorem dL_areAlike_82 : decode cL_areAlike 82 = .ok (.iconst 1, 1) := by decide +kernel
theorem dL_areAlike_83 : decode cL_areAlike 83 = .ok (.goto 4, 3) := by decide +kernel
theorem dL_areAlike_86 : decode cL_areAlike 86 = .ok (.iconst 0, 1) := by decide +kernel
theorem dL_areAlike_87 : decode cL_areAlike 87 = .ok (.istore 4, 2) := by decide +kernel
theorem dL_areAlike_89 : decode cL_areAlike 89 = .ok (.iconst 0, 1) := by decide +kernel
theorem dL_areAlike_90 : decode cL_areAlike 90 = .ok (.istore 5, 2) := by decide +kernel
theorem dL_areAlike_92 : decode cL_areAlike 92 = .ok (.iload 5, 2) := by decide +kernel
theorem dL_areAlike_94 : decode cL_areAlike 94 = .ok (.iconst 3, 1) := by decide +kernel
theorem dL_areAlike_95 : decode cL_areAlike 95 = .ok (.if_icmp .ge 36, 3) := by decide +kernel
theorem dL_areAlike_98 : decode cL_areAlike 98 = .ok (.iload 4, 2) := by decide +kernel
theorem dL_areAlike_100 : decode cL_areAlike 100 = .ok (.ifCond .eq 22, 3) := by decide +kernel
theorem dL_areAlike_103 : decode cL_areAlike 103 = .ok (.aload_n 0, 1) := by decide +kernel
theorem dL_areAlike_104 : decode cL_areAlike 104 = .ok (.iload 5, 2) := by decide +kernel
theorem dL_areAlike_106 : decode cL_areAlike 106 = .ok (.invokevirtual 61, 3) := by decide +kernel
theorem dL_areAlike_109 : decode cL_areAlike 109 = .ok (.aload_n 1, 1) := by decide +kernel
theorem dL_areAlike_110 : decode cL_areAlike 110 = .ok (.iload 5, 2) := by decide +kernel
theorem dL_areAlike_112 : decode cL_areAlike 112 = .ok (.invokevirtual 61, 3) := by decide +kernel
theorem dL_areAlike_115 : decode cL_areAlike 115 = .ok (.if_icmp .ne 7, 3) := by decide +kernel
theorem dL_areAlike_118 : decode cL_areAlike 118 = .ok (.iconst 1, 1) := by decide +kernel
theorem dL_areAlike_119 : decode cL_areAlike 119 = .ok (.goto 4, 3) := by decide +kernel
theorem dL_areAlike_122 : decode cL_areAlike 122 = .ok (.iconst 0, 1) := by decide +kernel
theorem dL_areAlike_123 : decode cL_areAlike 123 = .ok (.istore 4, 2) := by decide +kernel
theorem dL_areAlike_125 : decode cL_areAlike 125 = .ok (.iinc 5 1, 3) := by decide +kernel
theorem dL_areAlike_128 : decode cL_areAlike 128 = .ok (.goto (-36), 3) := by decide +kernel
theorem dL_areAlike_131 : decode cL_areAlike 131 = .ok (.iconst 0, 1) := by decide +kernel
theorem dL_areAlike_132 : decode cL_areAlike 132 = .ok (.istore 5, 2) := by decide +kernel
theorem dL_areAlike_134 : decode cL_areAlike 134 = .ok (.iload 5, 2) := by decide +kernel
theorem dL_areAlike_136 : decode cL_areAlike 136 = .ok (.iload_n 3, 1) := by decide +kernel
theorem dL_areAlike_137 : decode cL_areAlike 137 = .ok (.if_icmp .ge 422, 3) := by decide +kernel
theorem dL_areAlike_140 : decode cL_areAlike 140 = .ok (.iload 4, 2) := by decide +kernel
theorem dL_areAlike_142 : decode cL_areAlike 142 = .ok (.ifCond .eq 417, 3) := by decide +kernel
theorem dL_areAlike_145 : decode cL_areAlike 145 = .ok (.aload_n 0, 1) := by decide +kernel
theorem dL_areAlike_146 : decode cL_areAlike 146 = .ok (.iload 5, 2) := by decide +kernel
theorem dL_areAlike_148 : decode cL_areAlike 148 = .ok (.bipush 8, 2) := by decide +kernel
theorem dL_areAlike_150 : decode cL_areAlike 150 = .ok (.invokevirtual 64, 3) := by decide +kernel
theorem dL_areAlike_153 : decode cL_areAlike 153 = .ok (.istore 6, 2) := by decide +kernel
theorem dL_areAlike_155 : decode cL_areAlike 155 = .ok (.aload_n 1, 1) := by decide +kernel
theorem dL_areAlike_156 : decode cL_areAlike 156 = .ok (.iload 5, 2) := by decide +kernel
theorem dL_areAlike_158 : decode cL_areAlike 158 = .ok (.bipush 8, 2) := by decide +kernel
theorem dL_areAlike_160 : decode cL_areAlike 160 = .ok (.invokevirtual 64, 3) := by decide +kernel
theorem dL_areAlike_163 : decode cL_areAlike 163 = .ok (.iload 6, 2) := by decide +kernel
theorem dL_areAlike_165 : decode cL_areAlike 165 = .ok (.invokestatic 67, 3) := by decide +kernel
theorem dL_areAlike_168 : decode cL_areAlike 168 = .ok (.if_icmp .ne 98, 3) := by decide +kernel
theorem dL_areAlike_171 : decode cL_areAlike 171 = .ok (.aload_n 1, 1) := by decide +kernel
theorem dL_areAlike_172 : decode cL_areAlike 172 = .ok (.iload 5, 2) := by decide +kernel
theorem dL_areAlike_174 : decode cL_areAlike 174 = .ok (.bipush 6, 2) := by decide +kernel
theorem dL_areAlike_176 : decode cL_areAlike 176 = .ok (.invokevirtual 64, 3) := by decide +kernel
theorem dL_areAlike_179 : decode cL_areAlike 179 = .ok (.aload_n 0, 1) := by decide +kernel
theorem dL_areAlike_180 : decode cL_areAlike 180 = .ok (.iload 5, 2) := by decide +kernel
theorem dL_areAlike_182 : decode cL_areAlike 182 = .ok (.bipush 6, 2) := by decide +kernel
theorem dL_areAlike_184 : decode cL_areAlike 184 = .ok (.invokevirtual 64, 3) := by decide +kernel
theorem dL_areAlike_187 : decode cL_areAlike 187 = .ok (.invokestatic 70, 3) := by decide +kernel
theorem dL_areAlike_190 : decode cL_areAlike 190 = .ok (.if_icmp .ne 76, 3) := by decide +kernel
theorem dL_areAlike_193 : decode cL_areAlike 193 = .ok (.aload_n 1, 1) := by decide +kernel
theorem dL_areAlike_194 : decode cL_areAlike 194 = .ok (.iload 5, 2) := by decide +kernel
theorem dL_areAlike_196 : decode cL_areAlike 196 = .ok (.bipush 7, 2) := by decide +kernel
theorem dL_areAlike_198 : decode cL_areAlike 198 = .ok (.invokevirtual 64, 3) := by decide +kernel
theorem dL_areAlike_201 : decode cL_areAlike 201 = .ok (.aload_n 0, 1) := by decide +kernel
theorem dL_areAlike_202 : decode cL_areAlike 202 = .ok (.iload 5, 2) := by decide +kernel
theorem dL_areAlike_204 : decode cL_areAlike 204 = .ok (.bipush 7, 2) := by decide +kernel
theorem dL_areAlike_206 : decode cL_areAlike 206 = .ok (.invokevirtual 64, 3) := by decide +kernel
theorem dL_areAlike_209 : decode cL_areAlike 209 = .ok (.if_icmp .ne 57, 3) := by decide +kernel
theorem dL_areAlike_212 : decode cL_areAlike 212 = .ok (.aload_n 0, 1) := by decide +kernel
theorem dL_areAlike_213 : decode cL_areAlike 213 = .ok (.iload 5, 2) := by decide +kernel
theorem dL_areAlike_215 : decode cL_areAlike 215 = .ok (.iconst 1, 1) := by decide +kernel
theorem dL_areAlike_216 : decode cL_areAlike 216 = .ok (.invokevirtual 64, 3) := by decide +kernel
theorem dL_areAlike_219 : decode cL_areAlike 219 = .ok (.aload_n 1, 1) := by decide +kernel
theorem dL_areAlike_220 : decode cL_areAlike 220 = .ok (.iload 5, 2) := by decide +kernel
theorem dL_areAlike_222 : decode cL_areAlike 222 = .ok (.iconst 1, 1) := by decide +kernel
theorem dL_areAlike_223 : decode cL_areAlike 223 = .ok (.invokevirtual 64, 3) := by decide +kernel
theorem dL_areAlike_226 : decode cL_areAlike 226 = .ok (.if_icmp .ne 40, 3) := by decide +kernel
theorem dL_areAlike_229 : decode cL_areAlike 229 = .ok (.aload_n 0, 1) := by decide +kernel
theorem dL_areAlike_230 : decode cL_areAlike 230 = .ok (.iload 5, 2) := by decide +kernel
theorem dL_areAlike_232 : decode cL_areAlike 232 = .ok (.bipush 9, 2) := by decide +kernel
theorem dL_areAlike_234 : decode cL_areAlike 234 = .ok (.invokevirtual 64, 3) := by decide +kernel
theorem dL_areAlike_237 : decode cL_areAlike 237 = .ok (.iconst 1, 1) := by decide +kernel
theorem dL_areAlike_238 : decode cL_areAlike 238 = .ok (.if_icmp .ne 7, 3) := by decide +kernel
theorem dL_areAlike_241 : decode cL_areAlike 241 = .ok (.iconst 1, 1) := by decide +kernel
theorem dL_areAlike_242 : decode cL_areAlike 242 = .ok (.goto 4, 3) := by decide +kernel
theorem dL_areAlike_245 : decode cL_areAlike 245 = .ok (.iconst 0, 1) := by decide +kernel
theorem dL_areAlike_246 : decode cL_areAlike 246 = .ok (.iload 6, 2) := by decide +kernel
theorem dL_areAlike_248 : decode cL_areAlike 248 = .ok (.bipush 85, 2) := by decide +kernel
theorem dL_areAlike_250 : decode cL_areAlike 250 = .ok (.iand, 1) := by decide +kernel
theorem dL_areAlike_251 : decode cL_areAlike 251 = .ok (.ifCond .ne 7, 3) := by decide +kernel
theorem dL_areAlike_254 : decode cL_areAlike 254 = .ok (.iconst 1, 1) := by decide +kernel
theorem dL_areAlike_255 : decode cL_areAlike 255 = .ok (.goto 4, 3) := by decide +kernel
theorem dL_areAlike_258 : decode cL_areAlike 258 = .ok (.iconst 0, 1) := by decide +kernel
theorem dL_areAlike_259 : decode cL_areAlike 259 = .ok (.if_icmp .ne 7, 3) := by decide +kernel
theorem dL_areAlike_262 : decode cL_areAlike 262 = .ok (.iconst 1, 1) := by decide +kernel
theorem dL_areAlike_263 : decode cL_areAlike 263 = .ok (.goto 4, 3) := by decide +kernel
theorem dL_areAlike_266 : decode cL_areAlike 266 = .ok (.iconst 0, 1) := by decide +kernel
theorem dL_areAlike_267 : decode cL_areAlike 267 = .ok (.istore 4, 2) := by decide +kernel
theorem dL_areAlike_269 : decode cL_areAlike 269 = .ok (.iconst 0, 1) := by decide +kernel
theorem dL_areAlike_270 : decode cL_areAlike 270 = .ok (.istore 7, 2) := by decide +kernel
theorem dL_areAlike_272 : decode cL_areAlike 272 = .ok (.iload 7, 2) := by decide +kernel
theorem dL_areAlike_274 : decode cL_areAlike 274 = .ok (.iload_n 3, 1) := by decide +kernel
theorem dL_areAlike_275 : decode cL_areAlike 275 = .ok (.if_icmp .ge 120, 3) := by decide +kernel
theorem dL_areAlike_278 : decode cL_areAlike 278 = .ok (.iload 4, 2) := by decide +kernel
theorem dL_areAlike_280 : decode cL_areAlike 280 = .ok (.ifCond .eq 115, 3) := by decide +kernel
theorem dL_areAlike_283 : decode cL_areAlike 283 = .ok (.iload 7, 2) := by decide +kernel
theorem dL_areAlike_285 : decode cL_areAlike 285 = .ok (.iload 5, 2) := by decide +kernel
theorem dL_areAlike_287 : decode cL_areAlike 287 = .ok (.if_icmp .eq 95, 3) := by decide +kernel
theorem dL_areAlike_290 : decode cL_areAlike 290 = .ok (.aload_n 0, 1) := by decide +kernel
theorem dL_areAlike_291 : decode cL_areAlike 291 = .ok (.iload 5, 2) := by decide +kernel
theorem dL_areAlike_293 : decode cL_areAlike 293 = .ok (.bipush 7, 2) := by decide +kernel
theorem dL_areAlike_295 : decode cL_areAlike 295 = .ok (.invokevirtual 64, 3) := by decide +kernel
theorem dL_areAlike_298 : decode cL_areAlike 298 = .ok (.iload 7, 2) := by decide +kernel
theorem dL_areAlike_300 : decode cL_areAlike 300 = .ok (.ishr, 1) := by decide +kernel
theorem dL_areAlike_301 : decode cL_areAlike 301 = .ok (.iconst 1, 1) := by decide +kernel
theorem dL_areAlike_302 : decode cL_areAlike 302 = .ok (.iand, 1) := by decide +kernel
theorem dL_areAlike_303 : decode cL_areAlike 303 = .ok (.aload_n 0, 1) := by decide +kernel
theorem dL_areAlike_304 : decode cL_areAlike 304 = .ok (.iload 7, 2) := by decide +kernel
theorem dL_areAlike_306 : decode cL_areAlike 306 = .ok (.bipush 7, 2) := by decide +kernel
theorem dL_areAlike_308 : decode cL_areAlike 308 = .ok (.invokevirtual 64, 3) := by decide +kernel
theorem dL_areAlike_311 : decode cL_areAlike 311 = .ok (.iload 5, 2) := by decide +kernel
theorem dL_areAlike_313 : decode cL_areAlike 313 = .ok (.ishr, 1) := by decide +kernel
theorem dL_areAlike_314 : decode cL_areAlike 314 = .ok (.iconst 1, 1) := by decide +kernel
theorem dL_areAlike_315 : decode cL_areAlike 315 = .ok (.iand, 1) := by decide +kernel
theorem dL_areAlike_316 : decode cL_areAlike 316 = .ok (.if_icmp .ne 70, 3) := by decide +kernel
theorem dL_areAlike_319 : decode cL_areAlike 319 = .ok (.aload_n 0, 1) := by decide +kernel
theorem dL_areAlike_320 : decode cL_areAlike 320 = .ok (.iload 5, 2) := by decide +kernel
theorem dL_areAlike_322 : decode cL_areAlike 322 = .ok (.iload 7, 2) := by decide +kernel
theorem dL_areAlike_324 : decode cL_areAlike 324 = .ok (.iconst 0, 1) := by decide +kernel
theorem dL_areAlike_325 : decode cL_areAlike 325 = .ok (.invokevirtual 73, 3) := by decide +kernel
theorem dL_areAlike_328 : decode cL_areAlike 328 = .ok (.aload_n 1, 1) := by decide +kernel
theorem dL_areAlike_329 : decode cL_areAlike 329 = .ok (.iload 5, 2) := by decide +kernel
theorem dL_areAlike_331 : decode cL_areAlike 331 = .ok (.iload 7, 2) := by decide +kernel
theorem dL_areAlike_333 : decode cL_areAlike 333 = .ok (.iconst 0, 1) := by decide +kernel
theorem dL_areAlike_334 : decode cL_areAlike 334 = .ok (.invokevirtual 73, 3) := by decide +kernel
theorem dL_areAlike_337 : decode cL_areAlike 337 = .ok (.if_icmp .ne 49, 3) := by decide +kernel
theorem dL_areAlike_340 : decode cL_areAlike 340 = .ok (.aload_n 0, 1) := by decide +kernel
theorem dL_areAlike_341 : decode cL_areAlike 341 = .ok (.iload 5, 2) := by decide +kernel
theorem dL_areAlike_343 : decode cL_areAlike 343 = .ok (.iload 7, 2) := by decide +kernel
theorem dL_areAlike_345 : decode cL_areAlike 345 = .ok (.iconst 1, 1) := by decide +kernel
theorem dL_areAlike_346 : decode cL_areAlike 346 = .ok (.invokevirtual 73, 3) := by decide +kernel
theorem dL_areAlike_349 : decode cL_areAlike 349 = .ok (.aload_n 1, 1) := by decide +kernel
theorem dL_areAlike_350 : decode cL_areAlike 350 = .ok (.iload 5, 2) := by decide +kernel
theorem dL_areAlike_352 : decode cL_areAlike 352 = .ok (.iload 7, 2) := by decide +kernel
theorem dL_areAlike_354 : decode cL_areAlike 354 = .ok (.iconst 1, 1) := by decide +kernel
theorem dL_areAlike_355 : decode cL_areAlike 355 = .ok (.invokevirtual 73, 3) := by decide +kernel
theorem dL_areAlike_358 : decode cL_areAlike 358 = .ok (.if_icmp .ne 28, 3) := by decide +kernel
theorem dL_areAlike_361 : decode cL_areAlike 361 = .ok (.aload_n 0, 1) := by decide +kernel
theorem dL_areAlike_362 : decode cL_areAlike 362 = .ok (.iload 5, 2) := by decide +kernel
theorem dL_areAlike_364 : decode cL_areAlike 364 = .ok (.iload 7, 2) := by decide +kernel
theorem dL_areAlike_366 : decode cL_areAlike 366 = .ok (.iconst 2, 1) := by decide +kernel
theorem dL_areAlike_367 : decode cL_areAlike 367 = .ok (.invokevirtual 73, 3) := by decide +kernel
theorem dL_areAlike_370 : decode cL_areAlike 370 = .ok (.aload_n 1, 1) := by decide +kernel
theorem dL_areAlike_371 : decode cL_areAlike 371 = .ok (.iload 5, 2) := by decide +kernel
theorem dL_areAlike_373 : decode cL_areAlike 373 = .ok (.iload 7, 2) := by decide +kernel
theorem dL_areAlike_375 : decode cL_areAlike 375 = .ok (.iconst 2, 1) := by decide +kernel
theorem dL_areAlike_376 : decode cL_areAlike 376 = .ok (.invokevirtual 73, 3) := by decide +kernel
theorem dL_areAlike_379 : decode cL_areAlike 379 = .ok (.if_icmp .ne 7, 3) := by decide +kernel
theorem dL_areAlike_382 : decode cL_areAlike 382 = .ok (.iconst 1, 1) := by decide +kernel
theorem dL_areAlike_383 : decode cL_areAlike 383 = .ok (.goto 4, 3) := by decide +kernel
theorem dL_areAlike_386 : decode cL_areAlike 386 = .ok (.iconst 0, 1) := by decide +kernel
theorem dL_areAlike_387 : decode cL_areAlike 387 = .ok (.istore 4, 2) := by decide +kernel
theorem dL_areAlike_389 : decode cL_areAlike 389 = .ok (.iinc 7 1, 3) := by decide +kernel
theorem dL_areAlike_392 : decode cL_areAlike 392 = .ok (.goto (-120), 3) := by decide +kernel
theorem dL_areAlike_395 : decode cL_areAlike 395 = .ok (.iload_n 2, 1) := by decide +kernel
theorem dL_areAlike_396 : decode cL_areAlike 396 = .ok (.iconst 3, 1) := by decide +kernel
theorem dL_areAlike_397 : decode cL_areAlike 397 = .ok (.ishr, 1) := by decide +kernel
theorem dL_areAlike_398 : decode cL_areAlike 398 = .ok (.bipush 8, 2) := by decide +kernel
theorem dL_areAlike_400 : decode cL_areAlike 400 = .ok (.invokestatic 18, 3) := by decide +kernel
theorem dL_areAlike_403 : decode cL_areAlike 403 = .ok (.istore 7, 2) := by decide +kernel
theorem dL_areAlike_405 : decode cL_areAlike 405 = .ok (.aload_n 0, 1) := by decide +kernel
theorem dL_areAlike_406 : decode cL_areAlike 406 = .ok (.iload 5, 2) := by decide +kernel
theorem dL_areAlike_408 : decode cL_areAlike 408 = .ok (.iload 7, 2) := by decide +kernel
theorem dL_areAlike_410 : decode cL_areAlike 410 = .ok (.iconst 0, 1) := by decide +kernel
theorem dL_areAlike_411 : decode cL_areAlike 411 = .ok (.invokevirtual 76, 3) := by decide +kernel
theorem dL_areAlike_414 : decode cL_areAlike 414 = .ok (.istore 8, 2) := by decide +kernel
theorem dL_areAlike_416 : decode cL_areAlike 416 = .ok (.iload 4, 2) := by decide +kernel
theorem dL_areAlike_418 : decode cL_areAlike 418 = .ok (.ifCond .eq 132, 3) := by decide +kernel
theorem dL_areAlike_421 : decode cL_areAlike 421 = .ok (.iload 8, 2) := by decide +kernel
theorem dL_areAlike_423 : decode cL_areAlike 423 = .ok (.aload_n 1, 1) := by decide +kernel
theorem dL_areAlike_424 : decode cL_areAlike 424 = .ok (.iload 5, 2) := by decide +kernel
theorem dL_areAlike_426 : decode cL_areAlike 426 = .ok (.iload 7, 2) := by decide +kernel
theorem dL_areAlike_428 : decode cL_areAlike 428 = .ok (.iconst 2, 1) := by decide +kernel
theorem dL_areAlike_429 : decode cL_areAlike 429 = .ok (.iadd, 1) := by decide +kernel
theorem dL_areAlike_430 : decode cL_areAlike 430 = .ok (.bipush 8, 2) := by decide +kernel
theorem dL_areAlike_432 : decode cL_areAlike 432 = .ok (.irem, 1) := by decide +kernel
theorem dL_areAlike_433 : decode cL_areAlike 433 = .ok (.iconst 0, 1) := by decide +kernel
theorem dL_areAlike_434 : decode cL_areAlike 434 = .ok (.invokevirtual 76, 3) := by decide +kernel
theorem dL_areAlike_437 : decode cL_areAlike 437 = .ok (.if_icmp .ne 113, 3) := by decide +kernel
theorem dL_areAlike_440 : decode cL_areAlike 440 = .ok (.aload_n 0, 1) := by decide +kernel
theorem dL_areAlike_441 : decode cL_areAlike 441 = .ok (.iload 5, 2) := by decide +kernel
theorem dL_areAlike_443 : decode cL_areAlike 443 = .ok (.iload 7, 2) := by decide +kernel
theorem dL_areAlike_445 : decode cL_areAlike 445 = .ok (.iconst 1, 1) := by decide +kernel
theorem dL_areAlike_446 : decode cL_areAlike 446 = .ok (.invokevirtual 76, 3) := by decide +kernel
theorem dL_areAlike_449 : decode cL_areAlike 449 = .ok (.aload_n 1, 1) := by decide +kernel
theorem dL_areAlike_450 : decode cL_areAlike 450 = .ok (.iload 5, 2) := by decide +kernel
theorem dL_areAlike_452 : decode cL_areAlike 452 = .ok (.iload 7, 2) := by decide +kernel
theorem dL_areAlike_454 : decode cL_areAlike 454 = .ok (.iconst 2, 1) := by decide +kernel
theorem dL_areAlike_455 : decode cL_areAlike 455 = .ok (.iadd, 1) := by decide +kernel
theorem dL_areAlike_456 : decode cL_areAlike 456 = .ok (.bipush 8, 2) := by decide +kernel
theorem dL_areAlike_458 : decode cL_areAlike 458 = .ok (.irem, 1) := by decide +kernel
theorem dL_areAlike_459 : decode cL_areAlike 459 = .ok (.iconst 1, 1) := by decide +kernel
theorem dL_areAlike_460 : decode cL_areAlike 460 = .ok (.invokevirtual 76, 3) := by decide +kernel
theorem dL_areAlike_463 : decode cL_areAlike 463 = .ok (.if_icmp .ne 87, 3) := by decide +kernel
theorem dL_areAlike_466 : decode cL_areAlike 466 = .ok (.aload_n 0, 1) := by decide +kernel
theorem dL_areAlike_467 : decode cL_areAlike 467 = .ok (.iload 5, 2) := by decide +kernel
theorem dL_areAlike_469 : decode cL_areAlike 469 = .ok (.iload 7, 2) := by decide +kernel
theorem dL_areAlike_471 : decode cL_areAlike 471 = .ok (.iconst 2, 1) := by decide +kernel
theorem dL_areAlike_472 : decode cL_areAlike 472 = .ok (.invokevirtual 76, 3) := by decide +kernel
theorem dL_areAlike_475 : decode cL_areAlike 475 = .ok (.invokestatic 70, 3) := by decide +kernel
theorem dL_areAlike_478 : decode cL_areAlike 478 = .ok (.aload_n 1, 1) := by decide +kernel
theorem dL_areAlike_479 : decode cL_areAlike 479 = .ok (.iload 5, 2) := by decide +kernel
theorem dL_areAlike_481 : decode cL_areAlike 481 = .ok (.iload 7, 2) := by decide +kernel
theorem dL_areAlike_483 : decode cL_areAlike 483 = .ok (.iconst 2, 1) := by decide +kernel
theorem dL_areAlike_484 : decode cL_areAlike 484 = .ok (.iadd, 1) := by decide +kernel
theorem dL_areAlike_485 : decode cL_areAlike 485 = .ok (.bipush 8, 2) := by decide +kernel
theorem dL_areAlike_487 : decode cL_areAlike 487 = .ok (.irem, 1) := by decide +kernel
theorem dL_areAlike_488 : decode cL_areAlike 488 = .ok (.iconst 2, 1) := by decide +kernel
theorem dL_areAlike_489 : decode cL_areAlike 489 = .ok (.invokevirtual 76, 3) := by decide +kernel
theorem dL_areAlike_492 : decode cL_areAlike 492 = .ok (.if_icmp .ne 58, 3) := by decide +kernel
theorem dL_areAlike_495 : decode cL_areAlike 495 = .ok (.iload 8, 2) := by decide +kernel
theorem dL_areAlike_497 : decode cL_areAlike 497 = .ok (.ifCond .le 7, 3) := by decide +kernel
theorem dL_areAlike_500 : decode cL_areAlike 500 = .ok (.iconst 1, 1) := by decide +kernel
theorem dL_areAlike_501 : decode cL_areAlike 501 = .ok (.goto 4, 3) := by decide +kernel
theorem dL_areAlike_504 : decode cL_areAlike 504 = .ok (.iconst 0, 1) := by decide +kernel
theorem dL_areAlike_505 : decode cL_areAlike 505 = .ok (.iload 6, 2) := by decide +kernel
theorem dL_areAlike_507 : decode cL_areAlike 507 = .ok (.iload 7, 2) := by decide +kernel
theorem dL_areAlike_509 : decode cL_areAlike 509 = .ok (.ishr, 1) := by decide +kernel
theorem dL_areAlike_510 : decode cL_areAlike 510 = .ok (.iconst 1, 1) := by decide +kernel
theorem dL_areAlike_511 : decode cL_areAlike 511 = .ok (.iand, 1) := by decide +kernel
theorem dL_areAlike_512 : decode cL_areAlike 512 = .ok (.iconst 1, 1) := by decide +kernel
theorem dL_areAlike_513 : decode cL_areAlike 513 = .ok (.if_icmp .ne 7, 3) := by decide +kernel
theorem dL_areAlike_516 : decode cL_areAlike 516 = .ok (.iconst 1, 1) := by decide +kernel
theorem dL_areAlike_517 : decode cL_areAlike 517 = .ok (.goto 4, 3) := by decide +kernel
theorem dL_areAlike_520 : decode cL_areAlike 520 = .ok (.iconst 0, 1) := by decide +kernel
theorem dL_areAlike_521 : decode cL_areAlike 521 = .ok (.if_icmp .ne 29, 3) := by decide +kernel
theorem dL_areAlike_524 : decode cL_areAlike 524 = .ok (.aload_n 0, 1) := by decide +kernel
theorem dL_areAlike_525 : decode cL_areAlike 525 = .ok (.iload 5, 2) := by decide +kernel
theorem dL_areAlike_527 : decode cL_areAlike 527 = .ok (.iload 7, 2) := by decide +kernel
theorem dL_areAlike_529 : decode cL_areAlike 529 = .ok (.iconst 1, 1) := by decide +kernel
theorem dL_areAlike_530 : decode cL_areAlike 530 = .ok (.invokevirtual 76, 3) := by decide +kernel
theorem dL_areAlike_533 : decode cL_areAlike 533 = .ok (.aload_n 0, 1) := by decide +kernel
theorem dL_areAlike_534 : decode cL_areAlike 534 = .ok (.iload 5, 2) := by decide +kernel
theorem dL_areAlike_536 : decode cL_areAlike 536 = .ok (.iload 7, 2) := by decide +kernel
theorem dL_areAlike_538 : decode cL_areAlike 538 = .ok (.iconst 2, 1) := by decide +kernel
theorem dL_areAlike_539 : decode cL_areAlike 539 = .ok (.invokevirtual 76, 3) := by decide +kernel
theorem dL_areAlike_542 : decode cL_areAlike 542 = .ok (.iadd, 1) := by decide +kernel
theorem dL_areAlike_543 : decode cL_areAlike 543 = .ok (.ifCond .le 7, 3) := by decide +kernel
theorem dL_areAlike_546 : decode cL_areAlike 546 = .ok (.iconst 1, 1) := by decide +kernel
theorem dL_areAlike_547 : decode cL_areAlike 547 = .ok (.goto 4, 3) := by decide +kernel
theorem dL_areAlike_550 : decode cL_areAlike 550 = .ok (.iconst 0, 1) := by decide +kernel
theorem dL_areAlike_551 : decode cL_areAlike 551 = .ok (.istore 4, 2) := by decide +kernel
theorem dL_areAlike_553 : decode cL_areAlike 553 = .ok (.iinc 5 1, 3) := by decide +kernel
theorem dL_areAlike_556 : decode cL_areAlike 556 = .ok (.goto (-422), 3) := by decide +kernel
theorem dL_areAlike_559 : decode cL_areAlike 559 = .ok (.iload 4, 2) := by decide +kernel
theorem dL_areAlike_561 : decode cL_areAlike 561 = .ok (.ireturn, 1) := by decide +kernel
set_option maxRecDepth 20000 in
theorem ggL_isSettled_L_up : GoodIn wsL_isSettled wsL_up := goodIn_r _ [5, 6] (by decide +kernel) (by decide +kernel)
set_option maxRecDepth 20000 in
theorem gL_isSettled_L_up : GoodIn wsL_isSettled (va_wsS RL 18 yL_up wsL_up) := goodIn_app (goodIn_of _ (by decide +kernel)) ggL_isSettled_L_up
set_option maxRecDepth 20000 in
theorem ggL_isSettled_X4_count : GoodIn wsL_isSettled wsX4_count := goodIn_r _ [11, 12, 13, 14, 15, 16, 17, 18, 19, 20, 21, 22, 23, 24, 25, 26, 27, 28, 29, 30, 31, 32, 33, 34, 35, 36, 37, 38, 39, 40, 41, 42, 43, 44, 45, 46, 47, 48, 49, 50, 51, 52, 53, 54, 55, 56, 57, 58, 59, 60, 61, 62, 63, 64, 65, 66, 67, 68, 69, 70, 71, 72, 73, 74, 75, 76, 77, 78, 79, 80, 81, 82, 83, 10, 84, 85, 86, 87, 88, 89, 90, 91, 217, 218, 219, 220, 221, 222, 223, 224, 225, 226, 227, 228, 229, 230, 231, 232, 233, 234, 235, 236, 237, 238, 239, 240] (by decide +kernel) (by decide +kernel)
set_option maxRecDepth 20000 in
theorem gL_isSettled_X4_count : GoodIn wsL_isSettled (wsV RL 15 RX4 yX4_count wsX4_count) := goodIn_app (goodIn_of _ (by decide +kernel)) ggL_isSettled_X4_count
set_option maxRecDepth 20000 in
theorem ggL_isSettled_X4_keystone : GoodIn wsL_isSettled wsX4_keystone := goodIn_r _ [95, 20, 96, 12, 13, 97, 98, 99, 10, 100, 101, 102, 103, 24, 104, 26, 105, 106, 27, 28, 29, 30, 31, 32, 107, 108, 109, 36, 110, 38, 43, 44, 45, 46, 47, 48, 49, 50, 51, 52, 111, 112, 113, 114, 115, 116, 117, 118, 119, 120, 121, 122, 123, 124, 125, 126, 127, 128, 129, 130, 131, 132, 133, 134, 135, 136, 137, 138, 139, 140, 141, 142, 143, 144, 145, 74, 67, 68, 69, 146, 147, 148, 149, 80, 81, 82, 150, 151, 152, 153, 154, 155, 156, 157, 158, 159, 160, 161, 70, 71, 72, 73, 75, 76, 77, 78, 79, 39, 40, 41, 42, 83, 84, 162, 163, 164, 165, 217, 218, 219, 220, 221, 222, 223, 224, 225, 226, 238, 239, 240] (by decide +kernel) (by decide +kernel)
set_option maxRecDepth 20000 in
theorem gL_isSettled_X4_keystone : GoodIn wsL_isSettled (wsV RL 79 RX4 yX4_keystone wsX4_keystone) := goodIn_app (goodIn_of _ (by decide +kernel)) ggL_isSettled_X4_keystone
set_option maxRecDepth 20000 in
theorem ggL_isSettled_X4_remove : GoodIn wsL_isSettled wsX4_remove := goodIn_r _ [169, 12, 20, 16, 13, 170, 171, 172, 24, 173, 26, 174, 175, 176, 177, 178, 179, 180, 181, 182, 183, 184, 185, 186, 187, 102, 103, 104, 105, 106, 27, 28, 29, 30, 31, 32, 107, 108, 109, 36, 110, 38, 43, 44, 45, 46, 47, 48, 49, 50, 51, 52, 111, 112, 113, 114, 115, 116, 117, 118, 217, 218, 219, 220, 221, 222, 223, 224, 225, 226, 227, 228, 229, 230, 238, 239, 240] (by decide +kernel) (by decide +kernel)
set_option maxRecDepth 20000 in
theorem gL_isSettled_X4_remove : GoodIn wsL_isSettled (wsV RL 49 RX4 yX4_remove wsX4_remove) := goodIn_app (goodIn_of _ (by decide +kernel)) ggL_isSettled_X4_remove
set_option maxRecDepth 20000 in
theorem ggL_isSettled_X4_settle : GoodIn wsL_isSettled wsX4_settle := goodIn_r _ [191, 20, 16, 12, 98, 99, 10, 100, 174, 175, 176, 177, 178, 179, 180, 181, 182, 183, 184, 185, 186, 187, 102, 103, 24, 104, 26, 105, 106, 27, 28, 29, 30, 31, 32, 107, 108, 109, 36, 110, 38, 43, 44, 45, 46, 47, 48, 49, 50, 51, 52, 111, 112, 113, 114, 119, 120, 121, 122, 123, 124, 125, 126, 127, 128, 129, 130, 131, 132, 133, 134, 135, 136, 137, 138, 139, 140, 141, 142, 143, 144, 145, 74, 67, 68, 69, 146, 147, 148, 149, 80, 81, 82, 150, 151, 152, 153, 154, 155, 156, 157, 158, 159, 160, 161, 70, 71, 72, 73, 75, 76, 77, 78, 79, 39, 40, 41, 42, 83, 84, 162, 163, 164, 165, 217, 218, 219, 220, 227, 228, 229, 230, 221, 222, 223, 224, 225, 226, 238, 239, 240] (by decide +kernel) (by decide +kernel)
set_option maxRecDepth 20000 in
theorem gL_isSettled_X4_settle : GoodIn wsL_isSettled (wsV RL 46 RX4 yX4_settle wsX4_settle) := goodIn_app (goodIn_of _ (by decide +kernel)) ggL_isSettled_X4_settle
set_option maxRecDepth 20000 in
theorem ggL_isSettled_X4_undo : GoodIn wsL_isSettled wsX4_undo := goodIn_r _ [195, 16, 17, 196, 12, 197, 198, 199, 177, 200, 179, 181, 182, 183, 184, 180, 185, 186, 187, 102, 103, 24, 104, 26, 105, 106, 27, 28, 29, 30, 31, 32, 107, 108, 109, 36, 110, 38, 43, 44, 45, 46, 47, 48, 49, 50, 51, 52, 111, 112, 113, 114, 217, 218, 219, 220, 227, 228, 229, 230, 221, 222, 223, 224, 225, 226, 238, 239, 240] (by decide +kernel) (by decide +kernel)
set_option maxRecDepth 20000 in
theorem gL_isSettled_X4_undo : GoodIn wsL_isSettled (wsV RL 52 RX4 yX4_undo wsX4_undo) := goodIn_app (goodIn_of _ (by decide +kernel)) ggL_isSettled_X4_undo
set_option maxRecDepth 20000 in
theorem ggL_isSettled_X4_way : GoodIn wsL_isSettled wsX4_way := goodIn_r _ [204, 12, 20, 14, 15, 170, 171, 172, 24, 173, 26, 98, 99, 10, 100, 205, 124, 125, 126, 127, 105, 106, 27, 28, 29, 30, 31, 32, 107, 108, 109, 36, 110, 38, 43, 44, 45, 46, 47, 48, 49, 50, 51, 52, 111, 112, 113, 114, 128, 129, 130, 131, 132, 133, 134, 135, 136, 137, 138, 139, 140, 141, 142, 143, 144, 145, 74, 67, 68, 69, 146, 147, 148, 149, 80, 81, 82, 150, 151, 152, 153, 154, 155, 156, 157, 158, 159, 160, 161, 70, 71, 72, 73, 75, 76, 77, 78, 79, 39, 40, 41, 42, 83, 84, 206, 207, 208, 209, 210, 211, 217, 218, 219, 220, 221, 222, 223, 224, 225, 226, 238, 239, 240] (by decide +kernel) (by decide +kernel)
set_option maxRecDepth 20000 in
theorem gL_isSettled_X4_way : GoodIn wsL_isSettled (wsV RL 76 RX4 yX4_way wsX4_way) := goodIn_app (goodIn_of _ (by decide +kernel)) ggL_isSettled_X4_way
set_option maxRecDepth 20000 in
theorem ggL_isSettled_X4_slide : GoodIn wsL_isSettled wsX4_slide := goodIn_r _ [215, 12, 20, 196, 16, 170, 171, 172, 24, 173, 26, 98, 99, 10, 100, 205, 124, 125, 126, 127, 105, 106, 27, 28, 29, 30, 31, 32, 107, 108, 109, 36, 110, 38, 43, 44, 45, 46, 47, 48, 49, 50, 51, 52, 111, 112, 113, 114, 128, 129, 130, 131, 132, 133, 134, 135, 136, 137, 138, 139, 140, 141, 142, 143, 144, 145, 74, 67, 68, 69, 146, 147, 148, 149, 80, 81, 82, 150, 151, 152, 153, 154, 155, 156, 157, 158, 159, 160, 161, 70, 71, 72, 73, 75, 76, 77, 78, 79, 39, 40, 41, 42, 83, 84, 174, 175, 176, 177, 178, 179, 180, 181, 182, 183, 184, 185, 186, 187, 102, 103, 104, 216, 163, 164, 165, 217, 218, 219, 220, 221, 222, 223, 224, 225, 226, 238, 239, 240, 227, 228, 229, 230] (by decide +kernel) (by decide +kernel)
set_option maxRecDepth 20000 in
theorem gL_isSettled_X4_slide : GoodIn wsL_isSettled (wsV RL 42 RX4 yX4_slide wsX4_slide) := goodIn_app (goodIn_of _ (by decide +kernel)) ggL_isSettled_X4_slide
theorem dL_isSettled_0 : decode cL_isSettled 0 = .ok (.iload_n 2, 1) := by decide +kernel
theorem dL_isSettled_1 : decode cL_isSettled 1 = .ok (.bipush 8, 2) := by decide +kernel
theorem dL_isSettled_3 : decode cL_isSettled 3 = .ok (.invokestatic 18, 3) := by decide +kernel
theorem dL_isSettled_6 : decode cL_isSettled 6 = .ok (.istore_n 3, 1) := by decide +kernel
theorem dL_isSettled_7 : decode cL_isSettled 7 = .ok (.aload_n 0, 1) := by decide +kernel
theorem dL_isSettled_8 : decode cL_isSettled 8 = .ok (.iconst 0, 1) := by decide +kernel
theorem dL_isSettled_9 : decode cL_isSettled 9 = .ok (.invokevirtual 15, 3) := by decide +kernel
theorem dL_isSettled_12 : decode cL_isSettled 12 = .ok (.istore 4, 2) := by decide +kernel
theorem dL_isSettled_14 : decode cL_isSettled 14 = .ok (.aload_n 0, 1) := by decide +kernel
theorem dL_isSettled_15 : decode cL_isSettled 15 = .ok (.iload_n 3, 1) := by decide +kernel
theorem dL_isSettled_16 : decode cL_isSettled 16 = .ok (.iconst 0, 1) := by decide +kernel
theorem dL_isSettled_17 : decode cL_isSettled 17 = .ok (.invokevirtual 79, 3) := by decide +kernel
theorem dL_isSettled_20 : decode cL_isSettled 20 = .ok (.istore 5, 2) := by decide +kernel
theorem dL_isSettled_22 : decode cL_isSettled 22 = .ok (.aload_n 0, 1) := by decide +kernel
theorem dL_isSettled_23 : decode cL_isSettled 23 = .ok (.iload_n 3, 1) := by decide +kernel
theorem dL_isSettled_24 : decode cL_isSettled 24 = .ok (.iconst 1, 1) := by decide +kernel
theorem dL_isSettled_25 : decode cL_isSettled 25 = .ok (.invokevirtual 79, 3) := by decide +kernel
theorem dL_isSettled_28 : decode cL_isSettled 28 = .ok (.istore 6, 2) := by decide +kernel
theorem dL_isSettled_30 : decode cL_isSettled 30 = .ok (.iload 5, 2) := by decide +kernel
theorem dL_isSettled_32 : decode cL_isSettled 32 = .ok (.aload_n 1, 1) := by decide +kernel
theorem dL_isSettled_33 : decode cL_isSettled 33 = .ok (.iload_n 3, 1) := by decide +kernel
theorem dL_isSettled_34 : decode cL_isSettled 34 = .ok (.iconst 2, 1) := by decide +kernel
theorem dL_isSettled_35 : decode cL_isSettled 35 = .ok (.iadd, 1) := by decide +kernel
theorem dL_isSettled_36 : decode cL_isSettled 36 = .ok (.bipush 8, 2) := by decide +kernel
theorem dL_isSettled_38 : decode cL_isSettled 38 = .ok (.irem, 1) := by decide +kernel
theorem dL_isSettled_39 : decode cL_isSettled 39 = .ok (.iconst 0, 1) := by decide +kernel
theorem dL_isSettled_40 : decode cL_isSettled 40 = .ok (.invokevirtual 79, 3) := by decide +kernel
theorem dL_isSettled_43 : decode cL_isSettled 43 = .ok (.if_icmp .ne 23, 3) := by decide +kernel
theorem dL_isSettled_46 : decode cL_isSettled 46 = .ok (.iload 6, 2) := by decide +kernel
theorem dL_isSettled_48 : decode cL_isSettled 48 = .ok (.aload_n 1, 1) := by decide +kernel
theorem dL_isSettled_49 : decode cL_isSettled 49 = .ok (.iload_n 3, 1) := by decide +kernel
theorem dL_isSettled_50 : decode cL_isSettled 50 = .ok (.iconst 2, 1) := by decide +kernel
theorem dL_isSettled_51 : decode cL_isSettled 51 = .ok (.iadd, 1) := by decide +kernel
theorem dL_isSettled_52 : decode cL_isSettled 52 = .ok (.bipush 8, 2) := by decide +kernel
theorem dL_isSettled_54 : decode cL_isSettled 54 = .ok (.irem, 1) := by decide +kernel
theorem dL_isSettled_55 : decode cL_isSettled 55 = .ok (.iconst 1, 1) := by decide +kernel
theorem dL_isSettled_56 : decode cL_isSettled 56 = .ok (.invokevirtual 79, 3) := by decide +kernel
theorem dL_isSettled_59 : decode cL_isSettled 59 = .ok (.if_icmp .ne 7, 3) := by decide +kernel
theorem dL_isSettled_62 : decode cL_isSettled 62 = .ok (.iconst 1, 1) := by decide +kernel
theorem dL_isSettled_63 : decode cL_isSettled 63 = .ok (.goto 4, 3) := by decide +kernel
theorem dL_isSettled_66 : decode cL_isSettled 66 = .ok (.iconst 0, 1) := by decide +kernel
theorem dL_isSettled_67 : decode cL_isSettled 67 = .ok (.istore 7, 2) := by decide +kernel
theorem dL_isSettled_69 : decode cL_isSettled 69 = .ok (.iload 4, 2) := by decide +kernel
theorem dL_isSettled_71 : decode cL_isSettled 71 = .ok (.ifCond .le 62, 3) := by decide +kernel
theorem dL_isSettled_74 : decode cL_isSettled 74 = .ok (.iload 7, 2) := by decide +kernel
theorem dL_isSettled_76 : decode cL_isSettled 76 = .ok (.ifCond .eq 54, 3) := by decide +kernel
theorem dL_isSettled_79 : decode cL_isSettled 79 = .ok (.aload_n 0, 1) := by decide +kernel
theorem dL_isSettled_80 : decode cL_isSettled 80 = .ok (.iload 5, 2) := by decide +kernel
theorem dL_isSettled_82 : decode cL_isSettled 82 = .ok (.invokevirtual 49, 3) := by decide +kernel
theorem dL_isSettled_85 : decode cL_isSettled 85 = .ok (.iload 4, 2) := by decide +kernel
theorem dL_isSettled_87 : decode cL_isSettled 87 = .ok (.iconst 1, 1) := by decide +kernel
theorem dL_isSettled_88 : decode cL_isSettled 88 = .ok (.isub, 1) := by decide +kernel
theorem dL_isSettled_89 : decode cL_isSettled 89 = .ok (.if_icmp .ne 41, 3) := by decide +kernel
theorem dL_isSettled_92 : decode cL_isSettled 92 = .ok (.aload_n 0, 1) := by decide +kernel
theorem dL_isSettled_93 : decode cL_isSettled 93 = .ok (.iload_n 3, 1) := by decide +kernel
theorem dL_isSettled_94 : decode cL_isSettled 94 = .ok (.invokevirtual 46, 3) := by decide +kernel
theorem dL_isSettled_97 : decode cL_isSettled 97 = .ok (.iload 6, 2) := by decide +kernel
theorem dL_isSettled_99 : decode cL_isSettled 99 = .ok (.if_icmp .ne 31, 3) := by decide +kernel
theorem dL_isSettled_102 : decode cL_isSettled 102 = .ok (.aload_n 0, 1) := by decide +kernel
theorem dL_isSettled_103 : decode cL_isSettled 103 = .ok (.invokevirtual 52, 3) := by decide +kernel
theorem dL_isSettled_106 : decode cL_isSettled 106 = .ok (.ifCond .lt 24, 3) := by decide +kernel
theorem dL_isSettled_109 : decode cL_isSettled 109 = .ok (.aload_n 0, 1) := by decide +kernel
theorem dL_isSettled_110 : decode cL_isSettled 110 = .ok (.invokevirtual 52, 3) := by decide +kernel
theorem dL_isSettled_113 : decode cL_isSettled 113 = .ok (.ifCond .lt 17, 3) := by decide +kernel
theorem dL_isSettled_116 : decode cL_isSettled 116 = .ok (.aload_n 0, 1) := by decide +kernel
theorem dL_isSettled_117 : decode cL_isSettled 117 = .ok (.iconst 0, 1) := by decide +kernel
theorem dL_isSettled_118 : decode cL_isSettled 118 = .ok (.invokevirtual 15, 3) := by decide +kernel
theorem dL_isSettled_121 : decode cL_isSettled 121 = .ok (.iload 4, 2) := by decide +kernel
theorem dL_isSettled_123 : decode cL_isSettled 123 = .ok (.if_icmp .ne 7, 3) := by decide +kernel
theorem dL_isSettled_126 : decode cL_isSettled 126 = .ok (.iconst 1, 1) := by decide +kernel
theorem dL_isSettled_127 : decode cL_isSettled 127 = .ok (.goto 4, 3) := by decide +kernel
theorem dL_isSettled_130 : decode cL_isSettled 130 = .ok (.iconst 0, 1) := by decide +kernel
theorem dL_isSettled_131 : decode cL_isSettled 131 = .ok (.istore 7, 2) := by decide +kernel
theorem dL_isSettled_133 : decode cL_isSettled 133 = .ok (.iload 7, 2) := by decide +kernel
theorem dL_isSettled_135 : decode cL_isSettled 135 = .ok (.ifCond .eq 23, 3) := by decide +kernel
theorem dL_isSettled_138 : decode cL_isSettled 138 = .ok (.aload_n 0, 1) := by decide +kernel
theorem dL_isSettled_139 : decode cL_isSettled 139 = .ok (.iload_n 3, 1) := by decide +kernel
theorem dL_isSettled_140 : decode cL_isSettled 140 = .ok (.invokevirtual 46, 3) := by decide +kernel
theorem dL_isSettled_143 : decode cL_isSettled 143 = .ok (.ifCond .lt 15, 3) := by decide +kernel
theorem dL_isSettled_146 : decode cL_isSettled 146 = .ok (.aload_n 0, 1) := by decide +kernel
theorem dL_isSettled_147 : decode cL_isSettled 147 = .ok (.iload_n 3, 1) := by decide +kernel
theorem dL_isSettled_148 : decode cL_isSettled 148 = .ok (.invokevirtual 46, 3) := by decide +kernel
theorem dL_isSettled_151 : decode cL_isSettled 151 = .ok (.ifCond .ne 7, 3) := by decide +kernel
theorem dL_isSettled_154 : decode cL_isSettled 154 = .ok (.iconst 1, 1) := by decide +kernel
theorem dL_isSettled_155 : decode cL_isSettled 155 = .ok (.goto 4, 3) := by decide +kernel
theorem dL_isSettled_158 : decode cL_isSettled 158 = .ok (.iconst 0, 1) := by decide +kernel
theorem dL_isSettled_159 : decode cL_isSettled 159 = .ok (.istore 7, 2) := by decide +kernel
theorem dL_isSettled_161 : decode cL_isSettled 161 = .ok (.iconst 0, 1) := by decide +kernel
theorem dL_isSettled_162 : decode cL_isSettled 162 = .ok (.istore 8, 2) := by decide +kernel
theorem dL_isSettled_164 : decode cL_isSettled 164 = .ok (.iload 8, 2) := by decide +kernel
theorem dL_isSettled_166 : decode cL_isSettled 166 = .ok (.iload 4, 2) := by decide +kernel
theorem dL_isSettled_168 : decode cL_isSettled 168 = .ok (.if_icmp .ge 45, 3) := by decide +kernel
theorem dL_isSettled_171 : decode cL_isSettled 171 = .ok (.iload 7, 2) := by decide +kernel
theorem dL_isSettled_173 : decode cL_isSettled 173 = .ok (.ifCond .eq 31, 3) := by decide +kernel
theorem dL_isSettled_176 : decode cL_isSettled 176 = .ok (.aload_n 0, 1) := by decide +kernel
theorem dL_isSettled_177 : decode cL_isSettled 177 = .ok (.iload 8, 2) := by decide +kernel
theorem dL_isSettled_179 : decode cL_isSettled 179 = .ok (.iload_n 3, 1) := by decide +kernel
theorem dL_isSettled_180 : decode cL_isSettled 180 = .ok (.iconst 0, 1) := by decide +kernel
theorem dL_isSettled_181 : decode cL_isSettled 181 = .ok (.invokevirtual 76, 3) := by decide +kernel
theorem dL_isSettled_184 : decode cL_isSettled 184 = .ok (.ifCond .ne 20, 3) := by decide +kernel
theorem dL_isSettled_187 : decode cL_isSettled 187 = .ok (.aload_n 0, 1) := by decide +kernel
theorem dL_isSettled_188 : decode cL_isSettled 188 = .ok (.iload 8, 2) := by decide +kernel
theorem dL_isSettled_190 : decode cL_isSettled 190 = .ok (.iload_n 3, 1) := by decide +kernel
theorem dL_isSettled_191 : decode cL_isSettled 191 = .ok (.iconst 1, 1) := by decide +kernel
theorem dL_isSettled_192 : decode cL_isSettled 192 = .ok (.invokevirtual 42, 3) := by decide +kernel
theorem dL_isSettled_195 : decode cL_isSettled 195 = .ok (.ldc 82, 2) := by decide +kernel
theorem dL_isSettled_197 : decode cL_isSettled 197 = .ok (.if_icmp .ne 7, 3) := by decide +kernel
theorem dL_isSettled_200 : decode cL_isSettled 200 = .ok (.iconst 1, 1) := by decide +kernel
theorem dL_isSettled_201 : decode cL_isSettled 201 = .ok (.goto 4, 3) := by decide +kernel
theorem dL_isSettled_204 : decode cL_isSettled 204 = .ok (.iconst 0, 1) := by decide +kernel
theorem dL_isSettled_205 : decode cL_isSettled 205 = .ok (.istore 7, 2) := by decide +kernel
theorem dL_isSettled_207 : decode cL_isSettled 207 = .ok (.iinc 8 1, 3) := by decide +kernel
theorem dL_isSettled_210 : decode cL_isSettled 210 = .ok (.goto (-46), 3) := by decide +kernel
theorem dL_isSettled_213 : decode cL_isSettled 213 = .ok (.iload 7, 2) := by decide +kernel
theorem dL_isSettled_215 : decode cL_isSettled 215 = .ok (.ifCond .eq 17, 3) := by decide +kernel
theorem dL_isSettled_218 : decode cL_isSettled 218 = .ok (.aload_n 0, 1) := by decide +kernel
theorem dL_isSettled_219 : decode cL_isSettled 219 = .ok (.iconst 0, 1) := by decide +kernel
theorem dL_isSettled_220 : decode cL_isSettled 220 = .ok (.invokevirtual 15, 3) := by decide +kernel
theorem dL_isSettled_223 : decode cL_isSettled 223 = .ok (.iload 4, 2) := by decide +kernel
theorem dL_isSettled_225 : decode cL_isSettled 225 = .ok (.if_icmp .ne 7, 3) := by decide +kernel
theorem dL_isSettled_228 : decode cL_isSettled 228 = .ok (.iconst 1, 1) := by decide +kernel
theorem dL_isSettled_229 : decode cL_isSettled 229 = .ok (.goto 4, 3) := by decide +kernel
theorem dL_isSettled_232 : decode cL_isSettled 232 = .ok (.iconst 0, 1) := by decide +kernel
theorem dL_isSettled_233 : decode cL_isSettled 233 = .ok (.ireturn, 1) := by decide +kernel
set_option maxRecDepth 20000 in
theorem ggL_law_X4_init : GoodIn wsL_law wsX4_init := goodIn_r _ [5, 6, 7, 8, 9, 10, 11, 12, 13, 14, 15, 16, 17, 18, 19, 20, 21, 22, 23, 24, 25, 26, 27, 28, 29, 30, 31, 32, 33, 34, 35, 36, 37, 38, 39, 40, 41, 42, 43, 44, 45, 46, 47, 48, 49, 50, 51, 52, 53, 54, 55, 56, 57, 58, 59, 60, 61, 62, 63, 64, 65, 66, 456, 457, 458, 459, 460, 461, 452, 453, 454, 455, 462, 463, 464, 465, 466, 467, 468, 469, 470, 471, 472, 473, 474, 475] (by decide +kernel) (by decide +kernel)
set_option maxRecDepth 20000 in
theorem gL_law_X4_init : GoodIn wsL_law (wsX4_init) := ggL_law_X4_init
set_option maxRecDepth 20000 in
theorem ggL_law_L_cell : GoodIn wsL_law wsL_cell := goodIn_r _ [70, 71] (by decide +kernel) (by decide +kernel)
set_option maxRecDepth 20000 in
theorem gL_law_L_cell : GoodIn wsL_law (va_wsS RL 84 yL_cell wsL_cell) := goodIn_app (goodIn_of _ (by decide +kernel)) ggL_law_L_cell
set_option maxRecDepth 20000 in
theorem ggL_law_L_up : GoodIn wsL_law wsL_up := goodIn_r _ [74, 75] (by decide +kernel) (by decide +kernel)
set_option maxRecDepth 20000 in
theorem gL_law_L_up : GoodIn wsL_law (va_wsS RL 18 yL_up wsL_up) := goodIn_app (goodIn_of _ (by decide +kernel)) ggL_law_L_up
set_option maxRecDepth 20000 in
theorem ggL_law_X4_box : GoodIn wsL_law wsX4_box := goodIn_r _ [79, 80, 12, 81, 17, 82, 83, 84, 85, 2, 86, 87, 88, 89, 11, 90, 32, 91, 92, 93, 94, 27, 30, 95, 96, 97, 29, 98, 99, 100, 101, 102, 42, 103, 104, 105, 106, 107, 108, 109, 110, 40, 111, 112, 113, 114, 115, 116, 117, 118, 119, 120, 121, 122, 123, 124, 125, 41, 126, 127, 128, 129, 130, 131, 132, 16, 133, 51, 50, 134, 135, 136, 137, 48, 49, 138, 139, 140, 141, 33, 34, 142, 143, 144, 145, 146, 147, 148, 149, 452, 453, 454, 455, 456, 457, 458, 459, 460, 461, 473, 474, 475, 462, 463, 464, 465] (by decide +kernel) (by decide +kernel)
set_option maxRecDepth 20000 in
theorem gL_law_X4_box : GoodIn wsL_law (wsV RL 88 RX4 yX4_box wsX4_box) := goodIn_app (goodIn_of _ (by decide +kernel)) ggL_law_X4_box
set_option maxRecDepth 20000 in
theorem ggL_law_L_isStep_h : GoodIn wsL_law [.code yL_isStep cL_isStep 7 (some .boolean)] := goodIn_r _ [152] (by decide +kernel) (by decide +kernel)
set_option maxRecDepth 20000 in
theorem ggL_law_L_isStep_wsL_isStep_r1 : GoodIn wsL_law wsL_isStep_r1 := goodIn_r _ [153, 154, 155, 2, 156, 12, 157, 82, 83, 17, 158, 21, 159, 80, 160, 161, 162, 11, 163, 32, 91, 92, 93, 94] (by decide +kernel) (by decide +kernel)
set_option maxRecDepth 20000 in
theorem ggL_law_L_isStep_wsL_isStep_r2 : GoodIn wsL_law wsL_isStep_r2 := goodIn_r _ [27, 30, 164, 165, 166, 29, 167, 42, 168, 169, 170, 171, 107, 108, 109, 110, 40, 122, 123, 124, 125, 41, 172, 173] (by decide +kernel) (by decide +kernel)
set_option maxRecDepth 20000 in
theorem ggL_law_L_isStep_wsL_isStep_r3 : GoodIn wsL_law wsL_isStep_r3 := goodIn_r _ [174, 175, 176, 177, 178, 179, 180, 181, 182, 183, 184, 185, 104, 105, 106, 186, 187, 188, 189, 103, 190, 191, 192, 193] (by decide +kernel) (by decide +kernel)
set_option maxRecDepth 20000 in
theorem ggL_law_L_isStep_wsL_isStep_r4 : GoodIn wsL_law wsL_isStep_r4 := goodIn_r _ [194, 115, 116, 117, 195, 196, 197, 198, 199, 200, 201, 202, 203, 72, 73, 69, 74, 75, 204, 205, 206, 39, 207, 208] (by decide +kernel) (by decide +kernel)
set_option maxRecDepth 20000 in
theorem ggL_law_L_isStep_wsL_isStep_r5 : GoodIn wsL_law wsL_isStep_r5 := goodIn_r _ [209, 210, 211, 212, 213, 214, 215, 216, 217, 218, 219, 220, 221, 20, 222, 62, 58, 223, 224, 225, 226, 227, 228, 229] (by decide +kernel) (by decide +kernel)
set_option maxRecDepth 20000 in
theorem ggL_law_L_isStep_wsL_isStep_r6 : GoodIn wsL_law wsL_isStep_r6 := goodIn_r _ [230, 231, 232, 233, 234, 61, 60, 235, 236, 237, 238, 239, 240, 63, 64, 65, 241, 242, 243, 244, 245, 246, 247, 248] (by decide +kernel) (by decide +kernel)
set_option maxRecDepth 20000 in
theorem ggL_law_L_isStep_wsL_isStep_r7 : GoodIn wsL_law wsL_isStep_r7 := goodIn_r _ [249, 250, 251, 252, 253, 254, 255, 256, 257, 258, 259, 260, 261, 262, 263, 264, 265, 146, 147, 148, 149, 266, 267, 268] (by decide +kernel) (by decide +kernel)
set_option maxRecDepth 20000 in
theorem ggL_law_L_isStep_wsL_isStep_r8 : GoodIn wsL_law wsL_isStep_r8 := goodIn_r _ [269, 270, 271, 272, 273, 274, 275, 276, 277, 278, 279, 280, 281, 282, 283, 284, 285, 286, 287, 288, 289, 290, 291, 81] (by decide +kernel) (by decide +kernel)
set_option maxRecDepth 20000 in
theorem ggL_law_L_isStep_wsL_isStep_r9 : GoodIn wsL_law wsL_isStep_r9 := goodIn_r _ [292, 130, 131, 132, 16, 133, 51, 50, 134, 135, 136, 137, 48, 49, 138, 139, 140, 141, 33, 34, 142, 143, 144, 145] (by decide +kernel) (by decide +kernel)
set_option maxRecDepth 20000 in
theorem ggL_law_L_isStep_wsL_isStep_r10 : GoodIn wsL_law wsL_isStep_r10 := goodIn_r _ [293, 294, 295, 296, 297, 298, 299, 300, 301, 302, 303, 304, 305, 306, 307, 308, 309, 310, 311, 31, 312, 313, 314, 315] (by decide +kernel) (by decide +kernel)
set_option maxRecDepth 20000 in
theorem ggL_law_L_isStep_wsL_isStep_r11 : GoodIn wsL_law wsL_isStep_r11 := goodIn_r _ [316, 317, 318, 319, 320, 321, 95, 96, 97, 98, 99, 100, 101, 102, 111, 112, 113, 114, 118, 119, 120, 121, 126, 127] (by decide +kernel) (by decide +kernel)
set_option maxRecDepth 20000 in
theorem ggL_law_L_isStep_wsL_isStep_r12 : GoodIn wsL_law wsL_isStep_r12 := goodIn_r _ [128, 129, 322, 323, 324, 325, 326, 327, 328, 329, 330, 331, 332, 333, 334, 335, 336, 337, 338, 339, 340, 341, 342, 343] (by decide +kernel) (by decide +kernel)
set_option maxRecDepth 20000 in
theorem ggL_law_L_isStep_wsL_isStep_r13 : GoodIn wsL_law wsL_isStep_r13 := goodIn_r _ [344, 345, 346, 347, 348, 349, 350, 351, 352] (by decide +kernel) (by decide +kernel)
set_option maxRecDepth 20000 in
theorem ggL_law_L_isStep_wsX40 : GoodIn wsL_law wsX40 := goodIn_r _ [452, 453, 454, 455] (by decide +kernel) (by decide +kernel)
set_option maxRecDepth 20000 in
theorem ggL_law_L_isStep_wsX30 : GoodIn wsL_law wsX30 := goodIn_r _ [456, 457, 458, 459, 460, 461] (by decide +kernel) (by decide +kernel)
set_option maxRecDepth 20000 in
theorem ggL_law_L_isStep_wsX20 : GoodIn wsL_law wsX20 := goodIn_r _ [462, 463, 464, 465] (by decide +kernel) (by decide +kernel)
set_option maxRecDepth 20000 in
theorem ggL_law_L_isStep_wsX10 : GoodIn wsL_law wsX10 := goodIn_r _ [466, 467, 468, 469, 470, 471, 472] (by decide +kernel) (by decide +kernel)
set_option maxRecDepth 20000 in
theorem ggL_law_L_isStep_wsX00 : GoodIn wsL_law wsX00 := goodIn_r _ [473, 474, 475] (by decide +kernel) (by decide +kernel)
theorem ggL_law_L_isStep : GoodIn wsL_law wsL_isStep := goodIn_app ggL_law_L_isStep_h (goodIn_app (goodIn_app (goodIn_app (goodIn_app (goodIn_app (goodIn_app ggL_law_L_isStep_wsL_isStep_r1 (goodIn_app ggL_law_L_isStep_wsL_isStep_r2 (goodIn_app ggL_law_L_isStep_wsL_isStep_r3 (goodIn_app ggL_law_L_isStep_wsL_isStep_r4 (goodIn_app ggL_law_L_isStep_wsL_isStep_r5 (goodIn_app ggL_law_L_isStep_wsL_isStep_r6 (goodIn_app ggL_law_L_isStep_wsL_isStep_r7 (goodIn_app ggL_law_L_isStep_wsL_isStep_r8 (goodIn_app ggL_law_L_isStep_wsL_isStep_r9 (goodIn_app ggL_law_L_isStep_wsL_isStep_r10 (goodIn_app ggL_law_L_isStep_wsL_isStep_r11 (goodIn_app ggL_law_L_isStep_wsL_isStep_r12 ggL_law_L_isStep_wsL_isStep_r13)))))))))))) ggL_law_L_isStep_wsX40) ggL_law_L_isStep_wsX30) ggL_law_L_isStep_wsX20) ggL_law_L_isStep_wsX10) ggL_law_L_isStep_wsX00)
set_option maxRecDepth 20000 in
theorem gL_law_L_isStep : GoodIn wsL_law (va_wsS RL 91 yL_isStep wsL_isStep) := goodIn_app (goodIn_of _ (by decide +kernel)) ggL_law_L_isStep
set_option maxRecDepth 20000 in
theorem ggL_law_L_areAlike_h : GoodIn wsL_law [.code yL_areAlike cL_areAlike 9 (some .boolean)] := goodIn_r _ [355] (by decide +kernel) (by decide +kernel)
set_option maxRecDepth 20000 in
theorem ggL_law_L_areAlike_wsL_areAlike_r1 : GoodIn wsL_law wsL_areAlike_r1 := goodIn_r _ [153, 154, 155, 2, 156, 12, 157, 82, 83, 17, 158, 21, 159, 80, 160, 161, 162, 11, 163, 32, 91, 92, 93, 94] (by decide +kernel) (by decide +kernel)
set_option maxRecDepth 20000 in
theorem ggL_law_L_areAlike_wsL_areAlike_r2 : GoodIn wsL_law wsL_areAlike_r2 := goodIn_r _ [27, 30, 164, 165, 166, 29, 167, 42, 168, 169, 170, 171, 107, 108, 109, 110, 40, 122, 123, 124, 125, 41, 172, 173] (by decide +kernel) (by decide +kernel)
set_option maxRecDepth 20000 in
theorem ggL_law_L_areAlike_wsL_areAlike_r3 : GoodIn wsL_law wsL_areAlike_r3 := goodIn_r _ [174, 175, 176, 177, 178, 179, 180, 181, 182, 183, 184, 185, 104, 105, 106, 186, 187, 188, 189, 103, 190, 191, 192, 193] (by decide +kernel) (by decide +kernel)
set_option maxRecDepth 20000 in
theorem ggL_law_L_areAlike_wsL_areAlike_r4 : GoodIn wsL_law wsL_areAlike_r4 := goodIn_r _ [194, 115, 116, 117, 195, 196, 197, 198, 199, 200, 201, 202, 203, 356, 357, 358, 359, 360, 361, 362, 363, 364, 365, 366] (by decide +kernel) (by decide +kernel)
set_option maxRecDepth 20000 in
theorem ggL_law_L_areAlike_wsL_areAlike_r5 : GoodIn wsL_law wsL_areAlike_r5 := goodIn_r _ [367, 228, 368, 369, 370, 371, 286, 287, 372, 373, 374, 375, 376, 377, 378, 379, 335, 309, 310, 311, 31, 33, 34, 142] (by decide +kernel) (by decide +kernel)
set_option maxRecDepth 20000 in
theorem ggL_law_L_areAlike_wsL_areAlike_r6 : GoodIn wsL_law wsL_areAlike_r6 := goodIn_r _ [143, 144, 145, 146, 147, 148, 149, 312, 313, 314, 315, 316, 317, 318, 319, 320, 321, 95, 96, 97, 98, 99, 100, 101] (by decide +kernel) (by decide +kernel)
set_option maxRecDepth 20000 in
theorem ggL_law_L_areAlike_wsL_areAlike_r7 : GoodIn wsL_law wsL_areAlike_r7 := goodIn_r _ [102, 111, 112, 113, 114, 118, 119, 120, 121, 126, 127, 128, 129, 322, 283, 284, 285, 380, 381, 382, 383, 384, 385, 386] (by decide +kernel) (by decide +kernel)
set_option maxRecDepth 20000 in
theorem ggL_law_L_areAlike_wsL_areAlike_r8 : GoodIn wsL_law wsL_areAlike_r8 := goodIn_r _ [387, 388, 389, 390, 391, 392, 393, 394, 395, 396, 301, 302, 303, 304, 397, 398, 399, 400, 401, 402, 403, 404, 405, 406] (by decide +kernel) (by decide +kernel)
set_option maxRecDepth 20000 in
theorem ggL_law_L_areAlike_wsL_areAlike_r9 : GoodIn wsL_law wsL_areAlike_r9 := goodIn_r _ [407, 408, 409, 410, 411, 412, 413, 414, 415, 69, 416, 417, 418, 419, 420, 421, 422, 423, 424, 425, 426, 427, 428, 429] (by decide +kernel) (by decide +kernel)
set_option maxRecDepth 20000 in
theorem ggL_law_L_areAlike_wsL_areAlike_r10 : GoodIn wsL_law wsL_areAlike_r10 := goodIn_r _ [430, 431, 432, 72, 73, 74, 75, 433, 434, 435, 436, 305, 306, 307, 308, 437, 438, 439, 440, 441, 442] (by decide +kernel) (by decide +kernel)
set_option maxRecDepth 20000 in
theorem ggL_law_L_areAlike_wsX40 : GoodIn wsL_law wsX40 := goodIn_r _ [452, 453, 454, 455] (by decide +kernel) (by decide +kernel)
set_option maxRecDepth 20000 in
theorem ggL_law_L_areAlike_wsX30 : GoodIn wsL_law wsX30 := goodIn_r _ [456, 457, 458, 459, 460, 461] (by decide +kernel) (by decide +kernel)
set_option maxRecDepth 20000 in
theorem ggL_law_L_areAlike_wsX20 : GoodIn wsL_law wsX20 := goodIn_r _ [462, 463, 464, 465] (by decide +kernel) (by decide +kernel)
set_option maxRecDepth 20000 in
theorem ggL_law_L_areAlike_wsX10 : GoodIn wsL_law wsX10 := goodIn_r _ [466, 467, 468, 469, 470, 471, 472] (by decide +kernel) (by decide +kernel)
set_option maxRecDepth 20000 in
theorem ggL_law_L_areAlike_wsX00 : GoodIn wsL_law wsX00 := goodIn_r _ [473, 474, 475] (by decide +kernel) (by decide +kernel)
theorem ggL_law_L_areAlike : GoodIn wsL_law wsL_areAlike := goodIn_app ggL_law_L_areAlike_h (goodIn_app (goodIn_app (goodIn_app (goodIn_app (goodIn_app (goodIn_app ggL_law_L_areAlike_wsL_areAlike_r1 (goodIn_app ggL_law_L_areAlike_wsL_areAlike_r2 (goodIn_app ggL_law_L_areAlike_wsL_areAlike_r3 (goodIn_app ggL_law_L_areAlike_wsL_areAlike_r4 (goodIn_app ggL_law_L_areAlike_wsL_areAlike_r5 (goodIn_app ggL_law_L_areAlike_wsL_areAlike_r6 (goodIn_app ggL_law_L_areAlike_wsL_areAlike_r7 (goodIn_app ggL_law_L_areAlike_wsL_areAlike_r8 (goodIn_app ggL_law_L_areAlike_wsL_areAlike_r9 ggL_law_L_areAlike_wsL_areAlike_r10))))))))) ggL_law_L_areAlike_wsX40) ggL_law_L_areAlike_wsX30) ggL_law_L_areAlike_wsX20) ggL_law_L_areAlike_wsX10) ggL_law_L_areAlike_wsX00)
set_option maxRecDepth 20000 in
theorem gL_law_L_areAlike : GoodIn wsL_law (va_wsS RL 94 yL_areAlike wsL_areAlike) := goodIn_app (goodIn_of _ (by decide +kernel)) ggL_law_L_areAlike
set_option maxRecDepth 20000 in
theorem ggL_law_L_isSettled_h : GoodIn wsL_law [.code yL_isSettled cL_isSettled 9 (some .boolean)] := goodIn_r _ [445] (by decide +kernel) (by decide +kernel)
set_option maxRecDepth 20000 in
theorem ggL_law_L_isSettled_wsL_isSettled_r1 : GoodIn wsL_law wsL_isSettled_r1 := goodIn_r _ [446, 72, 73, 69, 74, 75, 153, 154, 155, 2, 156, 12, 157, 82, 83, 17, 158, 21, 159, 80, 160, 161, 162, 11] (by decide +kernel) (by decide +kernel)
set_option maxRecDepth 20000 in
theorem ggL_law_L_isSettled_wsL_isSettled_r2 : GoodIn wsL_law wsL_isSettled_r2 := goodIn_r _ [163, 32, 91, 92, 93, 94, 27, 30, 164, 165, 166, 29, 167, 42, 168, 169, 170, 171, 107, 108, 109, 110, 40, 122] (by decide +kernel) (by decide +kernel)
set_option maxRecDepth 20000 in
theorem ggL_law_L_isSettled_wsL_isSettled_r3 : GoodIn wsL_law wsL_isSettled_r3 := goodIn_r _ [123, 124, 125, 41, 172, 173, 174, 175, 176, 177, 178, 179, 180, 181, 182, 183, 184, 185, 104, 105, 106, 186, 187, 188] (by decide +kernel) (by decide +kernel)
set_option maxRecDepth 20000 in
theorem ggL_law_L_isSettled_wsL_isSettled_r4 : GoodIn wsL_law wsL_isSettled_r4 := goodIn_r _ [189, 103, 190, 191, 192, 193, 194, 115, 116, 117, 195, 196, 197, 198, 199, 200, 201, 202, 203, 447, 448, 449, 450, 228] (by decide +kernel) (by decide +kernel)
set_option maxRecDepth 20000 in
theorem ggL_law_L_isSettled_wsL_isSettled_r5 : GoodIn wsL_law wsL_isSettled_r5 := goodIn_r _ [13, 305, 306, 307, 451, 139, 140, 141, 33, 34, 142, 143, 144, 145, 146, 147, 148, 149, 341, 342, 343, 344, 331, 332] (by decide +kernel) (by decide +kernel)
set_option maxRecDepth 20000 in
theorem ggL_law_L_isSettled_wsL_isSettled_r6 : GoodIn wsL_law wsL_isSettled_r6 := goodIn_r _ [333, 334, 335, 309, 310, 311, 31, 312, 313, 314, 315, 316, 317, 318, 319, 320, 321, 95, 96, 97, 98, 99, 100, 101] (by decide +kernel) (by decide +kernel)
set_option maxRecDepth 20000 in
theorem ggL_law_L_isSettled_wsL_isSettled_r7 : GoodIn wsL_law wsL_isSettled_r7 := goodIn_r _ [102, 111, 112, 113, 114, 118, 119, 120, 121, 126, 127, 128, 129, 322, 283, 284, 285, 336, 324, 325, 326, 337, 338, 339] (by decide +kernel) (by decide +kernel)
set_option maxRecDepth 20000 in
theorem ggL_law_L_isSettled_wsL_isSettled_r8 : GoodIn wsL_law wsL_isSettled_r8 := goodIn_r _ [340, 301, 302, 303, 304, 130, 131, 132, 16, 133, 51, 50, 134, 135, 136, 137, 48, 49, 138, 327, 328, 329, 330, 345] (by decide +kernel) (by decide +kernel)
set_option maxRecDepth 20000 in
theorem ggL_law_L_isSettled_wsL_isSettled_r9 : GoodIn wsL_law wsL_isSettled_r9 := goodIn_r _ [346, 347, 348, 81, 349, 350, 351, 352, 433, 434, 435, 436, 308, 437, 438, 439, 440, 441, 442, 297, 298, 299, 300, 323] (by decide +kernel) (by decide +kernel)
set_option maxRecDepth 20000 in
theorem ggL_law_L_isSettled_wsX40 : GoodIn wsL_law wsX40 := goodIn_r _ [452, 453, 454, 455] (by decide +kernel) (by decide +kernel)
set_option maxRecDepth 20000 in
theorem ggL_law_L_isSettled_wsX30 : GoodIn wsL_law wsX30 := goodIn_r _ [456, 457, 458, 459, 460, 461] (by decide +kernel) (by decide +kernel)
set_option maxRecDepth 20000 in
theorem ggL_law_L_isSettled_wsX20 : GoodIn wsL_law wsX20 := goodIn_r _ [462, 463, 464, 465] (by decide +kernel) (by decide +kernel)
set_option maxRecDepth 20000 in
theorem ggL_law_L_isSettled_wsX10 : GoodIn wsL_law wsX10 := goodIn_r _ [466, 467, 468, 469, 470, 471, 472] (by decide +kernel) (by decide +kernel)
set_option maxRecDepth 20000 in
theorem ggL_law_L_isSettled_wsX00 : GoodIn wsL_law wsX00 := goodIn_r _ [473, 474, 475] (by decide +kernel) (by decide +kernel)
theorem ggL_law_L_isSettled : GoodIn wsL_law wsL_isSettled := goodIn_app ggL_law_L_isSettled_h (goodIn_app (goodIn_app (goodIn_app (goodIn_app (goodIn_app (goodIn_app ggL_law_L_isSettled_wsL_isSettled_r1 (goodIn_app ggL_law_L_isSettled_wsL_isSettled_r2 (goodIn_app ggL_law_L_isSettled_wsL_isSettled_r3 (goodIn_app ggL_law_L_isSettled_wsL_isSettled_r4 (goodIn_app ggL_law_L_isSettled_wsL_isSettled_r5 (goodIn_app ggL_law_L_isSettled_wsL_isSettled_r6 (goodIn_app ggL_law_L_isSettled_wsL_isSettled_r7 (goodIn_app ggL_law_L_isSettled_wsL_isSettled_r8 ggL_law_L_isSettled_wsL_isSettled_r9)))))))) ggL_law_L_isSettled_wsX40) ggL_law_L_isSettled_wsX30) ggL_law_L_isSettled_wsX20) ggL_law_L_isSettled_wsX10) ggL_law_L_isSettled_wsX00)
set_option maxRecDepth 20000 in
theorem gL_law_L_isSettled : GoodIn wsL_law (va_wsS RL 97 yL_isSettled wsL_isSettled) := goodIn_app (goodIn_of _ (by decide +kernel)) ggL_law_L_isSettled
theorem dL_law_0 : decode cL_law 0 = .ok (.new 10, 3) := by decide +kernel
theorem dL_law_3 : decode cL_law 3 = .ok (.dup, 1) := by decide +kernel
theorem dL_law_4 : decode cL_law 4 = .ok (.invokespecial 83, 3) := by decide +kernel
theorem dL_law_7 : decode cL_law 7 = .ok (.astore_n 1, 1) := by decide +kernel
theorem dL_law_8 : decode cL_law 8 = .ok (.new 10, 3) := by decide +kernel
theorem dL_law_11 : decode cL_law 11 = .ok (.dup, 1) := by decide +kernel
theorem dL_law_12 : decode cL_law 12 = .ok (.invokespecial 83, 3) := by decide +kernel
theorem dL_law_15 : decode cL_law 15 = .ok (.astore_n 2, 1) := by decide +kernel
theorem dL_law_16 : decode cL_law 16 = .ok (.bipush 18, 2) := by decide +kernel
theorem dL_law_18 : decode cL_law 18 = .ok (.aload_n 0, 1) := by decide +kernel
theorem dL_law_19 : decode cL_law 19 = .ok (.iconst 0, 1) := by decide +kernel
theorem dL_law_20 : decode cL_law 20 = .ok (.invokestatic 84, 3) := by decide +kernel
theorem dL_law_23 : decode cL_law 23 = .ok (.bipush 7, 2) := by decide +kernel
theorem dL_law_25 : decode cL_law 25 = .ok (.invokestatic 18, 3) := by decide +kernel
theorem dL_law_28 : decode cL_law 28 = .ok (.iadd, 1) := by decide +kernel
theorem dL_law_29 : decode cL_law 29 = .ok (.istore_n 3, 1) := by decide +kernel
theorem dL_law_30 : decode cL_law 30 = .ok (.bipush 18, 2) := by decide +kernel
theorem dL_law_32 : decode cL_law 32 = .ok (.aload_n 0, 1) := by decide +kernel
theorem dL_law_33 : decode cL_law 33 = .ok (.iconst 1, 1) := by decide +kernel
theorem dL_law_34 : decode cL_law 34 = .ok (.invokestatic 84, 3) := by decide +kernel
theorem dL_law_37 : decode cL_law 37 = .ok (.bipush 7, 2) := by decide +kernel
theorem dL_law_39 : decode cL_law 39 = .ok (.invokestatic 18, 3) := by decide +kernel
theorem dL_law_42 : decode cL_law 42 = .ok (.iadd, 1) := by decide +kernel
theorem dL_law_43 : decode cL_law 43 = .ok (.istore 4, 2) := by decide +kernel
theorem dL_law_45 : decode cL_law 45 = .ok (.aload_n 1, 1) := by decide +kernel
theorem dL_law_46 : decode cL_law 46 = .ok (.iload_n 3, 1) := by decide +kernel
theorem dL_law_47 : decode cL_law 47 = .ok (.iload 4, 2) := by decide +kernel
theorem dL_law_49 : decode cL_law 49 = .ok (.invokevirtual 88, 3) := by decide +kernel
theorem dL_law_52 : decode cL_law 52 = .ok (.sipush 2020, 3) := by decide +kernel
theorem dL_law_55 : decode cL_law 55 = .ok (.if_icmp .ne 20, 3) := by decide +kernel
theorem dL_law_58 : decode cL_law 58 = .ok (.aload_n 2, 1) := by decide +kernel
theorem dL_law_59 : decode cL_law 59 = .ok (.iload 4, 2) := by decide +kernel
theorem dL_law_61 : decode cL_law 61 = .ok (.iload_n 3, 1) := by decide +kernel
theorem dL_law_62 : decode cL_law 62 = .ok (.invokevirtual 88, 3) := by decide +kernel
theorem dL_law_65 : decode cL_law 65 = .ok (.sipush 2020, 3) := by decide +kernel
theorem dL_law_68 : decode cL_law 68 = .ok (.if_icmp .ne 7, 3) := by decide +kernel
theorem dL_law_71 : decode cL_law 71 = .ok (.iconst 1, 1) := by decide +kernel
theorem dL_law_72 : decode cL_law 72 = .ok (.goto 4, 3) := by decide +kernel
theorem dL_law_75 : decode cL_law 75 = .ok (.iconst 0, 1) := by decide +kernel
theorem dL_law_76 : decode cL_law 76 = .ok (.istore 5, 2) := by decide +kernel
theorem dL_law_78 : decode cL_law 78 = .ok (.iconst 2, 1) := by decide +kernel
theorem dL_law_79 : decode cL_law 79 = .ok (.istore 6, 2) := by decide +kernel
theorem dL_law_81 : decode cL_law 81 = .ok (.iload 6, 2) := by decide +kernel
theorem dL_law_83 : decode cL_law 83 = .ok (.bipush 30, 2) := by decide +kernel
theorem dL_law_85 : decode cL_law 85 = .ok (.if_icmp .ge 63, 3) := by decide +kernel
theorem dL_law_88 : decode cL_law 88 = .ok (.iload 5, 2) := by decide +kernel
theorem dL_law_90 : decode cL_law 90 = .ok (.ifCond .eq 58, 3) := by decide +kernel
theorem dL_law_93 : decode cL_law 93 = .ok (.aload_n 1, 1) := by decide +kernel
theorem dL_law_94 : decode cL_law 94 = .ok (.aload_n 2, 1) := by decide +kernel
theorem dL_law_95 : decode cL_law 95 = .ok (.aload_n 0, 1) := by decide +kernel
theorem dL_law_96 : decode cL_law 96 = .ok (.iload 6, 2) := by decide +kernel
theorem dL_law_98 : decode cL_law 98 = .ok (.invokestatic 84, 3) := by decide +kernel
theorem dL_law_101 : decode cL_law 101 = .ok (.invokestatic 91, 3) := by decide +kernel
theorem dL_law_104 : decode cL_law 104 = .ok (.istore 5, 2) := by decide +kernel
theorem dL_law_106 : decode cL_law 106 = .ok (.iload 5, 2) := by decide +kernel
theorem dL_law_108 : decode cL_law 108 = .ok (.ifCond .eq 31, 3) := by decide +kernel
theorem dL_law_111 : decode cL_law 111 = .ok (.iload 6, 2) := by decide +kernel
theorem dL_law_113 : decode cL_law 113 = .ok (.iconst 3, 1) := by decide +kernel
theorem dL_law_114 : decode cL_law 114 = .ok (.irem, 1) := by decide +kernel
theorem dL_law_115 : decode cL_law 115 = .ok (.ifCond .gt 20, 3) := by decide +kernel
theorem dL_law_118 : decode cL_law 118 = .ok (.aload_n 1, 1) := by decide +kernel
theorem dL_law_119 : decode cL_law 119 = .ok (.aload_n 2, 1) := by decide +kernel
theorem dL_law_120 : decode cL_law 120 = .ok (.aload_n 0, 1) := by decide +kernel
theorem dL_law_121 : decode cL_law 121 = .ok (.iload 6, 2) := by decide +kernel
theorem dL_law_123 : decode cL_law 123 = .ok (.invokestatic 84, 3) := by decide +kernel
theorem dL_law_126 : decode cL_law 126 = .ok (.bipush 7, 2) := by decide +kernel
theorem dL_law_128 : decode cL_law 128 = .ok (.ishr, 1) := by decide +kernel
theorem dL_law_129 : decode cL_law 129 = .ok (.invokestatic 94, 3) := by decide +kernel
theorem dL_law_132 : decode cL_law 132 = .ok (.ifCond .eq 7, 3) := by decide +kernel
theorem dL_law_135 : decode cL_law 135 = .ok (.iconst 1, 1) := by decide +kernel
theorem dL_law_136 : decode cL_law 136 = .ok (.goto 4, 3) := by decide +kernel
theorem dL_law_139 : decode cL_law 139 = .ok (.iconst 0, 1) := by decide +kernel
theorem dL_law_140 : decode cL_law 140 = .ok (.istore 5, 2) := by decide +kernel
theorem dL_law_142 : decode cL_law 142 = .ok (.iinc 6 1, 3) := by decide +kernel
theorem dL_law_145 : decode cL_law 145 = .ok (.goto (-64), 3) := by decide +kernel
theorem dL_law_148 : decode cL_law 148 = .ok (.iload 5, 2) := by decide +kernel
theorem dL_law_150 : decode cL_law 150 = .ok (.ifCond .eq 35, 3) := by decide +kernel
theorem dL_law_153 : decode cL_law 153 = .ok (.aload_n 1, 1) := by decide +kernel
theorem dL_law_154 : decode cL_law 154 = .ok (.aload_n 2, 1) := by decide +kernel
theorem dL_law_155 : decode cL_law 155 = .ok (.aload_n 0, 1) := by decide +kernel
theorem dL_law_156 : decode cL_law 156 = .ok (.bipush 30, 2) := by decide +kernel
theorem dL_law_158 : decode cL_law 158 = .ok (.invokestatic 84, 3) := by decide +kernel
theorem dL_law_161 : decode cL_law 161 = .ok (.invokestatic 94, 3) := by decide +kernel
theorem dL_law_164 : decode cL_law 164 = .ok (.ifCond .eq 21, 3) := by decide +kernel
theorem dL_law_167 : decode cL_law 167 = .ok (.aload_n 1, 1) := by decide +kernel
theorem dL_law_168 : decode cL_law 168 = .ok (.aload_n 2, 1) := by decide +kernel
theorem dL_law_169 : decode cL_law 169 = .ok (.aload_n 0, 1) := by decide +kernel
theorem dL_law_170 : decode cL_law 170 = .ok (.bipush 31, 2) := by decide +kernel
theorem dL_law_172 : decode cL_law 172 = .ok (.invokestatic 84, 3) := by decide +kernel
theorem dL_law_175 : decode cL_law 175 = .ok (.invokestatic 97, 3) := by decide +kernel
theorem dL_law_178 : decode cL_law 178 = .ok (.ifCond .eq 7, 3) := by decide +kernel
theorem dL_law_181 : decode cL_law 181 = .ok (.iconst 1, 1) := by decide +kernel
theorem dL_law_182 : decode cL_law 182 = .ok (.goto 4, 3) := by decide +kernel
theorem dL_law_185 : decode cL_law 185 = .ok (.iconst 0, 1) := by decide +kernel
theorem dL_law_186 : decode cL_law 186 = .ok (.ireturn, 1) := by decide +kernel
/-! ===== END printed: names ===== -/

