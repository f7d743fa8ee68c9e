theorem dL_cell_0 : decode cL_cell 0 = .ok (.iload_n 1, 1) := by decide +kernel
theorem dL_cell_1 : decode cL_cell 1 = .ok (.aload_n 0, 1) := by decide +kernel
theorem dL_cell_2 : decode cL_cell 2 = .ok (.arraylength, 1) := by decide +kernel
theorem dL_cell_3 : decode cL_cell 3 = .ok (.if_icmp .ge 9, 3) := by decide +kernel
theorem dL_cell_6 : decode cL_cell 6 = .ok (.aload_n 0, 1) := by decide +kernel
theorem dL_cell_7 : decode cL_cell 7 = .ok (.iload_n 1, 1) := by decide +kernel
theorem dL_cell_8 : decode cL_cell 8 = .ok (.iaload, 1) := by decide +kernel
theorem dL_cell_9 : decode cL_cell 9 = .ok (.goto 11, 3) := by decide +kernel
theorem dL_cell_12 : decode cL_cell 12 = .ok (.ldc 7, 2) := by decide +kernel
theorem dL_cell_14 : decode cL_cell 14 = .ok (.iload_n 1, 1) := by decide +kernel
theorem dL_cell_15 : decode cL_cell 15 = .ok (.imul, 1) := by decide +kernel
theorem dL_cell_16 : decode cL_cell 16 = .ok (.sipush 9587, 3) := by decide +kernel
theorem dL_cell_19 : decode cL_cell 19 = .ok (.iadd, 1) := by decide +kernel
theorem dL_cell_20 : decode cL_cell 20 = .ok (.ldc 8, 2) := by decide +kernel
theorem dL_cell_22 : decode cL_cell 22 = .ok (.iand, 1) := by decide +kernel
theorem dL_cell_23 : decode cL_cell 23 = .ok (.ireturn, 1) := by decide +kernel
theorem dL_rejects_0 : decode cL_rejects 0 = .ok (.aload_n 0, 1) := by decide +kernel
theorem dL_rejects_1 : decode cL_rejects 1 = .ok (.invokevirtual 9, 3) := by decide +kernel
theorem dL_rejects_4 : decode cL_rejects 4 = .ok (.istore_n 1, 1) := by decide +kernel
theorem dL_rejects_5 : decode cL_rejects 5 = .ok (.aload_n 0, 1) := by decide +kernel
theorem dL_rejects_6 : decode cL_rejects 6 = .ok (.sipush 256, 3) := by decide +kernel
theorem dL_rejects_9 : decode cL_rejects 9 = .ok (.invokevirtual 15, 3) := by decide +kernel
theorem dL_rejects_12 : decode cL_rejects 12 = .ok (.bipush (-2), 2) := by decide +kernel
theorem dL_rejects_14 : decode cL_rejects 14 = .ok (.if_icmp .ne 350, 3) := by decide +kernel
theorem dL_rejects_17 : decode cL_rejects 17 = .ok (.aload_n 0, 1) := by decide +kernel
theorem dL_rejects_18 : decode cL_rejects 18 = .ok (.iconst (-1), 1) := by decide +kernel
theorem dL_rejects_19 : decode cL_rejects 19 = .ok (.invokevirtual 15, 3) := by decide +kernel
theorem dL_rejects_22 : decode cL_rejects 22 = .ok (.bipush (-2), 2) := by decide +kernel
theorem dL_rejects_24 : decode cL_rejects 24 = .ok (.if_icmp .ne 340, 3) := by decide +kernel
theorem dL_rejects_27 : decode cL_rejects 27 = .ok (.aload_n 0, 1) := by decide +kernel
theorem dL_rejects_28 : decode cL_rejects 28 = .ok (.iload_n 1, 1) := by decide +kernel
theorem dL_rejects_29 : decode cL_rejects 29 = .ok (.iconst 3, 1) := by decide +kernel
theorem dL_rejects_30 : decode cL_rejects 30 = .ok (.invokevirtual 21, 3) := by decide +kernel
theorem dL_rejects_33 : decode cL_rejects 33 = .ok (.iconst (-1), 1) := by decide +kernel
theorem dL_rejects_34 : decode cL_rejects 34 = .ok (.if_icmp .ne 330, 3) := by decide +kernel
theorem dL_rejects_37 : decode cL_rejects 37 = .ok (.aload_n 0, 1) := by decide +kernel
theorem dL_rejects_38 : decode cL_rejects 38 = .ok (.iconst (-1), 1) := by decide +kernel
theorem dL_rejects_39 : decode cL_rejects 39 = .ok (.iconst 0, 1) := by decide +kernel
theorem dL_rejects_40 : decode cL_rejects 40 = .ok (.invokevirtual 21, 3) := by decide +kernel
theorem dL_rejects_43 : decode cL_rejects 43 = .ok (.iconst (-1), 1) := by decide +kernel
theorem dL_rejects_44 : decode cL_rejects 44 = .ok (.if_icmp .ne 320, 3) := by decide +kernel
theorem dL_rejects_47 : decode cL_rejects 47 = .ok (.aload_n 0, 1) := by decide +kernel
theorem dL_rejects_48 : decode cL_rejects 48 = .ok (.iload_n 1, 1) := by decide +kernel
theorem dL_rejects_49 : decode cL_rejects 49 = .ok (.bipush 21, 2) := by decide +kernel
theorem dL_rejects_51 : decode cL_rejects 51 = .ok (.iconst 0, 1) := by decide +kernel
theorem dL_rejects_52 : decode cL_rejects 52 = .ok (.invokevirtual 25, 3) := by decide +kernel
theorem dL_rejects_55 : decode cL_rejects 55 = .ok (.iconst (-1), 1) := by decide +kernel
theorem dL_rejects_56 : decode cL_rejects 56 = .ok (.if_icmp .ne 308, 3) := by decide +kernel
theorem dL_rejects_59 : decode cL_rejects 59 = .ok (.aload_n 0, 1) := by decide +kernel
theorem dL_rejects_60 : decode cL_rejects 60 = .ok (.bipush 21, 2) := by decide +kernel
theorem dL_rejects_62 : decode cL_rejects 62 = .ok (.iconst 0, 1) := by decide +kernel
theorem dL_rejects_63 : decode cL_rejects 63 = .ok (.invokevirtual 29, 3) := by decide +kernel
theorem dL_rejects_66 : decode cL_rejects 66 = .ok (.bipush (-2), 2) := by decide +kernel
theorem dL_rejects_68 : decode cL_rejects 68 = .ok (.if_icmp .ne 296, 3) := by decide +kernel
theorem dL_rejects_71 : decode cL_rejects 71 = .ok (.aload_n 0, 1) := by decide +kernel
theorem dL_rejects_72 : decode cL_rejects 72 = .ok (.iconst 0, 1) := by decide +kernel
theorem dL_rejects_73 : decode cL_rejects 73 = .ok (.iconst (-1), 1) := by decide +kernel
theorem dL_rejects_74 : decode cL_rejects 74 = .ok (.invokevirtual 29, 3) := by decide +kernel
theorem dL_rejects_77 : decode cL_rejects 77 = .ok (.bipush (-2), 2) := by decide +kernel
theorem dL_rejects_79 : decode cL_rejects 79 = .ok (.if_icmp .ne 285, 3) := by decide +kernel
theorem dL_rejects_82 : decode cL_rejects 82 = .ok (.aload_n 0, 1) := by decide +kernel
theorem dL_rejects_83 : decode cL_rejects 83 = .ok (.iload_n 1, 1) := by decide +kernel
theorem dL_rejects_84 : decode cL_rejects 84 = .ok (.invokevirtual 32, 3) := by decide +kernel
theorem dL_rejects_87 : decode cL_rejects 87 = .ok (.iconst (-1), 1) := by decide +kernel
theorem dL_rejects_88 : decode cL_rejects 88 = .ok (.if_icmp .ne 276, 3) := by decide +kernel
theorem dL_rejects_91 : decode cL_rejects 91 = .ok (.aload_n 0, 1) := by decide +kernel
theorem dL_rejects_92 : decode cL_rejects 92 = .ok (.bipush 21, 2) := by decide +kernel
theorem dL_rejects_94 : decode cL_rejects 94 = .ok (.iconst 0, 1) := by decide +kernel
theorem dL_rejects_95 : decode cL_rejects 95 = .ok (.iconst 0, 1) := by decide +kernel
theorem dL_rejects_96 : decode cL_rejects 96 = .ok (.invokevirtual 35, 3) := by decide +kernel
theorem dL_rejects_99 : decode cL_rejects 99 = .ok (.bipush (-2), 2) := by decide +kernel
theorem dL_rejects_101 : decode cL_rejects 101 = .ok (.if_icmp .ne 263, 3) := by decide +kernel
theorem dL_rejects_104 : decode cL_rejects 104 = .ok (.aload_n 0, 1) := by decide +kernel
theorem dL_rejects_105 : decode cL_rejects 105 = .ok (.iconst 0, 1) := by decide +kernel
theorem dL_rejects_106 : decode cL_rejects 106 = .ok (.iconst 0, 1) := by decide +kernel
theorem dL_rejects_107 : decode cL_rejects 107 = .ok (.sipush 401, 3) := by decide +kernel
theorem dL_rejects_110 : decode cL_rejects 110 = .ok (.invokevirtual 35, 3) := by decide +kernel
theorem dL_rejects_113 : decode cL_rejects 113 = .ok (.bipush (-2), 2) := by decide +kernel
theorem dL_rejects_115 : decode cL_rejects 115 = .ok (.if_icmp .ne 249, 3) := by decide +kernel
theorem dL_rejects_118 : decode cL_rejects 118 = .ok (.aload_n 0, 1) := by decide +kernel
theorem dL_rejects_119 : decode cL_rejects 119 = .ok (.iload_n 1, 1) := by decide +kernel
theorem dL_rejects_120 : decode cL_rejects 120 = .ok (.invokevirtual 38, 3) := by decide +kernel
theorem dL_rejects_123 : decode cL_rejects 123 = .ok (.iconst (-1), 1) := by decide +kernel
theorem dL_rejects_124 : decode cL_rejects 124 = .ok (.if_icmp .ne 240, 3) := by decide +kernel
theorem dL_rejects_127 : decode cL_rejects 127 = .ok (.aload_n 0, 1) := by decide +kernel
theorem dL_rejects_128 : decode cL_rejects 128 = .ok (.iload_n 1, 1) := by decide +kernel
theorem dL_rejects_129 : decode cL_rejects 129 = .ok (.bipush 21, 2) := by decide +kernel
theorem dL_rejects_131 : decode cL_rejects 131 = .ok (.iconst 0, 1) := by decide +kernel
theorem dL_rejects_132 : decode cL_rejects 132 = .ok (.invokevirtual 41, 3) := by decide +kernel
theorem dL_rejects_135 : decode cL_rejects 135 = .ok (.iconst (-1), 1) := by decide +kernel
theorem dL_rejects_136 : decode cL_rejects 136 = .ok (.if_icmp .ne 228, 3) := by decide +kernel
theorem dL_rejects_139 : decode cL_rejects 139 = .ok (.aload_n 0, 1) := by decide +kernel
theorem dL_rejects_140 : decode cL_rejects 140 = .ok (.iconst (-1), 1) := by decide +kernel
theorem dL_rejects_141 : decode cL_rejects 141 = .ok (.sipush 401, 3) := by decide +kernel
theorem dL_rejects_144 : decode cL_rejects 144 = .ok (.invokevirtual 44, 3) := by decide +kernel
theorem dL_rejects_147 : decode cL_rejects 147 = .ok (.iconst (-1), 1) := by decide +kernel
theorem dL_rejects_148 : decode cL_rejects 148 = .ok (.if_icmp .ne 216, 3) := by decide +kernel
theorem dL_rejects_151 : decode cL_rejects 151 = .ok (.aload_n 0, 1) := by decide +kernel
theorem dL_rejects_152 : decode cL_rejects 152 = .ok (.iload_n 1, 1) := by decide +kernel
theorem dL_rejects_153 : decode cL_rejects 153 = .ok (.invokevirtual 47, 3) := by decide +kernel
theorem dL_rejects_156 : decode cL_rejects 156 = .ok (.iconst (-1), 1) := by decide +kernel
theorem dL_rejects_157 : decode cL_rejects 157 = .ok (.if_icmp .ne 207, 3) := by decide +kernel
theorem dL_rejects_160 : decode cL_rejects 160 = .ok (.aload_n 0, 1) := by decide +kernel
theorem dL_rejects_161 : decode cL_rejects 161 = .ok (.iload_n 1, 1) := by decide +kernel
theorem dL_rejects_162 : decode cL_rejects 162 = .ok (.iconst 0, 1) := by decide +kernel
theorem dL_rejects_163 : decode cL_rejects 163 = .ok (.iconst 2, 1) := by decide +kernel
theorem dL_rejects_164 : decode cL_rejects 164 = .ok (.invokevirtual 50, 3) := by decide +kernel
theorem dL_rejects_167 : decode cL_rejects 167 = .ok (.iconst (-1), 1) := by decide +kernel
theorem dL_rejects_168 : decode cL_rejects 168 = .ok (.if_icmp .ne 196, 3) := by decide +kernel
theorem dL_rejects_171 : decode cL_rejects 171 = .ok (.aload_n 0, 1) := by decide +kernel
theorem dL_rejects_172 : decode cL_rejects 172 = .ok (.iload_n 1, 1) := by decide +kernel
theorem dL_rejects_173 : decode cL_rejects 173 = .ok (.invokevirtual 53, 3) := by decide +kernel
theorem dL_rejects_176 : decode cL_rejects 176 = .ok (.iconst (-1), 1) := by decide +kernel
theorem dL_rejects_177 : decode cL_rejects 177 = .ok (.if_icmp .ne 187, 3) := by decide +kernel
theorem dL_rejects_180 : decode cL_rejects 180 = .ok (.aload_n 0, 1) := by decide +kernel
theorem dL_rejects_181 : decode cL_rejects 181 = .ok (.iload_n 1, 1) := by decide +kernel
theorem dL_rejects_182 : decode cL_rejects 182 = .ok (.iconst 0, 1) := by decide +kernel
theorem dL_rejects_183 : decode cL_rejects 183 = .ok (.iconst 0, 1) := by decide +kernel
theorem dL_rejects_184 : decode cL_rejects 184 = .ok (.invokevirtual 56, 3) := by decide +kernel
theorem dL_rejects_187 : decode cL_rejects 187 = .ok (.iconst (-1), 1) := by decide +kernel
theorem dL_rejects_188 : decode cL_rejects 188 = .ok (.if_icmp .ne 176, 3) := by decide +kernel
theorem dL_rejects_191 : decode cL_rejects 191 = .ok (.aload_n 0, 1) := by decide +kernel
theorem dL_rejects_192 : decode cL_rejects 192 = .ok (.iconst 0, 1) := by decide +kernel
theorem dL_rejects_193 : decode cL_rejects 193 = .ok (.bipush 21, 2) := by decide +kernel
theorem dL_rejects_195 : decode cL_rejects 195 = .ok (.iconst 0, 1) := by decide +kernel
theorem dL_rejects_196 : decode cL_rejects 196 = .ok (.invokevirtual 59, 3) := by decide +kernel
theorem dL_rejects_199 : decode cL_rejects 199 = .ok (.bipush (-2), 2) := by decide +kernel
theorem dL_rejects_201 : decode cL_rejects 201 = .ok (.if_icmp .ne 163, 3) := by decide +kernel
theorem dL_rejects_204 : decode cL_rejects 204 = .ok (.aload_n 0, 1) := by decide +kernel
theorem dL_rejects_205 : decode cL_rejects 205 = .ok (.iconst 0, 1) := by decide +kernel
theorem dL_rejects_206 : decode cL_rejects 206 = .ok (.iconst 0, 1) := by decide +kernel
theorem dL_rejects_207 : decode cL_rejects 207 = .ok (.iconst 0, 1) := by decide +kernel
theorem dL_rejects_208 : decode cL_rejects 208 = .ok (.bipush 21, 2) := by decide +kernel
theorem dL_rejects_210 : decode cL_rejects 210 = .ok (.invokevirtual 62, 3) := by decide +kernel
theorem dL_rejects_213 : decode cL_rejects 213 = .ok (.bipush (-2), 2) := by decide +kernel
theorem dL_rejects_215 : decode cL_rejects 215 = .ok (.if_icmp .ne 149, 3) := by decide +kernel
theorem dL_rejects_218 : decode cL_rejects 218 = .ok (.aload_n 0, 1) := by decide +kernel
theorem dL_rejects_219 : decode cL_rejects 219 = .ok (.iload_n 1, 1) := by decide +kernel
theorem dL_rejects_220 : decode cL_rejects 220 = .ok (.sipush 442, 3) := by decide +kernel
theorem dL_rejects_223 : decode cL_rejects 223 = .ok (.invokevirtual 66, 3) := by decide +kernel
theorem dL_rejects_226 : decode cL_rejects 226 = .ok (.iconst (-1), 1) := by decide +kernel
theorem dL_rejects_227 : decode cL_rejects 227 = .ok (.if_icmp .ne 137, 3) := by decide +kernel
theorem dL_rejects_230 : decode cL_rejects 230 = .ok (.aload_n 0, 1) := by decide +kernel
theorem dL_rejects_231 : decode cL_rejects 231 = .ok (.iconst 0, 1) := by decide +kernel
theorem dL_rejects_232 : decode cL_rejects 232 = .ok (.iconst 0, 1) := by decide +kernel
theorem dL_rejects_233 : decode cL_rejects 233 = .ok (.bipush 10, 2) := by decide +kernel
theorem dL_rejects_235 : decode cL_rejects 235 = .ok (.invokevirtual 69, 3) := by decide +kernel
theorem dL_rejects_238 : decode cL_rejects 238 = .ok (.bipush (-2), 2) := by decide +kernel
theorem dL_rejects_240 : decode cL_rejects 240 = .ok (.if_icmp .ne 124, 3) := by decide +kernel
theorem dL_rejects_243 : decode cL_rejects 243 = .ok (.aload_n 0, 1) := by decide +kernel
theorem dL_rejects_244 : decode cL_rejects 244 = .ok (.iconst (-1), 1) := by decide +kernel
theorem dL_rejects_245 : decode cL_rejects 245 = .ok (.iconst 0, 1) := by decide +kernel
theorem dL_rejects_246 : decode cL_rejects 246 = .ok (.iconst 0, 1) := by decide +kernel
theorem dL_rejects_247 : decode cL_rejects 247 = .ok (.invokevirtual 69, 3) := by decide +kernel
theorem dL_rejects_250 : decode cL_rejects 250 = .ok (.bipush (-2), 2) := by decide +kernel
theorem dL_rejects_252 : decode cL_rejects 252 = .ok (.if_icmp .ne 112, 3) := by decide +kernel
theorem dL_rejects_255 : decode cL_rejects 255 = .ok (.aload_n 0, 1) := by decide +kernel
theorem dL_rejects_256 : decode cL_rejects 256 = .ok (.iload_n 1, 1) := by decide +kernel
theorem dL_rejects_257 : decode cL_rejects 257 = .ok (.iconst 3, 1) := by decide +kernel
theorem dL_rejects_258 : decode cL_rejects 258 = .ok (.invokevirtual 72, 3) := by decide +kernel
theorem dL_rejects_261 : decode cL_rejects 261 = .ok (.iconst (-1), 1) := by decide +kernel
theorem dL_rejects_262 : decode cL_rejects 262 = .ok (.if_icmp .ne 102, 3) := by decide +kernel
theorem dL_rejects_265 : decode cL_rejects 265 = .ok (.aload_n 0, 1) := by decide +kernel
theorem dL_rejects_266 : decode cL_rejects 266 = .ok (.iconst 0, 1) := by decide +kernel
theorem dL_rejects_267 : decode cL_rejects 267 = .ok (.lconst 0, 1) := by decide +kernel
theorem dL_rejects_268 : decode cL_rejects 268 = .ok (.invokevirtual 75, 3) := by decide +kernel
theorem dL_rejects_271 : decode cL_rejects 271 = .ok (.bipush (-2), 2) := by decide +kernel
theorem dL_rejects_273 : decode cL_rejects 273 = .ok (.if_icmp .ne 91, 3) := by decide +kernel
theorem dL_rejects_276 : decode cL_rejects 276 = .ok (.aload_n 0, 1) := by decide +kernel
theorem dL_rejects_277 : decode cL_rejects 277 = .ok (.iconst 4, 1) := by decide +kernel
theorem dL_rejects_278 : decode cL_rejects 278 = .ok (.lconst 0, 1) := by decide +kernel
theorem dL_rejects_279 : decode cL_rejects 279 = .ok (.invokevirtual 75, 3) := by decide +kernel
theorem dL_rejects_282 : decode cL_rejects 282 = .ok (.bipush (-2), 2) := by decide +kernel
theorem dL_rejects_284 : decode cL_rejects 284 = .ok (.if_icmp .ne 80, 3) := by decide +kernel
theorem dL_rejects_287 : decode cL_rejects 287 = .ok (.aload_n 0, 1) := by decide +kernel
theorem dL_rejects_288 : decode cL_rejects 288 = .ok (.iconst 1, 1) := by decide +kernel
theorem dL_rejects_289 : decode cL_rejects 289 = .ok (.ldc2_w 79, 3) := by decide +kernel
theorem dL_rejects_292 : decode cL_rejects 292 = .ok (.invokevirtual 75, 3) := by decide +kernel
theorem dL_rejects_295 : decode cL_rejects 295 = .ok (.bipush (-2), 2) := by decide +kernel
theorem dL_rejects_297 : decode cL_rejects 297 = .ok (.if_icmp .ne 67, 3) := by decide +kernel
theorem dL_rejects_300 : decode cL_rejects 300 = .ok (.aload_n 0, 1) := by decide +kernel
theorem dL_rejects_301 : decode cL_rejects 301 = .ok (.iconst 1, 1) := by decide +kernel
theorem dL_rejects_302 : decode cL_rejects 302 = .ok (.ldc2_w 81, 3) := by decide +kernel
theorem dL_rejects_305 : decode cL_rejects 305 = .ok (.invokevirtual 75, 3) := by decide +kernel
theorem dL_rejects_308 : decode cL_rejects 308 = .ok (.bipush (-2), 2) := by decide +kernel
theorem dL_rejects_310 : decode cL_rejects 310 = .ok (.if_icmp .ne 54, 3) := by decide +kernel
theorem dL_rejects_313 : decode cL_rejects 313 = .ok (.aload_n 0, 1) := by decide +kernel
theorem dL_rejects_314 : decode cL_rejects 314 = .ok (.lconst 1, 1) := by decide +kernel
theorem dL_rejects_315 : decode cL_rejects 315 = .ok (.iload_n 1, 1) := by decide +kernel
theorem dL_rejects_316 : decode cL_rejects 316 = .ok (.iconst 0, 1) := by decide +kernel
theorem dL_rejects_317 : decode cL_rejects 317 = .ok (.invokevirtual 83, 3) := by decide +kernel
theorem dL_rejects_320 : decode cL_rejects 320 = .ok (.iconst (-1), 1) := by decide +kernel
theorem dL_rejects_321 : decode cL_rejects 321 = .ok (.if_icmp .ne 43, 3) := by decide +kernel
theorem dL_rejects_324 : decode cL_rejects 324 = .ok (.aload_n 0, 1) := by decide +kernel
theorem dL_rejects_325 : decode cL_rejects 325 = .ok (.iconst 2, 1) := by decide +kernel
theorem dL_rejects_326 : decode cL_rejects 326 = .ok (.invokevirtual 87, 3) := by decide +kernel
theorem dL_rejects_329 : decode cL_rejects 329 = .ok (.iconst (-1), 1) := by decide +kernel
theorem dL_rejects_330 : decode cL_rejects 330 = .ok (.if_icmp .ne 34, 3) := by decide +kernel
theorem dL_rejects_333 : decode cL_rejects 333 = .ok (.aload_n 0, 1) := by decide +kernel
theorem dL_rejects_334 : decode cL_rejects 334 = .ok (.iconst (-1), 1) := by decide +kernel
theorem dL_rejects_335 : decode cL_rejects 335 = .ok (.invokevirtual 90, 3) := by decide +kernel
theorem dL_rejects_338 : decode cL_rejects 338 = .ok (.iconst (-1), 1) := by decide +kernel
theorem dL_rejects_339 : decode cL_rejects 339 = .ok (.if_icmp .ne 25, 3) := by decide +kernel
theorem dL_rejects_342 : decode cL_rejects 342 = .ok (.iload_n 1, 1) := by decide +kernel
theorem dL_rejects_343 : decode cL_rejects 343 = .ok (.bipush 10, 2) := by decide +kernel
theorem dL_rejects_345 : decode cL_rejects 345 = .ok (.if_icmp .lt 15, 3) := by decide +kernel
theorem dL_rejects_348 : decode cL_rejects 348 = .ok (.aload_n 0, 1) := by decide +kernel
theorem dL_rejects_349 : decode cL_rejects 349 = .ok (.iconst 0, 1) := by decide +kernel
theorem dL_rejects_350 : decode cL_rejects 350 = .ok (.iconst 0, 1) := by decide +kernel
theorem dL_rejects_351 : decode cL_rejects 351 = .ok (.iconst 0, 1) := by decide +kernel
theorem dL_rejects_352 : decode cL_rejects 352 = .ok (.invokevirtual 35, 3) := by decide +kernel
theorem dL_rejects_355 : decode cL_rejects 355 = .ok (.bipush (-4), 2) := by decide +kernel
theorem dL_rejects_357 : decode cL_rejects 357 = .ok (.if_icmp .ne 7, 3) := by decide +kernel
theorem dL_rejects_360 : decode cL_rejects 360 = .ok (.iconst 1, 1) := by decide +kernel
theorem dL_rejects_361 : decode cL_rejects 361 = .ok (.goto 4, 3) := by decide +kernel
theorem dL_rejects_364 : decode cL_rejects 364 = .ok (.iconst 0, 1) := by decide +kernel
theorem dL_rejects_365 : decode cL_rejects 365 = .ok (.istore_n 2, 1) := by decide +kernel
theorem dL_rejects_366 : decode cL_rejects 366 = .ok (.iload_n 2, 1) := by decide +kernel
theorem dL_rejects_367 : decode cL_rejects 367 = .ok (.ifCond .eq 131, 3) := by decide +kernel
theorem dL_rejects_370 : decode cL_rejects 370 = .ok (.iload_n 1, 1) := by decide +kernel
theorem dL_rejects_371 : decode cL_rejects 371 = .ok (.ifCond .eq 123, 3) := by decide +kernel
theorem dL_rejects_374 : decode cL_rejects 374 = .ok (.aload_n 0, 1) := by decide +kernel
theorem dL_rejects_375 : decode cL_rejects 375 = .ok (.iconst 0, 1) := by decide +kernel
theorem dL_rejects_376 : decode cL_rejects 376 = .ok (.iconst 3, 1) := by decide +kernel
theorem dL_rejects_377 : decode cL_rejects 377 = .ok (.invokevirtual 21, 3) := by decide +kernel
theorem dL_rejects_380 : decode cL_rejects 380 = .ok (.bipush (-2), 2) := by decide +kernel
theorem dL_rejects_382 : decode cL_rejects 382 = .ok (.if_icmp .ne 116, 3) := by decide +kernel
theorem dL_rejects_385 : decode cL_rejects 385 = .ok (.aload_n 0, 1) := by decide +kernel
theorem dL_rejects_386 : decode cL_rejects 386 = .ok (.iconst 0, 1) := by decide +kernel
theorem dL_rejects_387 : decode cL_rejects 387 = .ok (.iconst 0, 1) := by decide +kernel
theorem dL_rejects_388 : decode cL_rejects 388 = .ok (.bipush 21, 2) := by decide +kernel
theorem dL_rejects_390 : decode cL_rejects 390 = .ok (.invokevirtual 25, 3) := by decide +kernel
theorem dL_rejects_393 : decode cL_rejects 393 = .ok (.bipush (-2), 2) := by decide +kernel
theorem dL_rejects_395 : decode cL_rejects 395 = .ok (.if_icmp .ne 103, 3) := by decide +kernel
theorem dL_rejects_398 : decode cL_rejects 398 = .ok (.aload_n 0, 1) := by decide +kernel
theorem dL_rejects_399 : decode cL_rejects 399 = .ok (.iconst 0, 1) := by decide +kernel
theorem dL_rejects_400 : decode cL_rejects 400 = .ok (.iconst (-1), 1) := by decide +kernel
theorem dL_rejects_401 : decode cL_rejects 401 = .ok (.iconst 0, 1) := by decide +kernel
theorem dL_rejects_402 : decode cL_rejects 402 = .ok (.invokevirtual 41, 3) := by decide +kernel
theorem dL_rejects_405 : decode cL_rejects 405 = .ok (.bipush (-2), 2) := by decide +kernel
theorem dL_rejects_407 : decode cL_rejects 407 = .ok (.if_icmp .ne 91, 3) := by decide +kernel
theorem dL_rejects_410 : decode cL_rejects 410 = .ok (.aload_n 0, 1) := by decide +kernel
theorem dL_rejects_411 : decode cL_rejects 411 = .ok (.iconst 0, 1) := by decide +kernel
theorem dL_rejects_412 : decode cL_rejects 412 = .ok (.iconst (-1), 1) := by decide +kernel
theorem dL_rejects_413 : decode cL_rejects 413 = .ok (.invokevirtual 44, 3) := by decide +kernel
theorem dL_rejects_416 : decode cL_rejects 416 = .ok (.bipush (-2), 2) := by decide +kernel
theorem dL_rejects_418 : decode cL_rejects 418 = .ok (.if_icmp .ne 80, 3) := by decide +kernel
theorem dL_rejects_421 : decode cL_rejects 421 = .ok (.aload_n 0, 1) := by decide +kernel
theorem dL_rejects_422 : decode cL_rejects 422 = .ok (.iconst 0, 1) := by decide +kernel
theorem dL_rejects_423 : decode cL_rejects 423 = .ok (.sipush 442, 3) := by decide +kernel
theorem dL_rejects_426 : decode cL_rejects 426 = .ok (.invokevirtual 66, 3) := by decide +kernel
theorem dL_rejects_429 : decode cL_rejects 429 = .ok (.bipush (-2), 2) := by decide +kernel
theorem dL_rejects_431 : decode cL_rejects 431 = .ok (.if_icmp .ne 67, 3) := by decide +kernel
theorem dL_rejects_434 : decode cL_rejects 434 = .ok (.aload_n 0, 1) := by decide +kernel
theorem dL_rejects_435 : decode cL_rejects 435 = .ok (.iconst 0, 1) := by decide +kernel
theorem dL_rejects_436 : decode cL_rejects 436 = .ok (.iconst 3, 1) := by decide +kernel
theorem dL_rejects_437 : decode cL_rejects 437 = .ok (.invokevirtual 72, 3) := by decide +kernel
theorem dL_rejects_440 : decode cL_rejects 440 = .ok (.bipush (-2), 2) := by decide +kernel
theorem dL_rejects_442 : decode cL_rejects 442 = .ok (.if_icmp .ne 56, 3) := by decide +kernel
theorem dL_rejects_445 : decode cL_rejects 445 = .ok (.aload_n 0, 1) := by decide +kernel
theorem dL_rejects_446 : decode cL_rejects 446 = .ok (.lconst 1, 1) := by decide +kernel
theorem dL_rejects_447 : decode cL_rejects 447 = .ok (.iconst 0, 1) := by decide +kernel
theorem dL_rejects_448 : decode cL_rejects 448 = .ok (.sipush 201, 3) := by decide +kernel
theorem dL_rejects_451 : decode cL_rejects 451 = .ok (.invokevirtual 83, 3) := by decide +kernel
theorem dL_rejects_454 : decode cL_rejects 454 = .ok (.bipush (-2), 2) := by decide +kernel
theorem dL_rejects_456 : decode cL_rejects 456 = .ok (.if_icmp .ne 42, 3) := by decide +kernel
theorem dL_rejects_459 : decode cL_rejects 459 = .ok (.aload_n 0, 1) := by decide +kernel
theorem dL_rejects_460 : decode cL_rejects 460 = .ok (.iconst 0, 1) := by decide +kernel
theorem dL_rejects_461 : decode cL_rejects 461 = .ok (.aload_n 0, 1) := by decide +kernel
theorem dL_rejects_462 : decode cL_rejects 462 = .ok (.iconst 0, 1) := by decide +kernel
theorem dL_rejects_463 : decode cL_rejects 463 = .ok (.invokevirtual 47, 3) := by decide +kernel
theorem dL_rejects_466 : decode cL_rejects 466 = .ok (.iconst 0, 1) := by decide +kernel
theorem dL_rejects_467 : decode cL_rejects 467 = .ok (.invokevirtual 50, 3) := by decide +kernel
theorem dL_rejects_470 : decode cL_rejects 470 = .ok (.iconst (-1), 1) := by decide +kernel
theorem dL_rejects_471 : decode cL_rejects 471 = .ok (.if_icmp .ne 27, 3) := by decide +kernel
theorem dL_rejects_474 : decode cL_rejects 474 = .ok (.aload_n 0, 1) := by decide +kernel
theorem dL_rejects_475 : decode cL_rejects 475 = .ok (.iconst 0, 1) := by decide +kernel
theorem dL_rejects_476 : decode cL_rejects 476 = .ok (.invokevirtual 47, 3) := by decide +kernel
theorem dL_rejects_479 : decode cL_rejects 479 = .ok (.ifCond .eq 15, 3) := by decide +kernel
theorem dL_rejects_482 : decode cL_rejects 482 = .ok (.aload_n 0, 1) := by decide +kernel
theorem dL_rejects_483 : decode cL_rejects 483 = .ok (.iconst 0, 1) := by decide +kernel
theorem dL_rejects_484 : decode cL_rejects 484 = .ok (.iconst 0, 1) := by decide +kernel
theorem dL_rejects_485 : decode cL_rejects 485 = .ok (.iconst 2, 1) := by decide +kernel
theorem dL_rejects_486 : decode cL_rejects 486 = .ok (.invokevirtual 93, 3) := by decide +kernel
theorem dL_rejects_489 : decode cL_rejects 489 = .ok (.bipush (-2), 2) := by decide +kernel
theorem dL_rejects_491 : decode cL_rejects 491 = .ok (.if_icmp .ne 7, 3) := by decide +kernel
theorem dL_rejects_494 : decode cL_rejects 494 = .ok (.iconst 1, 1) := by decide +kernel
theorem dL_rejects_495 : decode cL_rejects 495 = .ok (.goto 4, 3) := by decide +kernel
theorem dL_rejects_498 : decode cL_rejects 498 = .ok (.iconst 0, 1) := by decide +kernel
theorem dL_rejects_499 : decode cL_rejects 499 = .ok (.ireturn, 1) := by decide +kernel
theorem dL_digits_0 : decode cL_digits 0 = .ok (.iload_n 2, 1) := by decide +kernel
theorem dL_digits_1 : decode cL_digits 1 = .ok (.iconst 2, 1) := by decide +kernel
theorem dL_digits_2 : decode cL_digits 2 = .ok (.if_icmp .le 17, 3) := by decide +kernel
theorem dL_digits_5 : decode cL_digits 5 = .ok (.aload_n 0, 1) := by decide +kernel
theorem dL_digits_6 : decode cL_digits 6 = .ok (.bipush 48, 2) := by decide +kernel
theorem dL_digits_8 : decode cL_digits 8 = .ok (.iload_n 1, 1) := by decide +kernel
theorem dL_digits_9 : decode cL_digits 9 = .ok (.bipush 100, 2) := by decide +kernel
theorem dL_digits_11 : decode cL_digits 11 = .ok (.idiv, 1) := by decide +kernel
theorem dL_digits_12 : decode cL_digits 12 = .ok (.iadd, 1) := by decide +kernel
theorem dL_digits_13 : decode cL_digits 13 = .ok (.invokevirtual 15, 3) := by decide +kernel
theorem dL_digits_16 : decode cL_digits 16 = .ok (.goto 4, 3) := by decide +kernel
theorem dL_digits_19 : decode cL_digits 19 = .ok (.iconst 0, 1) := by decide +kernel
theorem dL_digits_20 : decode cL_digits 20 = .ok (.aload_n 0, 1) := by decide +kernel
theorem dL_digits_21 : decode cL_digits 21 = .ok (.bipush 48, 2) := by decide +kernel
theorem dL_digits_23 : decode cL_digits 23 = .ok (.iload_n 1, 1) := by decide +kernel
theorem dL_digits_24 : decode cL_digits 24 = .ok (.bipush 10, 2) := by decide +kernel
theorem dL_digits_26 : decode cL_digits 26 = .ok (.idiv, 1) := by decide +kernel
theorem dL_digits_27 : decode cL_digits 27 = .ok (.bipush 10, 2) := by decide +kernel
theorem dL_digits_29 : decode cL_digits 29 = .ok (.irem, 1) := by decide +kernel
theorem dL_digits_30 : decode cL_digits 30 = .ok (.iadd, 1) := by decide +kernel
theorem dL_digits_31 : decode cL_digits 31 = .ok (.invokevirtual 15, 3) := by decide +kernel
theorem dL_digits_34 : decode cL_digits 34 = .ok (.iadd, 1) := by decide +kernel
theorem dL_digits_35 : decode cL_digits 35 = .ok (.aload_n 0, 1) := by decide +kernel
theorem dL_digits_36 : decode cL_digits 36 = .ok (.bipush 48, 2) := by decide +kernel
theorem dL_digits_38 : decode cL_digits 38 = .ok (.iload_n 1, 1) := by decide +kernel
theorem dL_digits_39 : decode cL_digits 39 = .ok (.bipush 10, 2) := by decide +kernel
theorem dL_digits_41 : decode cL_digits 41 = .ok (.irem, 1) := by decide +kernel
theorem dL_digits_42 : decode cL_digits 42 = .ok (.iadd, 1) := by decide +kernel
theorem dL_digits_43 : decode cL_digits 43 = .ok (.invokevirtual 15, 3) := by decide +kernel
theorem dL_digits_46 : decode cL_digits 46 = .ok (.iadd, 1) := by decide +kernel
theorem dL_digits_47 : decode cL_digits 47 = .ok (.ireturn, 1) := by decide +kernel
theorem dL_load_0 : decode cL_load 0 = .ok (.aload_n 0, 1) := by decide +kernel
theorem dL_load_1 : decode cL_load 1 = .ok (.invokevirtual 96, 3) := by decide +kernel
theorem dL_load_4 : decode cL_load 4 = .ok (.aload_n 0, 1) := by decide +kernel
theorem dL_load_5 : decode cL_load 5 = .ok (.bipush 80, 2) := by decide +kernel
theorem dL_load_7 : decode cL_load 7 = .ok (.invokevirtual 15, 3) := by decide +kernel
theorem dL_load_10 : decode cL_load 10 = .ok (.iadd, 1) := by decide +kernel
theorem dL_load_11 : decode cL_load 11 = .ok (.istore_n 3, 1) := by decide +kernel
theorem dL_load_12 : decode cL_load 12 = .ok (.iload_n 2, 1) := by decide +kernel
theorem dL_load_13 : decode cL_load 13 = .ok (.istore 4, 2) := by decide +kernel
theorem dL_load_15 : decode cL_load 15 = .ok (.iload_n 1, 1) := by decide +kernel
theorem dL_load_16 : decode cL_load 16 = .ok (.bipush 11, 2) := by decide +kernel
theorem dL_load_18 : decode cL_load 18 = .ok (.irem, 1) := by decide +kernel
theorem dL_load_19 : decode cL_load 19 = .ok (.istore 5, 2) := by decide +kernel
theorem dL_load_21 : decode cL_load 21 = .ok (.iconst 0, 1) := by decide +kernel
theorem dL_load_22 : decode cL_load 22 = .ok (.istore 6, 2) := by decide +kernel
theorem dL_load_24 : decode cL_load 24 = .ok (.iload 6, 2) := by decide +kernel
theorem dL_load_26 : decode cL_load 26 = .ok (.iload 5, 2) := by decide +kernel
theorem dL_load_28 : decode cL_load 28 = .ok (.if_icmp .ge 81, 3) := by decide +kernel
theorem dL_load_31 : decode cL_load 31 = .ok (.iload_n 3, 1) := by decide +kernel
theorem dL_load_32 : decode cL_load 32 = .ok (.aload_n 0, 1) := by decide +kernel
theorem dL_load_33 : decode cL_load 33 = .ok (.iload 4, 2) := by decide +kernel
theorem dL_load_35 : decode cL_load 35 = .ok (.bipush 21, 2) := by decide +kernel
theorem dL_load_37 : decode cL_load 37 = .ok (.irem, 1) := by decide +kernel
theorem dL_load_38 : decode cL_load 38 = .ok (.iconst 2, 1) := by decide +kernel
theorem dL_load_39 : decode cL_load 39 = .ok (.invokestatic 99, 3) := by decide +kernel
theorem dL_load_42 : decode cL_load 42 = .ok (.aload_n 0, 1) := by decide +kernel
theorem dL_load_43 : decode cL_load 43 = .ok (.iload 4, 2) := by decide +kernel
theorem dL_load_45 : decode cL_load 45 = .ok (.bipush 21, 2) := by decide +kernel
theorem dL_load_47 : decode cL_load 47 = .ok (.idiv, 1) := by decide +kernel
theorem dL_load_48 : decode cL_load 48 = .ok (.bipush 21, 2) := by decide +kernel
theorem dL_load_50 : decode cL_load 50 = .ok (.irem, 1) := by decide +kernel
theorem dL_load_51 : decode cL_load 51 = .ok (.iconst 2, 1) := by decide +kernel
theorem dL_load_52 : decode cL_load 52 = .ok (.invokestatic 99, 3) := by decide +kernel
theorem dL_load_55 : decode cL_load 55 = .ok (.iadd, 1) := by decide +kernel
theorem dL_load_56 : decode cL_load 56 = .ok (.aload_n 0, 1) := by decide +kernel
theorem dL_load_57 : decode cL_load 57 = .ok (.iload 4, 2) := by decide +kernel
theorem dL_load_59 : decode cL_load 59 = .ok (.sipush 441, 3) := by decide +kernel
theorem dL_load_62 : decode cL_load 62 = .ok (.idiv, 1) := by decide +kernel
theorem dL_load_63 : decode cL_load 63 = .ok (.iload 4, 2) := by decide +kernel
theorem dL_load_65 : decode cL_load 65 = .ok (.iconst 5, 1) := by decide +kernel
theorem dL_load_66 : decode cL_load 66 = .ok (.irem, 1) := by decide +kernel
theorem dL_load_67 : decode cL_load 67 = .ok (.ifCond .ne 9, 3) := by decide +kernel
theorem dL_load_70 : decode cL_load 70 = .ok (.sipush 401, 3) := by decide +kernel
theorem dL_load_73 : decode cL_load 73 = .ok (.goto 5, 3) := by decide +kernel
theorem dL_load_76 : decode cL_load 76 = .ok (.bipush 60, 2) := by decide +kernel
theorem dL_load_78 : decode cL_load 78 = .ok (.irem, 1) := by decide +kernel
theorem dL_load_79 : decode cL_load 79 = .ok (.iconst 3, 1) := by decide +kernel
theorem dL_load_80 : decode cL_load 80 = .ok (.invokestatic 99, 3) := by decide +kernel
theorem dL_load_83 : decode cL_load 83 = .ok (.iadd, 1) := by decide +kernel
theorem dL_load_84 : decode cL_load 84 = .ok (.iadd, 1) := by decide +kernel
theorem dL_load_85 : decode cL_load 85 = .ok (.istore_n 3, 1) := by decide +kernel
theorem dL_load_86 : decode cL_load 86 = .ok (.iload 4, 2) := by decide +kernel
theorem dL_load_88 : decode cL_load 88 = .ok (.iconst 3, 1) := by decide +kernel
theorem dL_load_89 : decode cL_load 89 = .ok (.idiv, 1) := by decide +kernel
theorem dL_load_90 : decode cL_load 90 = .ok (.ldc 103, 2) := by decide +kernel
theorem dL_load_92 : decode cL_load 92 = .ok (.iload 6, 2) := by decide +kernel
theorem dL_load_94 : decode cL_load 94 = .ok (.iconst 1, 1) := by decide +kernel
theorem dL_load_95 : decode cL_load 95 = .ok (.iadd, 1) := by decide +kernel
theorem dL_load_96 : decode cL_load 96 = .ok (.imul, 1) := by decide +kernel
theorem dL_load_97 : decode cL_load 97 = .ok (.iadd, 1) := by decide +kernel
theorem dL_load_98 : decode cL_load 98 = .ok (.ldc 8, 2) := by decide +kernel
theorem dL_load_100 : decode cL_load 100 = .ok (.iand, 1) := by decide +kernel
theorem dL_load_101 : decode cL_load 101 = .ok (.istore 4, 2) := by decide +kernel
theorem dL_load_103 : decode cL_load 103 = .ok (.iinc 6 1, 3) := by decide +kernel
theorem dL_load_106 : decode cL_load 106 = .ok (.goto (-82), 3) := by decide +kernel
theorem dL_load_109 : decode cL_load 109 = .ok (.iload_n 3, 1) := by decide +kernel
theorem dL_load_110 : decode cL_load 110 = .ok (.iload_n 1, 1) := by decide +kernel
theorem dL_load_111 : decode cL_load 111 = .ok (.bipush 31, 2) := by decide +kernel
theorem dL_load_113 : decode cL_load 113 = .ok (.irem, 1) := by decide +kernel
theorem dL_load_114 : decode cL_load 114 = .ok (.ifCond .ne 19, 3) := by decide +kernel
theorem dL_load_117 : decode cL_load 117 = .ok (.aload_n 0, 1) := by decide +kernel
theorem dL_load_118 : decode cL_load 118 = .ok (.bipush 50, 2) := by decide +kernel
theorem dL_load_120 : decode cL_load 120 = .ok (.invokevirtual 15, 3) := by decide +kernel
theorem dL_load_123 : decode cL_load 123 = .ok (.aload_n 0, 1) := by decide +kernel
theorem dL_load_124 : decode cL_load 124 = .ok (.bipush 49, 2) := by decide +kernel
theorem dL_load_126 : decode cL_load 126 = .ok (.invokevirtual 15, 3) := by decide +kernel
theorem dL_load_129 : decode cL_load 129 = .ok (.iadd, 1) := by decide +kernel
theorem dL_load_130 : decode cL_load 130 = .ok (.goto 4, 3) := by decide +kernel
theorem dL_load_133 : decode cL_load 133 = .ok (.iconst 0, 1) := by decide +kernel
theorem dL_load_134 : decode cL_load 134 = .ok (.iadd, 1) := by decide +kernel
theorem dL_load_135 : decode cL_load 135 = .ok (.istore_n 3, 1) := by decide +kernel
theorem dL_load_136 : decode cL_load 136 = .ok (.bipush 7, 2) := by decide +kernel
theorem dL_load_138 : decode cL_load 138 = .ok (.iload_n 3, 1) := by decide +kernel
theorem dL_load_139 : decode cL_load 139 = .ok (.imul, 1) := by decide +kernel
theorem dL_load_140 : decode cL_load 140 = .ok (.aload_n 0, 1) := by decide +kernel
theorem dL_load_141 : decode cL_load 141 = .ok (.invokevirtual 104, 3) := by decide +kernel
theorem dL_load_144 : decode cL_load 144 = .ok (.iadd, 1) := by decide +kernel
theorem dL_load_145 : decode cL_load 145 = .ok (.ireturn, 1) := by decide +kernel
theorem dL_act_0 : decode cL_act 0 = .ok (.aload_n 0, 1) := by decide +kernel
theorem dL_act_1 : decode cL_act 1 = .ok (.invokevirtual 9, 3) := by decide +kernel
theorem dL_act_4 : decode cL_act 4 = .ok (.istore_n 3, 1) := by decide +kernel
theorem dL_act_5 : decode cL_act 5 = .ok (.iload_n 3, 1) := by decide +kernel
theorem dL_act_6 : decode cL_act 6 = .ok (.ifCond .ne 7, 3) := by decide +kernel
theorem dL_act_9 : decode cL_act 9 = .ok (.iconst 0, 1) := by decide +kernel
theorem dL_act_10 : decode cL_act 10 = .ok (.goto 6, 3) := by decide +kernel
theorem dL_act_13 : decode cL_act 13 = .ok (.iload_n 2, 1) := by decide +kernel
theorem dL_act_14 : decode cL_act 14 = .ok (.iload_n 3, 1) := by decide +kernel
theorem dL_act_15 : decode cL_act 15 = .ok (.irem, 1) := by decide +kernel
theorem dL_act_16 : decode cL_act 16 = .ok (.istore 4, 2) := by decide +kernel
theorem dL_act_18 : decode cL_act 18 = .ok (.iload_n 1, 1) := by decide +kernel
theorem dL_act_19 : decode cL_act 19 = .ok (.bipush 15, 2) := by decide +kernel
theorem dL_act_21 : decode cL_act 21 = .ok (.iand, 1) := by decide +kernel
theorem dL_act_22 : decode cL_act 22 = .ok (.tableswitch 238 0 13 #[70, 70, 70, 79, 79, 79, 115, 122, 122, 144, 144, 159, 222, 230], 70) := by decide +kernel
theorem dL_act_92 : decode cL_act 92 = .ok (.aload_n 0, 1) := by decide +kernel
theorem dL_act_93 : decode cL_act 93 = .ok (.iload_n 1, 1) := by decide +kernel
theorem dL_act_94 : decode cL_act 94 = .ok (.iconst 4, 1) := by decide +kernel
theorem dL_act_95 : decode cL_act 95 = .ok (.ishr, 1) := by decide +kernel
theorem dL_act_96 : decode cL_act 96 = .ok (.iload_n 2, 1) := by decide +kernel
theorem dL_act_97 : decode cL_act 97 = .ok (.invokestatic 107, 3) := by decide +kernel
theorem dL_act_100 : decode cL_act 100 = .ok (.ireturn, 1) := by decide +kernel
theorem dL_act_101 : decode cL_act 101 = .ok (.aload_n 0, 1) := by decide +kernel
theorem dL_act_102 : decode cL_act 102 = .ok (.iload_n 2, 1) := by decide +kernel
theorem dL_act_103 : decode cL_act 103 = .ok (.bipush 21, 2) := by decide +kernel
theorem dL_act_105 : decode cL_act 105 = .ok (.irem, 1) := by decide +kernel
theorem dL_act_106 : decode cL_act 106 = .ok (.iload_n 2, 1) := by decide +kernel
theorem dL_act_107 : decode cL_act 107 = .ok (.bipush 21, 2) := by decide +kernel
theorem dL_act_109 : decode cL_act 109 = .ok (.idiv, 1) := by decide +kernel
theorem dL_act_110 : decode cL_act 110 = .ok (.bipush 21, 2) := by decide +kernel
theorem dL_act_112 : decode cL_act 112 = .ok (.irem, 1) := by decide +kernel
theorem dL_act_113 : decode cL_act 113 = .ok (.iload_n 2, 1) := by decide +kernel
theorem dL_act_114 : decode cL_act 114 = .ok (.sipush 441, 3) := by decide +kernel
theorem dL_act_117 : decode cL_act 117 = .ok (.idiv, 1) := by decide +kernel
theorem dL_act_118 : decode cL_act 118 = .ok (.iload_n 1, 1) := by decide +kernel
theorem dL_act_119 : decode cL_act 119 = .ok (.iconst 3, 1) := by decide +kernel
theorem dL_act_120 : decode cL_act 120 = .ok (.irem, 1) := by decide +kernel
theorem dL_act_121 : decode cL_act 121 = .ok (.ifCond .ne 9, 3) := by decide +kernel
theorem dL_act_124 : decode cL_act 124 = .ok (.sipush 401, 3) := by decide +kernel
theorem dL_act_127 : decode cL_act 127 = .ok (.goto 5, 3) := by decide +kernel
theorem dL_act_130 : decode cL_act 130 = .ok (.bipush 40, 2) := by decide +kernel
theorem dL_act_132 : decode cL_act 132 = .ok (.irem, 1) := by decide +kernel
theorem dL_act_133 : decode cL_act 133 = .ok (.invokevirtual 35, 3) := by decide +kernel
theorem dL_act_136 : decode cL_act 136 = .ok (.ireturn, 1) := by decide +kernel
theorem dL_act_137 : decode cL_act 137 = .ok (.aload_n 0, 1) := by decide +kernel
theorem dL_act_138 : decode cL_act 138 = .ok (.iload 4, 2) := by decide +kernel
theorem dL_act_140 : decode cL_act 140 = .ok (.invokevirtual 38, 3) := by decide +kernel
theorem dL_act_143 : decode cL_act 143 = .ok (.ireturn, 1) := by decide +kernel
theorem dL_act_144 : decode cL_act 144 = .ok (.aload_n 0, 1) := by decide +kernel
theorem dL_act_145 : decode cL_act 145 = .ok (.iload 4, 2) := by decide +kernel
theorem dL_act_147 : decode cL_act 147 = .ok (.iload_n 2, 1) := by decide +kernel
theorem dL_act_148 : decode cL_act 148 = .ok (.bipush 10, 2) := by decide +kernel
theorem dL_act_150 : decode cL_act 150 = .ok (.idiv, 1) := by decide +kernel
theorem dL_act_151 : decode cL_act 151 = .ok (.bipush 21, 2) := by decide +kernel
theorem dL_act_153 : decode cL_act 153 = .ok (.irem, 1) := by decide +kernel
theorem dL_act_154 : decode cL_act 154 = .ok (.iload_n 2, 1) := by decide +kernel
theorem dL_act_155 : decode cL_act 155 = .ok (.sipush 210, 3) := by decide +kernel
theorem dL_act_158 : decode cL_act 158 = .ok (.idiv, 1) := by decide +kernel
theorem dL_act_159 : decode cL_act 159 = .ok (.bipush 21, 2) := by decide +kernel
theorem dL_act_161 : decode cL_act 161 = .ok (.irem, 1) := by decide +kernel
theorem dL_act_162 : decode cL_act 162 = .ok (.invokevirtual 41, 3) := by decide +kernel
theorem dL_act_165 : decode cL_act 165 = .ok (.ireturn, 1) := by decide +kernel
theorem dL_act_166 : decode cL_act 166 = .ok (.aload_n 0, 1) := by decide +kernel
theorem dL_act_167 : decode cL_act 167 = .ok (.iload 4, 2) := by decide +kernel
theorem dL_act_169 : decode cL_act 169 = .ok (.iload_n 2, 1) := by decide +kernel
theorem dL_act_170 : decode cL_act 170 = .ok (.bipush 10, 2) := by decide +kernel
theorem dL_act_172 : decode cL_act 172 = .ok (.idiv, 1) := by decide +kernel
theorem dL_act_173 : decode cL_act 173 = .ok (.sipush 401, 3) := by decide +kernel
theorem dL_act_176 : decode cL_act 176 = .ok (.irem, 1) := by decide +kernel
theorem dL_act_177 : decode cL_act 177 = .ok (.invokevirtual 44, 3) := by decide +kernel
theorem dL_act_180 : decode cL_act 180 = .ok (.ireturn, 1) := by decide +kernel
theorem dL_act_181 : decode cL_act 181 = .ok (.iload_n 2, 1) := by decide +kernel
theorem dL_act_182 : decode cL_act 182 = .ok (.iconst 4, 1) := by decide +kernel
theorem dL_act_183 : decode cL_act 183 = .ok (.irem, 1) := by decide +kernel
theorem dL_act_184 : decode cL_act 184 = .ok (.ifCond .ne 10, 3) := by decide +kernel
theorem dL_act_187 : decode cL_act 187 = .ok (.aload_n 0, 1) := by decide +kernel
theorem dL_act_188 : decode cL_act 188 = .ok (.invokevirtual 109, 3) := by decide +kernel
theorem dL_act_191 : decode cL_act 191 = .ok (.goto 52, 3) := by decide +kernel
theorem dL_act_194 : decode cL_act 194 = .ok (.aload_n 0, 1) := by decide +kernel
theorem dL_act_195 : decode cL_act 195 = .ok (.iload_n 2, 1) := by decide +kernel
theorem dL_act_196 : decode cL_act 196 = .ok (.iconst 4, 1) := by decide +kernel
theorem dL_act_197 : decode cL_act 197 = .ok (.idiv, 1) := by decide +kernel
theorem dL_act_198 : decode cL_act 198 = .ok (.bipush 21, 2) := by decide +kernel
theorem dL_act_200 : decode cL_act 200 = .ok (.irem, 1) := by decide +kernel
theorem dL_act_201 : decode cL_act 201 = .ok (.iload_n 2, 1) := by decide +kernel
theorem dL_act_202 : decode cL_act 202 = .ok (.bipush 84, 2) := by decide +kernel
theorem dL_act_204 : decode cL_act 204 = .ok (.idiv, 1) := by decide +kernel
theorem dL_act_205 : decode cL_act 205 = .ok (.bipush 21, 2) := by decide +kernel
theorem dL_act_207 : decode cL_act 207 = .ok (.irem, 1) := by decide +kernel
theorem dL_act_208 : decode cL_act 208 = .ok (.iload_n 2, 1) := by decide +kernel
theorem dL_act_209 : decode cL_act 209 = .ok (.iconst 3, 1) := by decide +kernel
theorem dL_act_210 : decode cL_act 210 = .ok (.irem, 1) := by decide +kernel
theorem dL_act_211 : decode cL_act 211 = .ok (.ifCond .ne 12, 3) := by decide +kernel
theorem dL_act_214 : decode cL_act 214 = .ok (.iload_n 2, 1) := by decide +kernel
theorem dL_act_215 : decode cL_act 215 = .ok (.iconst 5, 1) := by decide +kernel
theorem dL_act_216 : decode cL_act 216 = .ok (.idiv, 1) := by decide +kernel
theorem dL_act_217 : decode cL_act 217 = .ok (.bipush 10, 2) := by decide +kernel
theorem dL_act_219 : decode cL_act 219 = .ok (.irem, 1) := by decide +kernel
theorem dL_act_220 : decode cL_act 220 = .ok (.goto 20, 3) := by decide +kernel
theorem dL_act_223 : decode cL_act 223 = .ok (.aload_n 0, 1) := by decide +kernel
theorem dL_act_224 : decode cL_act 224 = .ok (.iload_n 2, 1) := by decide +kernel
theorem dL_act_225 : decode cL_act 225 = .ok (.iconst 4, 1) := by decide +kernel
theorem dL_act_226 : decode cL_act 226 = .ok (.idiv, 1) := by decide +kernel
theorem dL_act_227 : decode cL_act 227 = .ok (.bipush 21, 2) := by decide +kernel
theorem dL_act_229 : decode cL_act 229 = .ok (.irem, 1) := by decide +kernel
theorem dL_act_230 : decode cL_act 230 = .ok (.iload_n 2, 1) := by decide +kernel
theorem dL_act_231 : decode cL_act 231 = .ok (.bipush 84, 2) := by decide +kernel
theorem dL_act_233 : decode cL_act 233 = .ok (.idiv, 1) := by decide +kernel
theorem dL_act_234 : decode cL_act 234 = .ok (.bipush 21, 2) := by decide +kernel
theorem dL_act_236 : decode cL_act 236 = .ok (.irem, 1) := by decide +kernel
theorem dL_act_237 : decode cL_act 237 = .ok (.invokevirtual 29, 3) := by decide +kernel
theorem dL_act_240 : decode cL_act 240 = .ok (.invokevirtual 69, 3) := by decide +kernel
theorem dL_act_243 : decode cL_act 243 = .ok (.ireturn, 1) := by decide +kernel
theorem dL_act_244 : decode cL_act 244 = .ok (.aload_n 0, 1) := by decide +kernel
theorem dL_act_245 : decode cL_act 245 = .ok (.iload_n 2, 1) := by decide +kernel
theorem dL_act_246 : decode cL_act 246 = .ok (.iconst 1, 1) := by decide +kernel
theorem dL_act_247 : decode cL_act 247 = .ok (.iand, 1) := by decide +kernel
theorem dL_act_248 : decode cL_act 248 = .ok (.invokevirtual 87, 3) := by decide +kernel
theorem dL_act_251 : decode cL_act 251 = .ok (.ireturn, 1) := by decide +kernel
theorem dL_act_252 : decode cL_act 252 = .ok (.aload_n 0, 1) := by decide +kernel
theorem dL_act_253 : decode cL_act 253 = .ok (.iload_n 2, 1) := by decide +kernel
theorem dL_act_254 : decode cL_act 254 = .ok (.iconst 1, 1) := by decide +kernel
theorem dL_act_255 : decode cL_act 255 = .ok (.iand, 1) := by decide +kernel
theorem dL_act_256 : decode cL_act 256 = .ok (.invokevirtual 90, 3) := by decide +kernel
theorem dL_act_259 : decode cL_act 259 = .ok (.ireturn, 1) := by decide +kernel
theorem dL_act_260 : decode cL_act 260 = .ok (.aload_n 0, 1) := by decide +kernel
theorem dL_act_261 : decode cL_act 261 = .ok (.invokevirtual 112, 3) := by decide +kernel
theorem dL_act_264 : decode cL_act 264 = .ok (.ireturn, 1) := by decide +kernel
theorem dL_state_0 : decode cL_state 0 = .ok (.aload_n 0, 1) := by decide +kernel
theorem dL_state_1 : decode cL_state 1 = .ok (.invokevirtual 9, 3) := by decide +kernel
theorem dL_state_4 : decode cL_state 4 = .ok (.i2l, 1) := by decide +kernel
theorem dL_state_5 : decode cL_state 5 = .ok (.lstore_n 1, 1) := by decide +kernel
theorem dL_state_6 : decode cL_state 6 = .ok (.iconst 0, 1) := by decide +kernel
theorem dL_state_7 : decode cL_state 7 = .ok (.istore_n 3, 1) := by decide +kernel
theorem dL_state_8 : decode cL_state 8 = .ok (.iload_n 3, 1) := by decide +kernel
theorem dL_state_9 : decode cL_state 9 = .ok (.aload_n 0, 1) := by decide +kernel
theorem dL_state_10 : decode cL_state 10 = .ok (.invokevirtual 9, 3) := by decide +kernel
theorem dL_state_13 : decode cL_state 13 = .ok (.if_icmp .ge 46, 3) := by decide +kernel
theorem dL_state_16 : decode cL_state 16 = .ok (.ldc2_w 115, 3) := by decide +kernel
theorem dL_state_19 : decode cL_state 19 = .ok (.lload_n 1, 1) := by decide +kernel
theorem dL_state_20 : decode cL_state 20 = .ok (.lmul, 1) := by decide +kernel
theorem dL_state_21 : decode cL_state 21 = .ok (.sipush 441, 3) := by decide +kernel
theorem dL_state_24 : decode cL_state 24 = .ok (.aload_n 0, 1) := by decide +kernel
theorem dL_state_25 : decode cL_state 25 = .ok (.iload_n 3, 1) := by decide +kernel
theorem dL_state_26 : decode cL_state 26 = .ok (.iconst 2, 1) := by decide +kernel
theorem dL_state_27 : decode cL_state 27 = .ok (.invokevirtual 21, 3) := by decide +kernel
theorem dL_state_30 : decode cL_state 30 = .ok (.imul, 1) := by decide +kernel
theorem dL_state_31 : decode cL_state 31 = .ok (.i2l, 1) := by decide +kernel
theorem dL_state_32 : decode cL_state 32 = .ok (.ladd, 1) := by decide +kernel
theorem dL_state_33 : decode cL_state 33 = .ok (.bipush 21, 2) := by decide +kernel
theorem dL_state_35 : decode cL_state 35 = .ok (.aload_n 0, 1) := by decide +kernel
theorem dL_state_36 : decode cL_state 36 = .ok (.iload_n 3, 1) := by decide +kernel
theorem dL_state_37 : decode cL_state 37 = .ok (.iconst 0, 1) := by decide +kernel
theorem dL_state_38 : decode cL_state 38 = .ok (.invokevirtual 21, 3) := by decide +kernel
theorem dL_state_41 : decode cL_state 41 = .ok (.imul, 1) := by decide +kernel
theorem dL_state_42 : decode cL_state 42 = .ok (.i2l, 1) := by decide +kernel
theorem dL_state_43 : decode cL_state 43 = .ok (.ladd, 1) := by decide +kernel
theorem dL_state_44 : decode cL_state 44 = .ok (.aload_n 0, 1) := by decide +kernel
theorem dL_state_45 : decode cL_state 45 = .ok (.iload_n 3, 1) := by decide +kernel
theorem dL_state_46 : decode cL_state 46 = .ok (.iconst 1, 1) := by decide +kernel
theorem dL_state_47 : decode cL_state 47 = .ok (.invokevirtual 21, 3) := by decide +kernel
theorem dL_state_50 : decode cL_state 50 = .ok (.i2l, 1) := by decide +kernel
theorem dL_state_51 : decode cL_state 51 = .ok (.ladd, 1) := by decide +kernel
theorem dL_state_52 : decode cL_state 52 = .ok (.lstore_n 1, 1) := by decide +kernel
theorem dL_state_53 : decode cL_state 53 = .ok (.iinc 3 1, 3) := by decide +kernel
theorem dL_state_56 : decode cL_state 56 = .ok (.goto (-48), 3) := by decide +kernel
theorem dL_state_59 : decode cL_state 59 = .ok (.lload_n 1, 1) := by decide +kernel
theorem dL_state_60 : decode cL_state 60 = .ok (.lreturn, 1) := by decide +kernel
theorem dL_alike_0 : decode cL_alike 0 = .ok (.aload_n 0, 1) := by decide +kernel
theorem dL_alike_1 : decode cL_alike 1 = .ok (.invokestatic 117, 3) := by decide +kernel
theorem dL_alike_4 : decode cL_alike 4 = .ok (.aload_n 1, 1) := by decide +kernel
theorem dL_alike_5 : decode cL_alike 5 = .ok (.invokestatic 117, 3) := by decide +kernel
theorem dL_alike_8 : decode cL_alike 8 = .ok (.lcmp, 1) := by decide +kernel
theorem dL_alike_9 : decode cL_alike 9 = .ok (.ifCond .ne 130, 3) := by decide +kernel
theorem dL_alike_12 : decode cL_alike 12 = .ok (.aload_n 0, 1) := by decide +kernel
theorem dL_alike_13 : decode cL_alike 13 = .ok (.invokevirtual 121, 3) := by decide +kernel
theorem dL_alike_16 : decode cL_alike 16 = .ok (.aload_n 1, 1) := by decide +kernel
theorem dL_alike_17 : decode cL_alike 17 = .ok (.invokevirtual 121, 3) := by decide +kernel
theorem dL_alike_20 : decode cL_alike 20 = .ok (.if_icmp .ne 119, 3) := by decide +kernel
theorem dL_alike_23 : decode cL_alike 23 = .ok (.aload_n 0, 1) := by decide +kernel
theorem dL_alike_24 : decode cL_alike 24 = .ok (.invokevirtual 124, 3) := by decide +kernel
theorem dL_alike_27 : decode cL_alike 27 = .ok (.aload_n 1, 1) := by decide +kernel
theorem dL_alike_28 : decode cL_alike 28 = .ok (.invokevirtual 124, 3) := by decide +kernel
theorem dL_alike_31 : decode cL_alike 31 = .ok (.if_icmp .ne 108, 3) := by decide +kernel
theorem dL_alike_34 : decode cL_alike 34 = .ok (.aload_n 0, 1) := by decide +kernel
theorem dL_alike_35 : decode cL_alike 35 = .ok (.invokevirtual 127, 3) := by decide +kernel
theorem dL_alike_38 : decode cL_alike 38 = .ok (.aload_n 1, 1) := by decide +kernel
theorem dL_alike_39 : decode cL_alike 39 = .ok (.invokevirtual 127, 3) := by decide +kernel
theorem dL_alike_42 : decode cL_alike 42 = .ok (.if_icmp .ne 97, 3) := by decide +kernel
theorem dL_alike_45 : decode cL_alike 45 = .ok (.aload_n 0, 1) := by decide +kernel
theorem dL_alike_46 : decode cL_alike 46 = .ok (.iconst 0, 1) := by decide +kernel
theorem dL_alike_47 : decode cL_alike 47 = .ok (.iconst 0, 1) := by decide +kernel
theorem dL_alike_48 : decode cL_alike 48 = .ok (.invokevirtual 72, 3) := by decide +kernel
theorem dL_alike_51 : decode cL_alike 51 = .ok (.aload_n 1, 1) := by decide +kernel
theorem dL_alike_52 : decode cL_alike 52 = .ok (.iconst 0, 1) := by decide +kernel
theorem dL_alike_53 : decode cL_alike 53 = .ok (.iconst 0, 1) := by decide +kernel
theorem dL_alike_54 : decode cL_alike 54 = .ok (.invokevirtual 72, 3) := by decide +kernel
theorem dL_alike_57 : decode cL_alike 57 = .ok (.if_icmp .ne 82, 3) := by decide +kernel
theorem dL_alike_60 : decode cL_alike 60 = .ok (.aload_n 0, 1) := by decide +kernel
theorem dL_alike_61 : decode cL_alike 61 = .ok (.iconst 1, 1) := by decide +kernel
theorem dL_alike_62 : decode cL_alike 62 = .ok (.bipush 40, 2) := by decide +kernel
theorem dL_alike_64 : decode cL_alike 64 = .ok (.invokevirtual 66, 3) := by decide +kernel
theorem dL_alike_67 : decode cL_alike 67 = .ok (.aload_n 1, 1) := by decide +kernel
theorem dL_alike_68 : decode cL_alike 68 = .ok (.iconst 1, 1) := by decide +kernel
theorem dL_alike_69 : decode cL_alike 69 = .ok (.bipush 40, 2) := by decide +kernel
theorem dL_alike_71 : decode cL_alike 71 = .ok (.invokevirtual 66, 3) := by decide +kernel
theorem dL_alike_74 : decode cL_alike 74 = .ok (.if_icmp .ne 65, 3) := by decide +kernel
theorem dL_alike_77 : decode cL_alike 77 = .ok (.aload_n 0, 1) := by decide +kernel
theorem dL_alike_78 : decode cL_alike 78 = .ok (.iload_n 2, 1) := by decide +kernel
theorem dL_alike_79 : decode cL_alike 79 = .ok (.bipush 21, 2) := by decide +kernel
theorem dL_alike_81 : decode cL_alike 81 = .ok (.irem, 1) := by decide +kernel
theorem dL_alike_82 : decode cL_alike 82 = .ok (.bipush 7, 2) := by decide +kernel
theorem dL_alike_84 : decode cL_alike 84 = .ok (.bipush 9, 2) := by decide +kernel
theorem dL_alike_86 : decode cL_alike 86 = .ok (.invokevirtual 59, 3) := by decide +kernel
theorem dL_alike_89 : decode cL_alike 89 = .ok (.aload_n 1, 1) := by decide +kernel
theorem dL_alike_90 : decode cL_alike 90 = .ok (.iload_n 2, 1) := by decide +kernel
theorem dL_alike_91 : decode cL_alike 91 = .ok (.bipush 21, 2) := by decide +kernel
theorem dL_alike_93 : decode cL_alike 93 = .ok (.irem, 1) := by decide +kernel
theorem dL_alike_94 : decode cL_alike 94 = .ok (.bipush 7, 2) := by decide +kernel
theorem dL_alike_96 : decode cL_alike 96 = .ok (.bipush 9, 2) := by decide +kernel
theorem dL_alike_98 : decode cL_alike 98 = .ok (.invokevirtual 59, 3) := by decide +kernel
theorem dL_alike_101 : decode cL_alike 101 = .ok (.if_icmp .ne 38, 3) := by decide +kernel
theorem dL_alike_104 : decode cL_alike 104 = .ok (.aload_n 0, 1) := by decide +kernel
theorem dL_alike_105 : decode cL_alike 105 = .ok (.iconst 2, 1) := by decide +kernel
theorem dL_alike_106 : decode cL_alike 106 = .ok (.ldc2_w 130, 3) := by decide +kernel
theorem dL_alike_109 : decode cL_alike 109 = .ok (.iload_n 2, 1) := by decide +kernel
theorem dL_alike_110 : decode cL_alike 110 = .ok (.ldc 132, 2) := by decide +kernel
theorem dL_alike_112 : decode cL_alike 112 = .ok (.irem, 1) := by decide +kernel
theorem dL_alike_113 : decode cL_alike 113 = .ok (.i2l, 1) := by decide +kernel
theorem dL_alike_114 : decode cL_alike 114 = .ok (.ladd, 1) := by decide +kernel
theorem dL_alike_115 : decode cL_alike 115 = .ok (.invokevirtual 75, 3) := by decide +kernel
theorem dL_alike_118 : decode cL_alike 118 = .ok (.aload_n 1, 1) := by decide +kernel
theorem dL_alike_119 : decode cL_alike 119 = .ok (.iconst 2, 1) := by decide +kernel
theorem dL_alike_120 : decode cL_alike 120 = .ok (.ldc2_w 130, 3) := by decide +kernel
theorem dL_alike_123 : decode cL_alike 123 = .ok (.iload_n 2, 1) := by decide +kernel
theorem dL_alike_124 : decode cL_alike 124 = .ok (.ldc 132, 2) := by decide +kernel
theorem dL_alike_126 : decode cL_alike 126 = .ok (.irem, 1) := by decide +kernel
theorem dL_alike_127 : decode cL_alike 127 = .ok (.i2l, 1) := by decide +kernel
theorem dL_alike_128 : decode cL_alike 128 = .ok (.ladd, 1) := by decide +kernel
theorem dL_alike_129 : decode cL_alike 129 = .ok (.invokevirtual 75, 3) := by decide +kernel
theorem dL_alike_132 : decode cL_alike 132 = .ok (.if_icmp .ne 7, 3) := by decide +kernel
theorem dL_alike_135 : decode cL_alike 135 = .ok (.iconst 1, 1) := by decide +kernel
theorem dL_alike_136 : decode cL_alike 136 = .ok (.goto 4, 3) := by decide +kernel
theorem dL_alike_139 : decode cL_alike 139 = .ok (.iconst 0, 1) := by decide +kernel
theorem dL_alike_140 : decode cL_alike 140 = .ok (.istore_n 3, 1) := by decide +kernel
theorem dL_alike_141 : decode cL_alike 141 = .ok (.iconst 0, 1) := by decide +kernel
theorem dL_alike_142 : decode cL_alike 142 = .ok (.istore 4, 2) := by decide +kernel
theorem dL_alike_144 : decode cL_alike 144 = .ok (.iload 4, 2) := by decide +kernel
theorem dL_alike_146 : decode cL_alike 146 = .ok (.bipush 10, 2) := by decide +kernel
theorem dL_alike_148 : decode cL_alike 148 = .ok (.if_icmp .ge 64, 3) := by decide +kernel
theorem dL_alike_151 : decode cL_alike 151 = .ok (.iload_n 3, 1) := by decide +kernel
theorem dL_alike_152 : decode cL_alike 152 = .ok (.ifCond .eq 52, 3) := by decide +kernel
theorem dL_alike_155 : decode cL_alike 155 = .ok (.aload_n 0, 1) := by decide +kernel
theorem dL_alike_156 : decode cL_alike 156 = .ok (.iload 4, 2) := by decide +kernel
theorem dL_alike_158 : decode cL_alike 158 = .ok (.invokevirtual 47, 3) := by decide +kernel
theorem dL_alike_161 : decode cL_alike 161 = .ok (.aload_n 1, 1) := by decide +kernel
theorem dL_alike_162 : decode cL_alike 162 = .ok (.iload 4, 2) := by decide +kernel
theorem dL_alike_164 : decode cL_alike 164 = .ok (.invokevirtual 47, 3) := by decide +kernel
theorem dL_alike_167 : decode cL_alike 167 = .ok (.if_icmp .ne 37, 3) := by decide +kernel
theorem dL_alike_170 : decode cL_alike 170 = .ok (.aload_n 0, 1) := by decide +kernel
theorem dL_alike_171 : decode cL_alike 171 = .ok (.iload 4, 2) := by decide +kernel
theorem dL_alike_173 : decode cL_alike 173 = .ok (.invokevirtual 53, 3) := by decide +kernel
theorem dL_alike_176 : decode cL_alike 176 = .ok (.aload_n 1, 1) := by decide +kernel
theorem dL_alike_177 : decode cL_alike 177 = .ok (.iload 4, 2) := by decide +kernel
theorem dL_alike_179 : decode cL_alike 179 = .ok (.invokevirtual 53, 3) := by decide +kernel
theorem dL_alike_182 : decode cL_alike 182 = .ok (.if_icmp .ne 22, 3) := by decide +kernel
theorem dL_alike_185 : decode cL_alike 185 = .ok (.aload_n 0, 1) := by decide +kernel
theorem dL_alike_186 : decode cL_alike 186 = .ok (.iload 4, 2) := by decide +kernel
theorem dL_alike_188 : decode cL_alike 188 = .ok (.invokevirtual 32, 3) := by decide +kernel
theorem dL_alike_191 : decode cL_alike 191 = .ok (.aload_n 1, 1) := by decide +kernel
theorem dL_alike_192 : decode cL_alike 192 = .ok (.iload 4, 2) := by decide +kernel
theorem dL_alike_194 : decode cL_alike 194 = .ok (.invokevirtual 32, 3) := by decide +kernel
theorem dL_alike_197 : decode cL_alike 197 = .ok (.if_icmp .ne 7, 3) := by decide +kernel
theorem dL_alike_200 : decode cL_alike 200 = .ok (.iconst 1, 1) := by decide +kernel
theorem dL_alike_201 : decode cL_alike 201 = .ok (.goto 4, 3) := by decide +kernel
theorem dL_alike_204 : decode cL_alike 204 = .ok (.iconst 0, 1) := by decide +kernel
theorem dL_alike_205 : decode cL_alike 205 = .ok (.istore_n 3, 1) := by decide +kernel
theorem dL_alike_206 : decode cL_alike 206 = .ok (.iinc 4 1, 3) := by decide +kernel
theorem dL_alike_209 : decode cL_alike 209 = .ok (.goto (-65), 3) := by decide +kernel
theorem dL_alike_212 : decode cL_alike 212 = .ok (.iload_n 3, 1) := by decide +kernel
theorem dL_alike_213 : decode cL_alike 213 = .ok (.ireturn, 1) := by decide +kernel
theorem dL_owners_0 : decode cL_owners 0 = .ok (.aload_n 0, 1) := by decide +kernel
theorem dL_owners_1 : decode cL_owners 1 = .ok (.invokevirtual 9, 3) := by decide +kernel
theorem dL_owners_4 : decode cL_owners 4 = .ok (.istore_n 2, 1) := by decide +kernel
theorem dL_owners_5 : decode cL_owners 5 = .ok (.iconst 1, 1) := by decide +kernel
theorem dL_owners_6 : decode cL_owners 6 = .ok (.istore_n 3, 1) := by decide +kernel
theorem dL_owners_7 : decode cL_owners 7 = .ok (.iconst 0, 1) := by decide +kernel
theorem dL_owners_8 : decode cL_owners 8 = .ok (.istore 4, 2) := by decide +kernel
theorem dL_owners_10 : decode cL_owners 10 = .ok (.iconst 0, 1) := by decide +kernel
theorem dL_owners_11 : decode cL_owners 11 = .ok (.istore 5, 2) := by decide +kernel
theorem dL_owners_13 : decode cL_owners 13 = .ok (.iconst 0, 1) := by decide +kernel
theorem dL_owners_14 : decode cL_owners 14 = .ok (.istore 6, 2) := by decide +kernel
theorem dL_owners_16 : decode cL_owners 16 = .ok (.iload 6, 2) := by decide +kernel
theorem dL_owners_18 : decode cL_owners 18 = .ok (.iload_n 2, 1) := by decide +kernel
theorem dL_owners_19 : decode cL_owners 19 = .ok (.if_icmp .ge 35, 3) := by decide +kernel
theorem dL_owners_22 : decode cL_owners 22 = .ok (.iload 4, 2) := by decide +kernel
theorem dL_owners_24 : decode cL_owners 24 = .ok (.aload_n 0, 1) := by decide +kernel
theorem dL_owners_25 : decode cL_owners 25 = .ok (.iload 6, 2) := by decide +kernel
theorem dL_owners_27 : decode cL_owners 27 = .ok (.invokevirtual 32, 3) := by decide +kernel
theorem dL_owners_30 : decode cL_owners 30 = .ok (.iadd, 1) := by decide +kernel
theorem dL_owners_31 : decode cL_owners 31 = .ok (.istore 4, 2) := by decide +kernel
theorem dL_owners_33 : decode cL_owners 33 = .ok (.iload 5, 2) := by decide +kernel
theorem dL_owners_35 : decode cL_owners 35 = .ok (.aload_n 0, 1) := by decide +kernel
theorem dL_owners_36 : decode cL_owners 36 = .ok (.iload_n 1, 1) := by decide +kernel
theorem dL_owners_37 : decode cL_owners 37 = .ok (.i2l, 1) := by decide +kernel
theorem dL_owners_38 : decode cL_owners 38 = .ok (.iload 6, 2) := by decide +kernel
theorem dL_owners_40 : decode cL_owners 40 = .ok (.bipush 50, 2) := by decide +kernel
theorem dL_owners_42 : decode cL_owners 42 = .ok (.invokevirtual 83, 3) := by decide +kernel
theorem dL_owners_45 : decode cL_owners 45 = .ok (.iadd, 1) := by decide +kernel
theorem dL_owners_46 : decode cL_owners 46 = .ok (.istore 5, 2) := by decide +kernel
theorem dL_owners_48 : decode cL_owners 48 = .ok (.iinc 6 1, 3) := by decide +kernel
theorem dL_owners_51 : decode cL_owners 51 = .ok (.goto (-35), 3) := by decide +kernel
theorem dL_owners_54 : decode cL_owners 54 = .ok (.iload 4, 2) := by decide +kernel
theorem dL_owners_56 : decode cL_owners 56 = .ok (.iload_n 2, 1) := by decide +kernel
theorem dL_owners_57 : decode cL_owners 57 = .ok (.ifCond .ne 7, 3) := by decide +kernel
theorem dL_owners_60 : decode cL_owners 60 = .ok (.iconst 0, 1) := by decide +kernel
theorem dL_owners_61 : decode cL_owners 61 = .ok (.goto 6, 3) := by decide +kernel
theorem dL_owners_64 : decode cL_owners 64 = .ok (.sipush 441, 3) := by decide +kernel
theorem dL_owners_67 : decode cL_owners 67 = .ok (.if_icmp .ne 22, 3) := by decide +kernel
theorem dL_owners_70 : decode cL_owners 70 = .ok (.iload 5, 2) := by decide +kernel
theorem dL_owners_72 : decode cL_owners 72 = .ok (.iload_n 2, 1) := by decide +kernel
theorem dL_owners_73 : decode cL_owners 73 = .ok (.ifCond .ne 7, 3) := by decide +kernel
theorem dL_owners_76 : decode cL_owners 76 = .ok (.iconst 0, 1) := by decide +kernel
theorem dL_owners_77 : decode cL_owners 77 = .ok (.goto 5, 3) := by decide +kernel
theorem dL_owners_80 : decode cL_owners 80 = .ok (.bipush 50, 2) := by decide +kernel
theorem dL_owners_82 : decode cL_owners 82 = .ok (.if_icmp .ne 7, 3) := by decide +kernel
theorem dL_owners_85 : decode cL_owners 85 = .ok (.iconst 1, 1) := by decide +kernel
theorem dL_owners_86 : decode cL_owners 86 = .ok (.goto 4, 3) := by decide +kernel
theorem dL_owners_89 : decode cL_owners 89 = .ok (.iconst 0, 1) := by decide +kernel
theorem dL_owners_90 : decode cL_owners 90 = .ok (.istore_n 3, 1) := by decide +kernel
theorem dL_owners_91 : decode cL_owners 91 = .ok (.iconst 0, 1) := by decide +kernel
theorem dL_owners_92 : decode cL_owners 92 = .ok (.istore 6, 2) := by decide +kernel
theorem dL_owners_94 : decode cL_owners 94 = .ok (.iload 6, 2) := by decide +kernel
theorem dL_owners_96 : decode cL_owners 96 = .ok (.bipush 7, 2) := by decide +kernel
theorem dL_owners_98 : decode cL_owners 98 = .ok (.if_icmp .ge 340, 3) := by decide +kernel
theorem dL_owners_101 : decode cL_owners 101 = .ok (.iload_n 3, 1) := by decide +kernel
theorem dL_owners_102 : decode cL_owners 102 = .ok (.ifCond .eq 336, 3) := by decide +kernel
theorem dL_owners_105 : decode cL_owners 105 = .ok (.iload_n 1, 1) := by decide +kernel
theorem dL_owners_106 : decode cL_owners 106 = .ok (.iload 6, 2) := by decide +kernel
theorem dL_owners_108 : decode cL_owners 108 = .ok (.iconst 1, 1) := by decide +kernel
theorem dL_owners_109 : decode cL_owners 109 = .ok (.iadd, 1) := by decide +kernel
theorem dL_owners_110 : decode cL_owners 110 = .ok (.idiv, 1) := by decide +kernel
theorem dL_owners_111 : decode cL_owners 111 = .ok (.bipush 21, 2) := by decide +kernel
theorem dL_owners_113 : decode cL_owners 113 = .ok (.irem, 1) := by decide +kernel
theorem dL_owners_114 : decode cL_owners 114 = .ok (.istore 7, 2) := by decide +kernel
theorem dL_owners_116 : decode cL_owners 116 = .ok (.iload_n 1, 1) := by decide +kernel
theorem dL_owners_117 : decode cL_owners 117 = .ok (.bipush 7, 2) := by decide +kernel
theorem dL_owners_119 : decode cL_owners 119 = .ok (.iload 6, 2) := by decide +kernel
theorem dL_owners_121 : decode cL_owners 121 = .ok (.imul, 1) := by decide +kernel
theorem dL_owners_122 : decode cL_owners 122 = .ok (.bipush 23, 2) := by decide +kernel
theorem dL_owners_124 : decode cL_owners 124 = .ok (.iadd, 1) := by decide +kernel
theorem dL_owners_125 : decode cL_owners 125 = .ok (.idiv, 1) := by decide +kernel
theorem dL_owners_126 : decode cL_owners 126 = .ok (.bipush 21, 2) := by decide +kernel
theorem dL_owners_128 : decode cL_owners 128 = .ok (.irem, 1) := by decide +kernel
theorem dL_owners_129 : decode cL_owners 129 = .ok (.istore 8, 2) := by decide +kernel
theorem dL_owners_131 : decode cL_owners 131 = .ok (.bipush (-9), 2) := by decide +kernel
theorem dL_owners_133 : decode cL_owners 133 = .ok (.istore 9, 2) := by decide +kernel
theorem dL_owners_135 : decode cL_owners 135 = .ok (.iconst 0, 1) := by decide +kernel
theorem dL_owners_136 : decode cL_owners 136 = .ok (.istore 10, 2) := by decide +kernel
theorem dL_owners_138 : decode cL_owners 138 = .ok (.iload 10, 2) := by decide +kernel
theorem dL_owners_140 : decode cL_owners 140 = .ok (.iload_n 2, 1) := by decide +kernel
theorem dL_owners_141 : decode cL_owners 141 = .ok (.if_icmp .ge 118, 3) := by decide +kernel
theorem dL_owners_144 : decode cL_owners 144 = .ok (.iload 7, 2) := by decide +kernel
theorem dL_owners_146 : decode cL_owners 146 = .ok (.aload_n 0, 1) := by decide +kernel
theorem dL_owners_147 : decode cL_owners 147 = .ok (.iload 10, 2) := by decide +kernel
theorem dL_owners_149 : decode cL_owners 149 = .ok (.iconst 0, 1) := by decide +kernel
theorem dL_owners_150 : decode cL_owners 150 = .ok (.invokevirtual 21, 3) := by decide +kernel
theorem dL_owners_153 : decode cL_owners 153 = .ok (.isub, 1) := by decide +kernel
theorem dL_owners_154 : decode cL_owners 154 = .ok (.istore 11, 2) := by decide +kernel
theorem dL_owners_156 : decode cL_owners 156 = .ok (.iload 8, 2) := by decide +kernel
theorem dL_owners_158 : decode cL_owners 158 = .ok (.aload_n 0, 1) := by decide +kernel
theorem dL_owners_159 : decode cL_owners 159 = .ok (.iload 10, 2) := by decide +kernel
theorem dL_owners_161 : decode cL_owners 161 = .ok (.iconst 1, 1) := by decide +kernel
theorem dL_owners_162 : decode cL_owners 162 = .ok (.invokevirtual 21, 3) := by decide +kernel
theorem dL_owners_165 : decode cL_owners 165 = .ok (.isub, 1) := by decide +kernel
theorem dL_owners_166 : decode cL_owners 166 = .ok (.istore 12, 2) := by decide +kernel
theorem dL_owners_168 : decode cL_owners 168 = .ok (.iload_n 3, 1) := by decide +kernel
theorem dL_owners_169 : decode cL_owners 169 = .ok (.ifCond .eq 43, 3) := by decide +kernel
theorem dL_owners_172 : decode cL_owners 172 = .ok (.aload_n 0, 1) := by decide +kernel
theorem dL_owners_173 : decode cL_owners 173 = .ok (.iload 10, 2) := by decide +kernel
theorem dL_owners_175 : decode cL_owners 175 = .ok (.iload 7, 2) := by decide +kernel
theorem dL_owners_177 : decode cL_owners 177 = .ok (.iload 8, 2) := by decide +kernel
theorem dL_owners_179 : decode cL_owners 179 = .ok (.invokevirtual 25, 3) := by decide +kernel
theorem dL_owners_182 : decode cL_owners 182 = .ok (.iload 11, 2) := by decide +kernel
theorem dL_owners_184 : decode cL_owners 184 = .ok (.iload 11, 2) := by decide +kernel
theorem dL_owners_186 : decode cL_owners 186 = .ok (.imul, 1) := by decide +kernel
theorem dL_owners_187 : decode cL_owners 187 = .ok (.iload 12, 2) := by decide +kernel
theorem dL_owners_189 : decode cL_owners 189 = .ok (.iload 12, 2) := by decide +kernel
theorem dL_owners_191 : decode cL_owners 191 = .ok (.imul, 1) := by decide +kernel
theorem dL_owners_192 : decode cL_owners 192 = .ok (.iadd, 1) := by decide +kernel
theorem dL_owners_193 : decode cL_owners 193 = .ok (.aload_n 0, 1) := by decide +kernel
theorem dL_owners_194 : decode cL_owners 194 = .ok (.iload 10, 2) := by decide +kernel
theorem dL_owners_196 : decode cL_owners 196 = .ok (.iconst 2, 1) := by decide +kernel
theorem dL_owners_197 : decode cL_owners 197 = .ok (.invokevirtual 21, 3) := by decide +kernel
theorem dL_owners_200 : decode cL_owners 200 = .ok (.isub, 1) := by decide +kernel
theorem dL_owners_201 : decode cL_owners 201 = .ok (.sipush 1000, 3) := by decide +kernel
theorem dL_owners_204 : decode cL_owners 204 = .ok (.iadd, 1) := by decide +kernel
theorem dL_owners_205 : decode cL_owners 205 = .ok (.if_icmp .ne 7, 3) := by decide +kernel
theorem dL_owners_208 : decode cL_owners 208 = .ok (.iconst 1, 1) := by decide +kernel
theorem dL_owners_209 : decode cL_owners 209 = .ok (.goto 4, 3) := by decide +kernel
theorem dL_owners_212 : decode cL_owners 212 = .ok (.iconst 0, 1) := by decide +kernel
theorem dL_owners_213 : decode cL_owners 213 = .ok (.istore_n 3, 1) := by decide +kernel
theorem dL_owners_214 : decode cL_owners 214 = .ok (.iload 9, 2) := by decide +kernel
theorem dL_owners_216 : decode cL_owners 216 = .ok (.bipush (-9), 2) := by decide +kernel
theorem dL_owners_218 : decode cL_owners 218 = .ok (.if_icmp .eq 26, 3) := by decide +kernel
theorem dL_owners_221 : decode cL_owners 221 = .ok (.aload_n 0, 1) := by decide +kernel
theorem dL_owners_222 : decode cL_owners 222 = .ok (.iload 10, 2) := by decide +kernel
theorem dL_owners_224 : decode cL_owners 224 = .ok (.iload 7, 2) := by decide +kernel
theorem dL_owners_226 : decode cL_owners 226 = .ok (.iload 8, 2) := by decide +kernel
theorem dL_owners_228 : decode cL_owners 228 = .ok (.invokevirtual 25, 3) := by decide +kernel
theorem dL_owners_231 : decode cL_owners 231 = .ok (.aload_n 0, 1) := by decide +kernel
theorem dL_owners_232 : decode cL_owners 232 = .ok (.iload 9, 2) := by decide +kernel
theorem dL_owners_234 : decode cL_owners 234 = .ok (.iload 7, 2) := by decide +kernel
theorem dL_owners_236 : decode cL_owners 236 = .ok (.iload 8, 2) := by decide +kernel
theorem dL_owners_238 : decode cL_owners 238 = .ok (.invokevirtual 25, 3) := by decide +kernel
theorem dL_owners_241 : decode cL_owners 241 = .ok (.if_icmp .ge 8, 3) := by decide +kernel
theorem dL_owners_244 : decode cL_owners 244 = .ok (.iload 10, 2) := by decide +kernel
theorem dL_owners_246 : decode cL_owners 246 = .ok (.goto 5, 3) := by decide +kernel
theorem dL_owners_249 : decode cL_owners 249 = .ok (.iload 9, 2) := by decide +kernel
theorem dL_owners_251 : decode cL_owners 251 = .ok (.istore 9, 2) := by decide +kernel
theorem dL_owners_253 : decode cL_owners 253 = .ok (.iinc 10 1, 3) := by decide +kernel
theorem dL_owners_256 : decode cL_owners 256 = .ok (.goto (-118), 3) := by decide +kernel
theorem dL_owners_259 : decode cL_owners 259 = .ok (.iconst 0, 1) := by decide +kernel
theorem dL_owners_260 : decode cL_owners 260 = .ok (.istore 10, 2) := by decide +kernel
theorem dL_owners_262 : decode cL_owners 262 = .ok (.iconst 0, 1) := by decide +kernel
theorem dL_owners_263 : decode cL_owners 263 = .ok (.istore 11, 2) := by decide +kernel
theorem dL_owners_265 : decode cL_owners 265 = .ok (.iload 11, 2) := by decide +kernel
theorem dL_owners_267 : decode cL_owners 267 = .ok (.iload_n 2, 1) := by decide +kernel
theorem dL_owners_268 : decode cL_owners 268 = .ok (.if_icmp .ge 45, 3) := by decide +kernel
theorem dL_owners_271 : decode cL_owners 271 = .ok (.iload 10, 2) := by decide +kernel
theorem dL_owners_273 : decode cL_owners 273 = .ok (.aload_n 0, 1) := by decide +kernel
theorem dL_owners_274 : decode cL_owners 274 = .ok (.iload 11, 2) := by decide +kernel
theorem dL_owners_276 : decode cL_owners 276 = .ok (.iload 7, 2) := by decide +kernel
theorem dL_owners_278 : decode cL_owners 278 = .ok (.iload 8, 2) := by decide +kernel
theorem dL_owners_280 : decode cL_owners 280 = .ok (.invokevirtual 25, 3) := by decide +kernel
theorem dL_owners_283 : decode cL_owners 283 = .ok (.aload_n 0, 1) := by decide +kernel
theorem dL_owners_284 : decode cL_owners 284 = .ok (.iload 9, 2) := by decide +kernel
theorem dL_owners_286 : decode cL_owners 286 = .ok (.iload 7, 2) := by decide +kernel
theorem dL_owners_288 : decode cL_owners 288 = .ok (.iload 8, 2) := by decide +kernel
theorem dL_owners_290 : decode cL_owners 290 = .ok (.invokevirtual 25, 3) := by decide +kernel
theorem dL_owners_293 : decode cL_owners 293 = .ok (.if_icmp .ne 10, 3) := by decide +kernel
theorem dL_owners_296 : decode cL_owners 296 = .ok (.iconst 1, 1) := by decide +kernel
theorem dL_owners_297 : decode cL_owners 297 = .ok (.iload 11, 2) := by decide +kernel
theorem dL_owners_299 : decode cL_owners 299 = .ok (.ishl, 1) := by decide +kernel
theorem dL_owners_300 : decode cL_owners 300 = .ok (.goto 4, 3) := by decide +kernel
theorem dL_owners_303 : decode cL_owners 303 = .ok (.iconst 0, 1) := by decide +kernel
theorem dL_owners_304 : decode cL_owners 304 = .ok (.ior, 1) := by decide +kernel
theorem dL_owners_305 : decode cL_owners 305 = .ok (.istore 10, 2) := by decide +kernel
theorem dL_owners_307 : decode cL_owners 307 = .ok (.iinc 11 1, 3) := by decide +kernel
theorem dL_owners_310 : decode cL_owners 310 = .ok (.goto (-45), 3) := by decide +kernel
theorem dL_owners_313 : decode cL_owners 313 = .ok (.iload_n 3, 1) := by decide +kernel
theorem dL_owners_314 : decode cL_owners 314 = .ok (.ifCond .eq 116, 3) := by decide +kernel
theorem dL_owners_317 : decode cL_owners 317 = .ok (.aload_n 0, 1) := by decide +kernel
theorem dL_owners_318 : decode cL_owners 318 = .ok (.iload 7, 2) := by decide +kernel
theorem dL_owners_320 : decode cL_owners 320 = .ok (.iload 8, 2) := by decide +kernel
theorem dL_owners_322 : decode cL_owners 322 = .ok (.invokevirtual 29, 3) := by decide +kernel
theorem dL_owners_325 : decode cL_owners 325 = .ok (.iload 9, 2) := by decide +kernel
theorem dL_owners_327 : decode cL_owners 327 = .ok (.if_icmp .ne 103, 3) := by decide +kernel
theorem dL_owners_330 : decode cL_owners 330 = .ok (.aload_n 0, 1) := by decide +kernel
theorem dL_owners_331 : decode cL_owners 331 = .ok (.iload 7, 2) := by decide +kernel
theorem dL_owners_333 : decode cL_owners 333 = .ok (.iload 8, 2) := by decide +kernel
theorem dL_owners_335 : decode cL_owners 335 = .ok (.iload 7, 2) := by decide +kernel
theorem dL_owners_337 : decode cL_owners 337 = .ok (.iload 8, 2) := by decide +kernel
theorem dL_owners_339 : decode cL_owners 339 = .ok (.invokevirtual 62, 3) := by decide +kernel
theorem dL_owners_342 : decode cL_owners 342 = .ok (.iload 10, 2) := by decide +kernel
theorem dL_owners_344 : decode cL_owners 344 = .ok (.if_icmp .ne 86, 3) := by decide +kernel
theorem dL_owners_347 : decode cL_owners 347 = .ok (.aload_n 0, 1) := by decide +kernel
theorem dL_owners_348 : decode cL_owners 348 = .ok (.iconst 2, 1) := by decide +kernel
theorem dL_owners_349 : decode cL_owners 349 = .ok (.ldc2_w 133, 3) := by decide +kernel
theorem dL_owners_352 : decode cL_owners 352 = .ok (.bipush 100, 2) := by decide +kernel
theorem dL_owners_354 : decode cL_owners 354 = .ok (.iload 7, 2) := by decide +kernel
theorem dL_owners_356 : decode cL_owners 356 = .ok (.imul, 1) := by decide +kernel
theorem dL_owners_357 : decode cL_owners 357 = .ok (.i2l, 1) := by decide +kernel
theorem dL_owners_358 : decode cL_owners 358 = .ok (.ladd, 1) := by decide +kernel
theorem dL_owners_359 : decode cL_owners 359 = .ok (.iload 8, 2) := by decide +kernel
theorem dL_owners_361 : decode cL_owners 361 = .ok (.i2l, 1) := by decide +kernel
theorem dL_owners_362 : decode cL_owners 362 = .ok (.ladd, 1) := by decide +kernel
theorem dL_owners_363 : decode cL_owners 363 = .ok (.ldc2_w 79, 3) := by decide +kernel
theorem dL_owners_366 : decode cL_owners 366 = .ok (.lmul, 1) := by decide +kernel
theorem dL_owners_367 : decode cL_owners 367 = .ok (.ldc2_w 135, 3) := by decide +kernel
theorem dL_owners_370 : decode cL_owners 370 = .ok (.ladd, 1) := by decide +kernel
theorem dL_owners_371 : decode cL_owners 371 = .ok (.sipush 1000, 3) := by decide +kernel
theorem dL_owners_374 : decode cL_owners 374 = .ok (.iload_n 2, 1) := by decide +kernel
theorem dL_owners_375 : decode cL_owners 375 = .ok (.ifCond .ne 7, 3) := by decide +kernel
theorem dL_owners_378 : decode cL_owners 378 = .ok (.iconst 0, 1) := by decide +kernel
theorem dL_owners_379 : decode cL_owners 379 = .ok (.goto 5, 3) := by decide +kernel
theorem dL_owners_382 : decode cL_owners 382 = .ok (.iload 9, 2) := by decide +kernel
theorem dL_owners_384 : decode cL_owners 384 = .ok (.imul, 1) := by decide +kernel
theorem dL_owners_385 : decode cL_owners 385 = .ok (.i2l, 1) := by decide +kernel
theorem dL_owners_386 : decode cL_owners 386 = .ok (.ladd, 1) := by decide +kernel
theorem dL_owners_387 : decode cL_owners 387 = .ok (.invokevirtual 75, 3) := by decide +kernel
theorem dL_owners_390 : decode cL_owners 390 = .ok (.iload_n 2, 1) := by decide +kernel
theorem dL_owners_391 : decode cL_owners 391 = .ok (.ifCond .ne 7, 3) := by decide +kernel
theorem dL_owners_394 : decode cL_owners 394 = .ok (.iconst 0, 1) := by decide +kernel
theorem dL_owners_395 : decode cL_owners 395 = .ok (.goto 5, 3) := by decide +kernel
theorem dL_owners_398 : decode cL_owners 398 = .ok (.bipush (-9), 2) := by decide +kernel
theorem dL_owners_400 : decode cL_owners 400 = .ok (.if_icmp .ne 30, 3) := by decide +kernel
theorem dL_owners_403 : decode cL_owners 403 = .ok (.aload_n 0, 1) := by decide +kernel
theorem dL_owners_404 : decode cL_owners 404 = .ok (.iload 7, 2) := by decide +kernel
theorem dL_owners_406 : decode cL_owners 406 = .ok (.iload 8, 2) := by decide +kernel
theorem dL_owners_408 : decode cL_owners 408 = .ok (.bipush 20, 2) := by decide +kernel
theorem dL_owners_410 : decode cL_owners 410 = .ok (.iload 8, 2) := by decide +kernel
theorem dL_owners_412 : decode cL_owners 412 = .ok (.isub, 1) := by decide +kernel
theorem dL_owners_413 : decode cL_owners 413 = .ok (.iload 7, 2) := by decide +kernel
theorem dL_owners_415 : decode cL_owners 415 = .ok (.invokevirtual 62, 3) := by decide +kernel
theorem dL_owners_418 : decode cL_owners 418 = .ok (.iload 10, 2) := by decide +kernel
theorem dL_owners_420 : decode cL_owners 420 = .ok (.iand, 1) := by decide +kernel
theorem dL_owners_421 : decode cL_owners 421 = .ok (.iload 10, 2) := by decide +kernel
theorem dL_owners_423 : decode cL_owners 423 = .ok (.if_icmp .ne 7, 3) := by decide +kernel
theorem dL_owners_426 : decode cL_owners 426 = .ok (.iconst 1, 1) := by decide +kernel
theorem dL_owners_427 : decode cL_owners 427 = .ok (.goto 4, 3) := by decide +kernel
theorem dL_owners_430 : decode cL_owners 430 = .ok (.iconst 0, 1) := by decide +kernel
theorem dL_owners_431 : decode cL_owners 431 = .ok (.istore_n 3, 1) := by decide +kernel
theorem dL_owners_432 : decode cL_owners 432 = .ok (.iinc 6 1, 3) := by decide +kernel
theorem dL_owners_435 : decode cL_owners 435 = .ok (.goto (-341), 3) := by decide +kernel
theorem dL_owners_438 : decode cL_owners 438 = .ok (.iload_n 3, 1) := by decide +kernel
theorem dL_owners_439 : decode cL_owners 439 = .ok (.ireturn, 1) := by decide +kernel
theorem dL_cells_0 : decode cL_cells 0 = .ok (.aload_n 0, 1) := by decide +kernel
theorem dL_cells_1 : decode cL_cells 1 = .ok (.invokevirtual 9, 3) := by decide +kernel
theorem dL_cells_4 : decode cL_cells 4 = .ok (.istore_n 1, 1) := by decide +kernel
theorem dL_cells_5 : decode cL_cells 5 = .ok (.iconst 1, 1) := by decide +kernel
theorem dL_cells_6 : decode cL_cells 6 = .ok (.istore_n 2, 1) := by decide +kernel
theorem dL_cells_7 : decode cL_cells 7 = .ok (.iconst 0, 1) := by decide +kernel
theorem dL_cells_8 : decode cL_cells 8 = .ok (.istore_n 3, 1) := by decide +kernel
theorem dL_cells_9 : decode cL_cells 9 = .ok (.iload_n 3, 1) := by decide +kernel
theorem dL_cells_10 : decode cL_cells 10 = .ok (.iload_n 1, 1) := by decide +kernel
theorem dL_cells_11 : decode cL_cells 11 = .ok (.if_icmp .ge 604, 3) := by decide +kernel
theorem dL_cells_14 : decode cL_cells 14 = .ok (.iload_n 2, 1) := by decide +kernel
theorem dL_cells_15 : decode cL_cells 15 = .ok (.ifCond .eq 600, 3) := by decide +kernel
theorem dL_cells_18 : decode cL_cells 18 = .ok (.aload_n 0, 1) := by decide +kernel
theorem dL_cells_19 : decode cL_cells 19 = .ok (.iload_n 3, 1) := by decide +kernel
theorem dL_cells_20 : decode cL_cells 20 = .ok (.invokevirtual 47, 3) := by decide +kernel
theorem dL_cells_23 : decode cL_cells 23 = .ok (.istore 4, 2) := by decide +kernel
theorem dL_cells_25 : decode cL_cells 25 = .ok (.aload_n 0, 1) := by decide +kernel
theorem dL_cells_26 : decode cL_cells 26 = .ok (.iload_n 3, 1) := by decide +kernel
theorem dL_cells_27 : decode cL_cells 27 = .ok (.invokevirtual 53, 3) := by decide +kernel
theorem dL_cells_30 : decode cL_cells 30 = .ok (.istore 5, 2) := by decide +kernel
theorem dL_cells_32 : decode cL_cells 32 = .ok (.iload 4, 2) := by decide +kernel
theorem dL_cells_34 : decode cL_cells 34 = .ok (.ifCond .eq 9, 3) := by decide +kernel
theorem dL_cells_37 : decode cL_cells 37 = .ok (.iload 4, 2) := by decide +kernel
theorem dL_cells_39 : decode cL_cells 39 = .ok (.iconst 2, 1) := by decide +kernel
theorem dL_cells_40 : decode cL_cells 40 = .ok (.if_icmp .le 83, 3) := by decide +kernel
theorem dL_cells_43 : decode cL_cells 43 = .ok (.aload_n 0, 1) := by decide +kernel
theorem dL_cells_44 : decode cL_cells 44 = .ok (.invokevirtual 124, 3) := by decide +kernel
theorem dL_cells_47 : decode cL_cells 47 = .ok (.iload_n 3, 1) := by decide +kernel
theorem dL_cells_48 : decode cL_cells 48 = .ok (.ishr, 1) := by decide +kernel
theorem dL_cells_49 : decode cL_cells 49 = .ok (.iconst 1, 1) := by decide +kernel
theorem dL_cells_50 : decode cL_cells 50 = .ok (.iand, 1) := by decide +kernel
theorem dL_cells_51 : decode cL_cells 51 = .ok (.iload 4, 2) := by decide +kernel
theorem dL_cells_53 : decode cL_cells 53 = .ok (.ifCond .ne 7, 3) := by decide +kernel
theorem dL_cells_56 : decode cL_cells 56 = .ok (.iconst 1, 1) := by decide +kernel
theorem dL_cells_57 : decode cL_cells 57 = .ok (.goto 4, 3) := by decide +kernel
theorem dL_cells_60 : decode cL_cells 60 = .ok (.iconst 0, 1) := by decide +kernel
theorem dL_cells_61 : decode cL_cells 61 = .ok (.if_icmp .ne 62, 3) := by decide +kernel
theorem dL_cells_64 : decode cL_cells 64 = .ok (.iload 5, 2) := by decide +kernel
theorem dL_cells_66 : decode cL_cells 66 = .ok (.iload_n 3, 1) := by decide +kernel
theorem dL_cells_67 : decode cL_cells 67 = .ok (.ishr, 1) := by decide +kernel
theorem dL_cells_68 : decode cL_cells 68 = .ok (.iconst 1, 1) := by decide +kernel
theorem dL_cells_69 : decode cL_cells 69 = .ok (.iand, 1) := by decide +kernel
theorem dL_cells_70 : decode cL_cells 70 = .ok (.ifCond .ne 53, 3) := by decide +kernel
theorem dL_cells_73 : decode cL_cells 73 = .ok (.iload 4, 2) := by decide +kernel
theorem dL_cells_75 : decode cL_cells 75 = .ok (.ifCond .gt 8, 3) := by decide +kernel
theorem dL_cells_78 : decode cL_cells 78 = .ok (.iload 5, 2) := by decide +kernel
theorem dL_cells_80 : decode cL_cells 80 = .ok (.ifCond .ne 43, 3) := by decide +kernel
theorem dL_cells_83 : decode cL_cells 83 = .ok (.aload_n 0, 1) := by decide +kernel
theorem dL_cells_84 : decode cL_cells 84 = .ok (.iconst 1, 1) := by decide +kernel
theorem dL_cells_85 : decode cL_cells 85 = .ok (.ldc2_w 137, 3) := by decide +kernel
theorem dL_cells_88 : decode cL_cells 88 = .ok (.sipush 1000, 3) := by decide +kernel
theorem dL_cells_91 : decode cL_cells 91 = .ok (.iload_n 3, 1) := by decide +kernel
theorem dL_cells_92 : decode cL_cells 92 = .ok (.imul, 1) := by decide +kernel
theorem dL_cells_93 : decode cL_cells 93 = .ok (.i2l, 1) := by decide +kernel
theorem dL_cells_94 : decode cL_cells 94 = .ok (.ladd, 1) := by decide +kernel
theorem dL_cells_95 : decode cL_cells 95 = .ok (.invokevirtual 75, 3) := by decide +kernel
theorem dL_cells_98 : decode cL_cells 98 = .ok (.iload 4, 2) := by decide +kernel
theorem dL_cells_100 : decode cL_cells 100 = .ok (.ifCond .ne 8, 3) := by decide +kernel
theorem dL_cells_103 : decode cL_cells 103 = .ok (.bipush (-9), 2) := by decide +kernel
theorem dL_cells_105 : decode cL_cells 105 = .ok (.goto 4, 3) := by decide +kernel
theorem dL_cells_108 : decode cL_cells 108 = .ok (.iconst 0, 1) := by decide +kernel
theorem dL_cells_109 : decode cL_cells 109 = .ok (.if_icmp .ne 14, 3) := by decide +kernel
theorem dL_cells_112 : decode cL_cells 112 = .ok (.iload 5, 2) := by decide +kernel
theorem dL_cells_114 : decode cL_cells 114 = .ok (.iload_n 1, 1) := by decide +kernel
theorem dL_cells_115 : decode cL_cells 115 = .ok (.ishr, 1) := by decide +kernel
theorem dL_cells_116 : decode cL_cells 116 = .ok (.ifCond .ne 7, 3) := by decide +kernel
theorem dL_cells_119 : decode cL_cells 119 = .ok (.iconst 1, 1) := by decide +kernel
theorem dL_cells_120 : decode cL_cells 120 = .ok (.goto 4, 3) := by decide +kernel
theorem dL_cells_123 : decode cL_cells 123 = .ok (.iconst 0, 1) := by decide +kernel
theorem dL_cells_124 : decode cL_cells 124 = .ok (.istore_n 2, 1) := by decide +kernel
theorem dL_cells_125 : decode cL_cells 125 = .ok (.iconst 0, 1) := by decide +kernel
theorem dL_cells_126 : decode cL_cells 126 = .ok (.istore 6, 2) := by decide +kernel
theorem dL_cells_128 : decode cL_cells 128 = .ok (.iload 6, 2) := by decide +kernel
theorem dL_cells_130 : decode cL_cells 130 = .ok (.iload 4, 2) := by decide +kernel
theorem dL_cells_132 : decode cL_cells 132 = .ok (.if_icmp .ge 432, 3) := by decide +kernel
theorem dL_cells_135 : decode cL_cells 135 = .ok (.iload_n 2, 1) := by decide +kernel
theorem dL_cells_136 : decode cL_cells 136 = .ok (.ifCond .eq 428, 3) := by decide +kernel
theorem dL_cells_139 : decode cL_cells 139 = .ok (.aload_n 0, 1) := by decide +kernel
theorem dL_cells_140 : decode cL_cells 140 = .ok (.iload_n 3, 1) := by decide +kernel
theorem dL_cells_141 : decode cL_cells 141 = .ok (.iload 6, 2) := by decide +kernel
theorem dL_cells_143 : decode cL_cells 143 = .ok (.iconst 0, 1) := by decide +kernel
theorem dL_cells_144 : decode cL_cells 144 = .ok (.invokevirtual 50, 3) := by decide +kernel
theorem dL_cells_147 : decode cL_cells 147 = .ok (.i2l, 1) := by decide +kernel
theorem dL_cells_148 : decode cL_cells 148 = .ok (.lstore 7, 2) := by decide +kernel
theorem dL_cells_150 : decode cL_cells 150 = .ok (.aload_n 0, 1) := by decide +kernel
theorem dL_cells_151 : decode cL_cells 151 = .ok (.iload_n 3, 1) := by decide +kernel
theorem dL_cells_152 : decode cL_cells 152 = .ok (.iload 6, 2) := by decide +kernel
theorem dL_cells_154 : decode cL_cells 154 = .ok (.iconst 0, 1) := by decide +kernel
theorem dL_cells_155 : decode cL_cells 155 = .ok (.invokevirtual 93, 3) := by decide +kernel
theorem dL_cells_158 : decode cL_cells 158 = .ok (.i2l, 1) := by decide +kernel
theorem dL_cells_159 : decode cL_cells 159 = .ok (.lstore 9, 2) := by decide +kernel
theorem dL_cells_161 : decode cL_cells 161 = .ok (.aload_n 0, 1) := by decide +kernel
theorem dL_cells_162 : decode cL_cells 162 = .ok (.iload_n 3, 1) := by decide +kernel
theorem dL_cells_163 : decode cL_cells 163 = .ok (.iload 6, 2) := by decide +kernel
theorem dL_cells_165 : decode cL_cells 165 = .ok (.iconst 1, 1) := by decide +kernel
theorem dL_cells_166 : decode cL_cells 166 = .ok (.invokevirtual 50, 3) := by decide +kernel
theorem dL_cells_169 : decode cL_cells 169 = .ok (.i2l, 1) := by decide +kernel
theorem dL_cells_170 : decode cL_cells 170 = .ok (.lstore 11, 2) := by decide +kernel
theorem dL_cells_172 : decode cL_cells 172 = .ok (.aload_n 0, 1) := by decide +kernel
theorem dL_cells_173 : decode cL_cells 173 = .ok (.iload_n 3, 1) := by decide +kernel
theorem dL_cells_174 : decode cL_cells 174 = .ok (.iload 6, 2) := by decide +kernel
theorem dL_cells_176 : decode cL_cells 176 = .ok (.iconst 1, 1) := by decide +kernel
theorem dL_cells_177 : decode cL_cells 177 = .ok (.invokevirtual 93, 3) := by decide +kernel
theorem dL_cells_180 : decode cL_cells 180 = .ok (.i2l, 1) := by decide +kernel
theorem dL_cells_181 : decode cL_cells 181 = .ok (.lstore 13, 2) := by decide +kernel
theorem dL_cells_183 : decode cL_cells 183 = .ok (.aload_n 0, 1) := by decide +kernel
theorem dL_cells_184 : decode cL_cells 184 = .ok (.iload_n 3, 1) := by decide +kernel
theorem dL_cells_185 : decode cL_cells 185 = .ok (.iconst 0, 1) := by decide +kernel
theorem dL_cells_186 : decode cL_cells 186 = .ok (.iconst 0, 1) := by decide +kernel
theorem dL_cells_187 : decode cL_cells 187 = .ok (.invokevirtual 50, 3) := by decide +kernel
theorem dL_cells_190 : decode cL_cells 190 = .ok (.i2l, 1) := by decide +kernel
theorem dL_cells_191 : decode cL_cells 191 = .ok (.lstore 15, 2) := by decide +kernel
theorem dL_cells_193 : decode cL_cells 193 = .ok (.aload_n 0, 1) := by decide +kernel
theorem dL_cells_194 : decode cL_cells 194 = .ok (.iload_n 3, 1) := by decide +kernel
theorem dL_cells_195 : decode cL_cells 195 = .ok (.iconst 0, 1) := by decide +kernel
theorem dL_cells_196 : decode cL_cells 196 = .ok (.iconst 0, 1) := by decide +kernel
theorem dL_cells_197 : decode cL_cells 197 = .ok (.invokevirtual 93, 3) := by decide +kernel
theorem dL_cells_200 : decode cL_cells 200 = .ok (.i2l, 1) := by decide +kernel
theorem dL_cells_201 : decode cL_cells 201 = .ok (.lstore 17, 2) := by decide +kernel
theorem dL_cells_203 : decode cL_cells 203 = .ok (.aload_n 0, 1) := by decide +kernel
theorem dL_cells_204 : decode cL_cells 204 = .ok (.iload_n 3, 1) := by decide +kernel
theorem dL_cells_205 : decode cL_cells 205 = .ok (.iconst 0, 1) := by decide +kernel
theorem dL_cells_206 : decode cL_cells 206 = .ok (.iconst 1, 1) := by decide +kernel
theorem dL_cells_207 : decode cL_cells 207 = .ok (.invokevirtual 50, 3) := by decide +kernel
theorem dL_cells_210 : decode cL_cells 210 = .ok (.i2l, 1) := by decide +kernel
theorem dL_cells_211 : decode cL_cells 211 = .ok (.lstore 19, 2) := by decide +kernel
theorem dL_cells_213 : decode cL_cells 213 = .ok (.aload_n 0, 1) := by decide +kernel
theorem dL_cells_214 : decode cL_cells 214 = .ok (.iload_n 3, 1) := by decide +kernel
theorem dL_cells_215 : decode cL_cells 215 = .ok (.iconst 0, 1) := by decide +kernel
theorem dL_cells_216 : decode cL_cells 216 = .ok (.iconst 1, 1) := by decide +kernel
theorem dL_cells_217 : decode cL_cells 217 = .ok (.invokevirtual 93, 3) := by decide +kernel
theorem dL_cells_220 : decode cL_cells 220 = .ok (.i2l, 1) := by decide +kernel
theorem dL_cells_221 : decode cL_cells 221 = .ok (.lstore 21, 2) := by decide +kernel
theorem dL_cells_223 : decode cL_cells 223 = .ok (.lload 7, 2) := by decide +kernel
theorem dL_cells_225 : decode cL_cells 225 = .ok (.lconst 0, 1) := by decide +kernel
theorem dL_cells_226 : decode cL_cells 226 = .ok (.lcmp, 1) := by decide +kernel
theorem dL_cells_227 : decode cL_cells 227 = .ok (.ifCond .lt 99, 3) := by decide +kernel
theorem dL_cells_230 : decode cL_cells 230 = .ok (.lload 9, 2) := by decide +kernel
theorem dL_cells_232 : decode cL_cells 232 = .ok (.lconst 0, 1) := by decide +kernel
theorem dL_cells_233 : decode cL_cells 233 = .ok (.lcmp, 1) := by decide +kernel
theorem dL_cells_234 : decode cL_cells 234 = .ok (.ifCond .le 92, 3) := by decide +kernel
theorem dL_cells_237 : decode cL_cells 237 = .ok (.lload 7, 2) := by decide +kernel
theorem dL_cells_239 : decode cL_cells 239 = .ok (.ldc2_w 139, 3) := by decide +kernel
theorem dL_cells_242 : decode cL_cells 242 = .ok (.lload 9, 2) := by decide +kernel
theorem dL_cells_244 : decode cL_cells 244 = .ok (.lmul, 1) := by decide +kernel
theorem dL_cells_245 : decode cL_cells 245 = .ok (.lcmp, 1) := by decide +kernel
theorem dL_cells_246 : decode cL_cells 246 = .ok (.ifCond .gt 80, 3) := by decide +kernel
theorem dL_cells_249 : decode cL_cells 249 = .ok (.lload 11, 2) := by decide +kernel
theorem dL_cells_251 : decode cL_cells 251 = .ok (.lconst 0, 1) := by decide +kernel
theorem dL_cells_252 : decode cL_cells 252 = .ok (.lcmp, 1) := by decide +kernel
theorem dL_cells_253 : decode cL_cells 253 = .ok (.ifCond .lt 73, 3) := by decide +kernel
theorem dL_cells_256 : decode cL_cells 256 = .ok (.lload 13, 2) := by decide +kernel
theorem dL_cells_258 : decode cL_cells 258 = .ok (.lconst 0, 1) := by decide +kernel
theorem dL_cells_259 : decode cL_cells 259 = .ok (.lcmp, 1) := by decide +kernel
theorem dL_cells_260 : decode cL_cells 260 = .ok (.ifCond .le 66, 3) := by decide +kernel
theorem dL_cells_263 : decode cL_cells 263 = .ok (.lload 11, 2) := by decide +kernel
theorem dL_cells_265 : decode cL_cells 265 = .ok (.ldc2_w 139, 3) := by decide +kernel
theorem dL_cells_268 : decode cL_cells 268 = .ok (.lload 13, 2) := by decide +kernel
theorem dL_cells_270 : decode cL_cells 270 = .ok (.lmul, 1) := by decide +kernel
theorem dL_cells_271 : decode cL_cells 271 = .ok (.lcmp, 1) := by decide +kernel
theorem dL_cells_272 : decode cL_cells 272 = .ok (.ifCond .gt 54, 3) := by decide +kernel
theorem dL_cells_275 : decode cL_cells 275 = .ok (.iload 6, 2) := by decide +kernel
theorem dL_cells_277 : decode cL_cells 277 = .ok (.ifCond .eq 45, 3) := by decide +kernel
theorem dL_cells_280 : decode cL_cells 280 = .ok (.lload 15, 2) := by decide +kernel
theorem dL_cells_282 : decode cL_cells 282 = .ok (.lload 9, 2) := by decide +kernel
theorem dL_cells_284 : decode cL_cells 284 = .ok (.lmul, 1) := by decide +kernel
theorem dL_cells_285 : decode cL_cells 285 = .ok (.lload 7, 2) := by decide +kernel
theorem dL_cells_287 : decode cL_cells 287 = .ok (.lload 17, 2) := by decide +kernel
theorem dL_cells_289 : decode cL_cells 289 = .ok (.lmul, 1) := by decide +kernel
theorem dL_cells_290 : decode cL_cells 290 = .ok (.lcmp, 1) := by decide +kernel
theorem dL_cells_291 : decode cL_cells 291 = .ok (.ifCond .lt 31, 3) := by decide +kernel
theorem dL_cells_294 : decode cL_cells 294 = .ok (.lload 15, 2) := by decide +kernel
theorem dL_cells_296 : decode cL_cells 296 = .ok (.lload 9, 2) := by decide +kernel
theorem dL_cells_298 : decode cL_cells 298 = .ok (.lmul, 1) := by decide +kernel
theorem dL_cells_299 : decode cL_cells 299 = .ok (.lload 7, 2) := by decide +kernel
theorem dL_cells_301 : decode cL_cells 301 = .ok (.lload 17, 2) := by decide +kernel
theorem dL_cells_303 : decode cL_cells 303 = .ok (.lmul, 1) := by decide +kernel
theorem dL_cells_304 : decode cL_cells 304 = .ok (.lcmp, 1) := by decide +kernel
theorem dL_cells_305 : decode cL_cells 305 = .ok (.ifCond .ne 21, 3) := by decide +kernel
theorem dL_cells_308 : decode cL_cells 308 = .ok (.lload 19, 2) := by decide +kernel
theorem dL_cells_310 : decode cL_cells 310 = .ok (.lload 13, 2) := by decide +kernel
theorem dL_cells_312 : decode cL_cells 312 = .ok (.lmul, 1) := by decide +kernel
theorem dL_cells_313 : decode cL_cells 313 = .ok (.lload 11, 2) := by decide +kernel
theorem dL_cells_315 : decode cL_cells 315 = .ok (.lload 21, 2) := by decide +kernel
theorem dL_cells_317 : decode cL_cells 317 = .ok (.lmul, 1) := by decide +kernel
theorem dL_cells_318 : decode cL_cells 318 = .ok (.lcmp, 1) := by decide +kernel
theorem dL_cells_319 : decode cL_cells 319 = .ok (.ifCond .ge 7, 3) := by decide +kernel
theorem dL_cells_322 : decode cL_cells 322 = .ok (.iconst 1, 1) := by decide +kernel
theorem dL_cells_323 : decode cL_cells 323 = .ok (.goto 4, 3) := by decide +kernel
theorem dL_cells_326 : decode cL_cells 326 = .ok (.iconst 0, 1) := by decide +kernel
theorem dL_cells_327 : decode cL_cells 327 = .ok (.istore_n 2, 1) := by decide +kernel
theorem dL_cells_328 : decode cL_cells 328 = .ok (.lload 7, 2) := by decide +kernel
theorem dL_cells_330 : decode cL_cells 330 = .ok (.lconst 0, 1) := by decide +kernel
theorem dL_cells_331 : decode cL_cells 331 = .ok (.lcmp, 1) := by decide +kernel
theorem dL_cells_332 : decode cL_cells 332 = .ok (.ifCond .eq 15, 3) := by decide +kernel
theorem dL_cells_335 : decode cL_cells 335 = .ok (.lload 7, 2) := by decide +kernel
theorem dL_cells_337 : decode cL_cells 337 = .ok (.ldc2_w 139, 3) := by decide +kernel
theorem dL_cells_340 : decode cL_cells 340 = .ok (.lload 9, 2) := by decide +kernel
theorem dL_cells_342 : decode cL_cells 342 = .ok (.lmul, 1) := by decide +kernel
theorem dL_cells_343 : decode cL_cells 343 = .ok (.lcmp, 1) := by decide +kernel
theorem dL_cells_344 : decode cL_cells 344 = .ok (.ifCond .ne 7, 3) := by decide +kernel
theorem dL_cells_347 : decode cL_cells 347 = .ok (.iconst 1, 1) := by decide +kernel
theorem dL_cells_348 : decode cL_cells 348 = .ok (.goto 4, 3) := by decide +kernel
theorem dL_cells_351 : decode cL_cells 351 = .ok (.iconst 0, 1) := by decide +kernel
theorem dL_cells_352 : decode cL_cells 352 = .ok (.istore 23, 2) := by decide +kernel
theorem dL_cells_354 : decode cL_cells 354 = .ok (.iload 23, 2) := by decide +kernel
theorem dL_cells_356 : decode cL_cells 356 = .ok (.lload 11, 2) := by decide +kernel
theorem dL_cells_358 : decode cL_cells 358 = .ok (.lconst 0, 1) := by decide +kernel
theorem dL_cells_359 : decode cL_cells 359 = .ok (.lcmp, 1) := by decide +kernel
theorem dL_cells_360 : decode cL_cells 360 = .ok (.ifCond .eq 15, 3) := by decide +kernel
theorem dL_cells_363 : decode cL_cells 363 = .ok (.lload 11, 2) := by decide +kernel
theorem dL_cells_365 : decode cL_cells 365 = .ok (.ldc2_w 139, 3) := by decide +kernel
theorem dL_cells_368 : decode cL_cells 368 = .ok (.lload 13, 2) := by decide +kernel
theorem dL_cells_370 : decode cL_cells 370 = .ok (.lmul, 1) := by decide +kernel
theorem dL_cells_371 : decode cL_cells 371 = .ok (.lcmp, 1) := by decide +kernel
theorem dL_cells_372 : decode cL_cells 372 = .ok (.ifCond .ne 7, 3) := by decide +kernel
theorem dL_cells_375 : decode cL_cells 375 = .ok (.iconst 1, 1) := by decide +kernel
theorem dL_cells_376 : decode cL_cells 376 = .ok (.goto 4, 3) := by decide +kernel
theorem dL_cells_379 : decode cL_cells 379 = .ok (.iconst 0, 1) := by decide +kernel
theorem dL_cells_380 : decode cL_cells 380 = .ok (.iadd, 1) := by decide +kernel
theorem dL_cells_381 : decode cL_cells 381 = .ok (.istore 23, 2) := by decide +kernel
theorem dL_cells_383 : decode cL_cells 383 = .ok (.iconst 0, 1) := by decide +kernel
theorem dL_cells_384 : decode cL_cells 384 = .ok (.istore 24, 2) := by decide +kernel
theorem dL_cells_386 : decode cL_cells 386 = .ok (.iload 24, 2) := by decide +kernel
theorem dL_cells_388 : decode cL_cells 388 = .ok (.iload_n 1, 1) := by decide +kernel
theorem dL_cells_389 : decode cL_cells 389 = .ok (.if_icmp .ge 153, 3) := by decide +kernel
theorem dL_cells_392 : decode cL_cells 392 = .ok (.iconst 2, 1) := by decide +kernel
theorem dL_cells_393 : decode cL_cells 393 = .ok (.aload_n 0, 1) := by decide +kernel
theorem dL_cells_394 : decode cL_cells 394 = .ok (.iload 24, 2) := by decide +kernel
theorem dL_cells_396 : decode cL_cells 396 = .ok (.iconst 0, 1) := by decide +kernel
theorem dL_cells_397 : decode cL_cells 397 = .ok (.invokevirtual 21, 3) := by decide +kernel
theorem dL_cells_400 : decode cL_cells 400 = .ok (.aload_n 0, 1) := by decide +kernel
theorem dL_cells_401 : decode cL_cells 401 = .ok (.iload_n 3, 1) := by decide +kernel
theorem dL_cells_402 : decode cL_cells 402 = .ok (.iconst 0, 1) := by decide +kernel
theorem dL_cells_403 : decode cL_cells 403 = .ok (.invokevirtual 21, 3) := by decide +kernel
theorem dL_cells_406 : decode cL_cells 406 = .ok (.isub, 1) := by decide +kernel
theorem dL_cells_407 : decode cL_cells 407 = .ok (.imul, 1) := by decide +kernel
theorem dL_cells_408 : decode cL_cells 408 = .ok (.i2l, 1) := by decide +kernel
theorem dL_cells_409 : decode cL_cells 409 = .ok (.lstore 25, 2) := by decide +kernel
theorem dL_cells_411 : decode cL_cells 411 = .ok (.iconst 2, 1) := by decide +kernel
theorem dL_cells_412 : decode cL_cells 412 = .ok (.aload_n 0, 1) := by decide +kernel
theorem dL_cells_413 : decode cL_cells 413 = .ok (.iload 24, 2) := by decide +kernel
theorem dL_cells_415 : decode cL_cells 415 = .ok (.iconst 1, 1) := by decide +kernel
theorem dL_cells_416 : decode cL_cells 416 = .ok (.invokevirtual 21, 3) := by decide +kernel
theorem dL_cells_419 : decode cL_cells 419 = .ok (.aload_n 0, 1) := by decide +kernel
theorem dL_cells_420 : decode cL_cells 420 = .ok (.iload_n 3, 1) := by decide +kernel
theorem dL_cells_421 : decode cL_cells 421 = .ok (.iconst 1, 1) := by decide +kernel
theorem dL_cells_422 : decode cL_cells 422 = .ok (.invokevirtual 21, 3) := by decide +kernel
theorem dL_cells_425 : decode cL_cells 425 = .ok (.isub, 1) := by decide +kernel
theorem dL_cells_426 : decode cL_cells 426 = .ok (.imul, 1) := by decide +kernel
theorem dL_cells_427 : decode cL_cells 427 = .ok (.i2l, 1) := by decide +kernel
theorem dL_cells_428 : decode cL_cells 428 = .ok (.lstore 27, 2) := by decide +kernel
theorem dL_cells_430 : decode cL_cells 430 = .ok (.aload_n 0, 1) := by decide +kernel
theorem dL_cells_431 : decode cL_cells 431 = .ok (.iload 24, 2) := by decide +kernel
theorem dL_cells_433 : decode cL_cells 433 = .ok (.iconst 0, 1) := by decide +kernel
theorem dL_cells_434 : decode cL_cells 434 = .ok (.iconst 0, 1) := by decide +kernel
theorem dL_cells_435 : decode cL_cells 435 = .ok (.invokevirtual 25, 3) := by decide +kernel
theorem dL_cells_438 : decode cL_cells 438 = .ok (.aload_n 0, 1) := by decide +kernel
theorem dL_cells_439 : decode cL_cells 439 = .ok (.iload_n 3, 1) := by decide +kernel
theorem dL_cells_440 : decode cL_cells 440 = .ok (.iconst 0, 1) := by decide +kernel
theorem dL_cells_441 : decode cL_cells 441 = .ok (.iconst 0, 1) := by decide +kernel
theorem dL_cells_442 : decode cL_cells 442 = .ok (.invokevirtual 25, 3) := by decide +kernel
theorem dL_cells_445 : decode cL_cells 445 = .ok (.isub, 1) := by decide +kernel
theorem dL_cells_446 : decode cL_cells 446 = .ok (.i2l, 1) := by decide +kernel
theorem dL_cells_447 : decode cL_cells 447 = .ok (.lstore 29, 2) := by decide +kernel
theorem dL_cells_449 : decode cL_cells 449 = .ok (.lload 25, 2) := by decide +kernel
theorem dL_cells_451 : decode cL_cells 451 = .ok (.lload 7, 2) := by decide +kernel
theorem dL_cells_453 : decode cL_cells 453 = .ok (.lmul, 1) := by decide +kernel
theorem dL_cells_454 : decode cL_cells 454 = .ok (.lload 13, 2) := by decide +kernel
theorem dL_cells_456 : decode cL_cells 456 = .ok (.lmul, 1) := by decide +kernel
theorem dL_cells_457 : decode cL_cells 457 = .ok (.lload 27, 2) := by decide +kernel
theorem dL_cells_459 : decode cL_cells 459 = .ok (.lload 11, 2) := by decide +kernel
theorem dL_cells_461 : decode cL_cells 461 = .ok (.lmul, 1) := by decide +kernel
theorem dL_cells_462 : decode cL_cells 462 = .ok (.lload 9, 2) := by decide +kernel
theorem dL_cells_464 : decode cL_cells 464 = .ok (.lmul, 1) := by decide +kernel
theorem dL_cells_465 : decode cL_cells 465 = .ok (.ladd, 1) := by decide +kernel
theorem dL_cells_466 : decode cL_cells 466 = .ok (.lstore 31, 2) := by decide +kernel
theorem dL_cells_468 : decode cL_cells 468 = .ok (.iload_n 2, 1) := by decide +kernel
theorem dL_cells_469 : decode cL_cells 469 = .ok (.ifCond .eq 21, 3) := by decide +kernel
theorem dL_cells_472 : decode cL_cells 472 = .ok (.lload 31, 2) := by decide +kernel
theorem dL_cells_474 : decode cL_cells 474 = .ok (.lload 29, 2) := by decide +kernel
theorem dL_cells_476 : decode cL_cells 476 = .ok (.lload 9, 2) := by decide +kernel
theorem dL_cells_478 : decode cL_cells 478 = .ok (.lmul, 1) := by decide +kernel
theorem dL_cells_479 : decode cL_cells 479 = .ok (.lload 13, 2) := by decide +kernel
theorem dL_cells_481 : decode cL_cells 481 = .ok (.lmul, 1) := by decide +kernel
theorem dL_cells_482 : decode cL_cells 482 = .ok (.lcmp, 1) := by decide +kernel
theorem dL_cells_483 : decode cL_cells 483 = .ok (.ifCond .gt 7, 3) := by decide +kernel
theorem dL_cells_486 : decode cL_cells 486 = .ok (.iconst 1, 1) := by decide +kernel
theorem dL_cells_487 : decode cL_cells 487 = .ok (.goto 4, 3) := by decide +kernel
theorem dL_cells_490 : decode cL_cells 490 = .ok (.iconst 0, 1) := by decide +kernel
theorem dL_cells_491 : decode cL_cells 491 = .ok (.istore_n 2, 1) := by decide +kernel
theorem dL_cells_492 : decode cL_cells 492 = .ok (.iload 23, 2) := by decide +kernel
theorem dL_cells_494 : decode cL_cells 494 = .ok (.iload 24, 2) := by decide +kernel
theorem dL_cells_496 : decode cL_cells 496 = .ok (.iload_n 3, 1) := by decide +kernel
theorem dL_cells_497 : decode cL_cells 497 = .ok (.if_icmp .eq 35, 3) := by decide +kernel
theorem dL_cells_500 : decode cL_cells 500 = .ok (.lload 31, 2) := by decide +kernel
theorem dL_cells_502 : decode cL_cells 502 = .ok (.lload 29, 2) := by decide +kernel
theorem dL_cells_504 : decode cL_cells 504 = .ok (.lload 9, 2) := by decide +kernel
theorem dL_cells_506 : decode cL_cells 506 = .ok (.lmul, 1) := by decide +kernel
theorem dL_cells_507 : decode cL_cells 507 = .ok (.lload 13, 2) := by decide +kernel
theorem dL_cells_509 : decode cL_cells 509 = .ok (.lmul, 1) := by decide +kernel
theorem dL_cells_510 : decode cL_cells 510 = .ok (.lcmp, 1) := by decide +kernel
theorem dL_cells_511 : decode cL_cells 511 = .ok (.ifCond .ne 21, 3) := by decide +kernel
theorem dL_cells_514 : decode cL_cells 514 = .ok (.lload 25, 2) := by decide +kernel
theorem dL_cells_516 : decode cL_cells 516 = .ok (.lconst 0, 1) := by decide +kernel
theorem dL_cells_517 : decode cL_cells 517 = .ok (.lcmp, 1) := by decide +kernel
theorem dL_cells_518 : decode cL_cells 518 = .ok (.ifCond .ne 10, 3) := by decide +kernel
theorem dL_cells_521 : decode cL_cells 521 = .ok (.lload 27, 2) := by decide +kernel
theorem dL_cells_523 : decode cL_cells 523 = .ok (.lconst 0, 1) := by decide +kernel
theorem dL_cells_524 : decode cL_cells 524 = .ok (.lcmp, 1) := by decide +kernel
theorem dL_cells_525 : decode cL_cells 525 = .ok (.ifCond .eq 7, 3) := by decide +kernel
theorem dL_cells_528 : decode cL_cells 528 = .ok (.iconst 1, 1) := by decide +kernel
theorem dL_cells_529 : decode cL_cells 529 = .ok (.goto 4, 3) := by decide +kernel
theorem dL_cells_532 : decode cL_cells 532 = .ok (.iconst 0, 1) := by decide +kernel
theorem dL_cells_533 : decode cL_cells 533 = .ok (.iadd, 1) := by decide +kernel
theorem dL_cells_534 : decode cL_cells 534 = .ok (.istore 23, 2) := by decide +kernel
theorem dL_cells_536 : decode cL_cells 536 = .ok (.iinc 24 1, 3) := by decide +kernel
theorem dL_cells_539 : decode cL_cells 539 = .ok (.goto (-153), 3) := by decide +kernel
theorem dL_cells_542 : decode cL_cells 542 = .ok (.iload_n 2, 1) := by decide +kernel
theorem dL_cells_543 : decode cL_cells 543 = .ok (.ifCond .eq 13, 3) := by decide +kernel
theorem dL_cells_546 : decode cL_cells 546 = .ok (.iload 23, 2) := by decide +kernel
theorem dL_cells_548 : decode cL_cells 548 = .ok (.iconst 1, 1) := by decide +kernel
theorem dL_cells_549 : decode cL_cells 549 = .ok (.if_icmp .le 7, 3) := by decide +kernel
theorem dL_cells_552 : decode cL_cells 552 = .ok (.iconst 1, 1) := by decide +kernel
theorem dL_cells_553 : decode cL_cells 553 = .ok (.goto 4, 3) := by decide +kernel
theorem dL_cells_556 : decode cL_cells 556 = .ok (.iconst 0, 1) := by decide +kernel
theorem dL_cells_557 : decode cL_cells 557 = .ok (.istore_n 2, 1) := by decide +kernel
theorem dL_cells_558 : decode cL_cells 558 = .ok (.iinc 6 1, 3) := by decide +kernel
theorem dL_cells_561 : decode cL_cells 561 = .ok (.goto (-433), 3) := by decide +kernel
theorem dL_cells_564 : decode cL_cells 564 = .ok (.iconst 0, 1) := by decide +kernel
theorem dL_cells_565 : decode cL_cells 565 = .ok (.istore 6, 2) := by decide +kernel
theorem dL_cells_567 : decode cL_cells 567 = .ok (.iload 6, 2) := by decide +kernel
theorem dL_cells_569 : decode cL_cells 569 = .ok (.iload_n 1, 1) := by decide +kernel
theorem dL_cells_570 : decode cL_cells 570 = .ok (.if_icmp .ge 39, 3) := by decide +kernel
theorem dL_cells_573 : decode cL_cells 573 = .ok (.iload_n 2, 1) := by decide +kernel
theorem dL_cells_574 : decode cL_cells 574 = .ok (.ifCond .eq 35, 3) := by decide +kernel
theorem dL_cells_577 : decode cL_cells 577 = .ok (.iload 5, 2) := by decide +kernel
theorem dL_cells_579 : decode cL_cells 579 = .ok (.iload 6, 2) := by decide +kernel
theorem dL_cells_581 : decode cL_cells 581 = .ok (.ishr, 1) := by decide +kernel
theorem dL_cells_582 : decode cL_cells 582 = .ok (.iconst 1, 1) := by decide +kernel
theorem dL_cells_583 : decode cL_cells 583 = .ok (.iand, 1) := by decide +kernel
theorem dL_cells_584 : decode cL_cells 584 = .ok (.aload_n 0, 1) := by decide +kernel
theorem dL_cells_585 : decode cL_cells 585 = .ok (.iload 6, 2) := by decide +kernel
theorem dL_cells_587 : decode cL_cells 587 = .ok (.invokevirtual 53, 3) := by decide +kernel
theorem dL_cells_590 : decode cL_cells 590 = .ok (.iload_n 3, 1) := by decide +kernel
theorem dL_cells_591 : decode cL_cells 591 = .ok (.ishr, 1) := by decide +kernel
theorem dL_cells_592 : decode cL_cells 592 = .ok (.iconst 1, 1) := by decide +kernel
theorem dL_cells_593 : decode cL_cells 593 = .ok (.iand, 1) := by decide +kernel
theorem dL_cells_594 : decode cL_cells 594 = .ok (.if_icmp .ne 7, 3) := by decide +kernel
theorem dL_cells_597 : decode cL_cells 597 = .ok (.iconst 1, 1) := by decide +kernel
theorem dL_cells_598 : decode cL_cells 598 = .ok (.goto 4, 3) := by decide +kernel
theorem dL_cells_601 : decode cL_cells 601 = .ok (.iconst 0, 1) := by decide +kernel
theorem dL_cells_602 : decode cL_cells 602 = .ok (.istore_n 2, 1) := by decide +kernel
theorem dL_cells_603 : decode cL_cells 603 = .ok (.iinc 6 1, 3) := by decide +kernel
theorem dL_cells_606 : decode cL_cells 606 = .ok (.goto (-39), 3) := by decide +kernel
theorem dL_cells_609 : decode cL_cells 609 = .ok (.iinc 3 1, 3) := by decide +kernel
theorem dL_cells_612 : decode cL_cells 612 = .ok (.goto (-603), 3) := by decide +kernel
theorem dL_cells_615 : decode cL_cells 615 = .ok (.iload_n 2, 1) := by decide +kernel
theorem dL_cells_616 : decode cL_cells 616 = .ok (.ireturn, 1) := by decide +kernel
theorem dL_triangles_0 : decode cL_triangles 0 = .ok (.aload_n 0, 1) := by decide +kernel
theorem dL_triangles_1 : decode cL_triangles 1 = .ok (.invokevirtual 9, 3) := by decide +kernel
theorem dL_triangles_4 : decode cL_triangles 4 = .ok (.istore_n 2, 1) := by decide +kernel
theorem dL_triangles_5 : decode cL_triangles 5 = .ok (.aload_n 0, 1) := by decide +kernel
theorem dL_triangles_6 : decode cL_triangles 6 = .ok (.invokestatic 117, 3) := by decide +kernel
theorem dL_triangles_9 : decode cL_triangles 9 = .ok (.lstore_n 3, 1) := by decide +kernel
theorem dL_triangles_10 : decode cL_triangles 10 = .ok (.iconst 0, 1) := by decide +kernel
theorem dL_triangles_11 : decode cL_triangles 11 = .ok (.istore 5, 2) := by decide +kernel
theorem dL_triangles_13 : decode cL_triangles 13 = .ok (.iconst 0, 1) := by decide +kernel
theorem dL_triangles_14 : decode cL_triangles 14 = .ok (.istore 6, 2) := by decide +kernel
theorem dL_triangles_16 : decode cL_triangles 16 = .ok (.iload 6, 2) := by decide +kernel
theorem dL_triangles_18 : decode cL_triangles 18 = .ok (.iload_n 2, 1) := by decide +kernel
theorem dL_triangles_19 : decode cL_triangles 19 = .ok (.if_icmp .ge 56, 3) := by decide +kernel
theorem dL_triangles_22 : decode cL_triangles 22 = .ok (.iconst 0, 1) := by decide +kernel
theorem dL_triangles_23 : decode cL_triangles 23 = .ok (.istore 7, 2) := by decide +kernel
theorem dL_triangles_25 : decode cL_triangles 25 = .ok (.iload 7, 2) := by decide +kernel
theorem dL_triangles_27 : decode cL_triangles 27 = .ok (.iload 6, 2) := by decide +kernel
theorem dL_triangles_29 : decode cL_triangles 29 = .ok (.if_icmp .ge 40, 3) := by decide +kernel
theorem dL_triangles_32 : decode cL_triangles 32 = .ok (.iconst 0, 1) := by decide +kernel
theorem dL_triangles_33 : decode cL_triangles 33 = .ok (.istore 8, 2) := by decide +kernel
theorem dL_triangles_35 : decode cL_triangles 35 = .ok (.iload 8, 2) := by decide +kernel
theorem dL_triangles_37 : decode cL_triangles 37 = .ok (.iload 7, 2) := by decide +kernel
theorem dL_triangles_39 : decode cL_triangles 39 = .ok (.if_icmp .ge 24, 3) := by decide +kernel
theorem dL_triangles_42 : decode cL_triangles 42 = .ok (.iload 5, 2) := by decide +kernel
theorem dL_triangles_44 : decode cL_triangles 44 = .ok (.aload_n 0, 1) := by decide +kernel
theorem dL_triangles_45 : decode cL_triangles 45 = .ok (.iload 6, 2) := by decide +kernel
theorem dL_triangles_47 : decode cL_triangles 47 = .ok (.iload 7, 2) := by decide +kernel
theorem dL_triangles_49 : decode cL_triangles 49 = .ok (.iload 8, 2) := by decide +kernel
theorem dL_triangles_51 : decode cL_triangles 51 = .ok (.invokevirtual 56, 3) := by decide +kernel
theorem dL_triangles_54 : decode cL_triangles 54 = .ok (.iadd, 1) := by decide +kernel
theorem dL_triangles_55 : decode cL_triangles 55 = .ok (.istore 5, 2) := by decide +kernel
theorem dL_triangles_57 : decode cL_triangles 57 = .ok (.iinc 8 1, 3) := by decide +kernel
theorem dL_triangles_60 : decode cL_triangles 60 = .ok (.goto (-25), 3) := by decide +kernel
theorem dL_triangles_63 : decode cL_triangles 63 = .ok (.iinc 7 1, 3) := by decide +kernel
theorem dL_triangles_66 : decode cL_triangles 66 = .ok (.goto (-41), 3) := by decide +kernel
theorem dL_triangles_69 : decode cL_triangles 69 = .ok (.iinc 6 1, 3) := by decide +kernel
theorem dL_triangles_72 : decode cL_triangles 72 = .ok (.goto (-56), 3) := by decide +kernel
theorem dL_triangles_75 : decode cL_triangles 75 = .ok (.aload_n 0, 1) := by decide +kernel
theorem dL_triangles_76 : decode cL_triangles 76 = .ok (.invokevirtual 127, 3) := by decide +kernel
theorem dL_triangles_79 : decode cL_triangles 79 = .ok (.iload 5, 2) := by decide +kernel
theorem dL_triangles_81 : decode cL_triangles 81 = .ok (.if_icmp .ne 39, 3) := by decide +kernel
theorem dL_triangles_84 : decode cL_triangles 84 = .ok (.iload_n 2, 1) := by decide +kernel
theorem dL_triangles_85 : decode cL_triangles 85 = .ok (.iconst 3, 1) := by decide +kernel
theorem dL_triangles_86 : decode cL_triangles 86 = .ok (.if_icmp .lt 30, 3) := by decide +kernel
theorem dL_triangles_89 : decode cL_triangles 89 = .ok (.aload_n 0, 1) := by decide +kernel
theorem dL_triangles_90 : decode cL_triangles 90 = .ok (.iconst 0, 1) := by decide +kernel
theorem dL_triangles_91 : decode cL_triangles 91 = .ok (.iconst 1, 1) := by decide +kernel
theorem dL_triangles_92 : decode cL_triangles 92 = .ok (.iconst 2, 1) := by decide +kernel
theorem dL_triangles_93 : decode cL_triangles 93 = .ok (.invokevirtual 56, 3) := by decide +kernel
theorem dL_triangles_96 : decode cL_triangles 96 = .ok (.aload_n 0, 1) := by decide +kernel
theorem dL_triangles_97 : decode cL_triangles 97 = .ok (.iconst 2, 1) := by decide +kernel
theorem dL_triangles_98 : decode cL_triangles 98 = .ok (.iconst 0, 1) := by decide +kernel
theorem dL_triangles_99 : decode cL_triangles 99 = .ok (.iconst 1, 1) := by decide +kernel
theorem dL_triangles_100 : decode cL_triangles 100 = .ok (.invokevirtual 56, 3) := by decide +kernel
theorem dL_triangles_103 : decode cL_triangles 103 = .ok (.if_icmp .ne 17, 3) := by decide +kernel
theorem dL_triangles_106 : decode cL_triangles 106 = .ok (.aload_n 0, 1) := by decide +kernel
theorem dL_triangles_107 : decode cL_triangles 107 = .ok (.iconst 1, 1) := by decide +kernel
theorem dL_triangles_108 : decode cL_triangles 108 = .ok (.iconst 1, 1) := by decide +kernel
theorem dL_triangles_109 : decode cL_triangles 109 = .ok (.iconst 2, 1) := by decide +kernel
theorem dL_triangles_110 : decode cL_triangles 110 = .ok (.invokevirtual 56, 3) := by decide +kernel
theorem dL_triangles_113 : decode cL_triangles 113 = .ok (.ifCond .ne 7, 3) := by decide +kernel
theorem dL_triangles_116 : decode cL_triangles 116 = .ok (.iconst 1, 1) := by decide +kernel
theorem dL_triangles_117 : decode cL_triangles 117 = .ok (.goto 4, 3) := by decide +kernel
theorem dL_triangles_120 : decode cL_triangles 120 = .ok (.iconst 0, 1) := by decide +kernel
theorem dL_triangles_121 : decode cL_triangles 121 = .ok (.istore 6, 2) := by decide +kernel
theorem dL_triangles_123 : decode cL_triangles 123 = .ok (.iload 6, 2) := by decide +kernel
theorem dL_triangles_125 : decode cL_triangles 125 = .ok (.ifCond .eq 207, 3) := by decide +kernel
theorem dL_triangles_128 : decode cL_triangles 128 = .ok (.iload_n 2, 1) := by decide +kernel
theorem dL_triangles_129 : decode cL_triangles 129 = .ok (.bipush 10, 2) := by decide +kernel
theorem dL_triangles_131 : decode cL_triangles 131 = .ok (.if_icmp .ge 201, 3) := by decide +kernel
theorem dL_triangles_134 : decode cL_triangles 134 = .ok (.iload_n 1, 1) := by decide +kernel
theorem dL_triangles_135 : decode cL_triangles 135 = .ok (.bipush 21, 2) := by decide +kernel
theorem dL_triangles_137 : decode cL_triangles 137 = .ok (.irem, 1) := by decide +kernel
theorem dL_triangles_138 : decode cL_triangles 138 = .ok (.istore 7, 2) := by decide +kernel
theorem dL_triangles_140 : decode cL_triangles 140 = .ok (.iload_n 1, 1) := by decide +kernel
theorem dL_triangles_141 : decode cL_triangles 141 = .ok (.bipush 21, 2) := by decide +kernel
theorem dL_triangles_143 : decode cL_triangles 143 = .ok (.idiv, 1) := by decide +kernel
theorem dL_triangles_144 : decode cL_triangles 144 = .ok (.bipush 21, 2) := by decide +kernel
theorem dL_triangles_146 : decode cL_triangles 146 = .ok (.irem, 1) := by decide +kernel
theorem dL_triangles_147 : decode cL_triangles 147 = .ok (.istore 8, 2) := by decide +kernel
theorem dL_triangles_149 : decode cL_triangles 149 = .ok (.iload_n 1, 1) := by decide +kernel
theorem dL_triangles_150 : decode cL_triangles 150 = .ok (.sipush 441, 3) := by decide +kernel
theorem dL_triangles_153 : decode cL_triangles 153 = .ok (.idiv, 1) := by decide +kernel
theorem dL_triangles_154 : decode cL_triangles 154 = .ok (.bipush 60, 2) := by decide +kernel
theorem dL_triangles_156 : decode cL_triangles 156 = .ok (.irem, 1) := by decide +kernel
theorem dL_triangles_157 : decode cL_triangles 157 = .ok (.istore 9, 2) := by decide +kernel
theorem dL_triangles_159 : decode cL_triangles 159 = .ok (.aload_n 0, 1) := by decide +kernel
theorem dL_triangles_160 : decode cL_triangles 160 = .ok (.iload 7, 2) := by decide +kernel
theorem dL_triangles_162 : decode cL_triangles 162 = .ok (.iload 8, 2) := by decide +kernel
theorem dL_triangles_164 : decode cL_triangles 164 = .ok (.iload 9, 2) := by decide +kernel
theorem dL_triangles_166 : decode cL_triangles 166 = .ok (.invokevirtual 59, 3) := by decide +kernel
theorem dL_triangles_169 : decode cL_triangles 169 = .ok (.istore 10, 2) := by decide +kernel
theorem dL_triangles_171 : decode cL_triangles 171 = .ok (.iload 10, 2) := by decide +kernel
theorem dL_triangles_173 : decode cL_triangles 173 = .ok (.ifCond .lt 28, 3) := by decide +kernel
theorem dL_triangles_176 : decode cL_triangles 176 = .ok (.iload 10, 2) := by decide +kernel
theorem dL_triangles_178 : decode cL_triangles 178 = .ok (.iload 5, 2) := by decide +kernel
theorem dL_triangles_180 : decode cL_triangles 180 = .ok (.if_icmp .gt 21, 3) := by decide +kernel
theorem dL_triangles_183 : decode cL_triangles 183 = .ok (.aload_n 0, 1) := by decide +kernel
theorem dL_triangles_184 : decode cL_triangles 184 = .ok (.iload 7, 2) := by decide +kernel
theorem dL_triangles_186 : decode cL_triangles 186 = .ok (.iload 8, 2) := by decide +kernel
theorem dL_triangles_188 : decode cL_triangles 188 = .ok (.iload 9, 2) := by decide +kernel
theorem dL_triangles_190 : decode cL_triangles 190 = .ok (.invokevirtual 35, 3) := by decide +kernel
theorem dL_triangles_193 : decode cL_triangles 193 = .ok (.iload_n 2, 1) := by decide +kernel
theorem dL_triangles_194 : decode cL_triangles 194 = .ok (.if_icmp .ne 7, 3) := by decide +kernel
theorem dL_triangles_197 : decode cL_triangles 197 = .ok (.iconst 1, 1) := by decide +kernel
theorem dL_triangles_198 : decode cL_triangles 198 = .ok (.goto 4, 3) := by decide +kernel
theorem dL_triangles_201 : decode cL_triangles 201 = .ok (.iconst 0, 1) := by decide +kernel
theorem dL_triangles_202 : decode cL_triangles 202 = .ok (.istore 6, 2) := by decide +kernel
theorem dL_triangles_204 : decode cL_triangles 204 = .ok (.iconst 0, 1) := by decide +kernel
theorem dL_triangles_205 : decode cL_triangles 205 = .ok (.istore 11, 2) := by decide +kernel
theorem dL_triangles_207 : decode cL_triangles 207 = .ok (.iconst 0, 1) := by decide +kernel
theorem dL_triangles_208 : decode cL_triangles 208 = .ok (.istore 12, 2) := by decide +kernel
theorem dL_triangles_210 : decode cL_triangles 210 = .ok (.iload 12, 2) := by decide +kernel
theorem dL_triangles_212 : decode cL_triangles 212 = .ok (.iload_n 2, 1) := by decide +kernel
theorem dL_triangles_213 : decode cL_triangles 213 = .ok (.if_icmp .ge 56, 3) := by decide +kernel
theorem dL_triangles_216 : decode cL_triangles 216 = .ok (.iconst 0, 1) := by decide +kernel
theorem dL_triangles_217 : decode cL_triangles 217 = .ok (.istore 13, 2) := by decide +kernel
theorem dL_triangles_219 : decode cL_triangles 219 = .ok (.iload 13, 2) := by decide +kernel
theorem dL_triangles_221 : decode cL_triangles 221 = .ok (.iload 12, 2) := by decide +kernel
theorem dL_triangles_223 : decode cL_triangles 223 = .ok (.if_icmp .ge 40, 3) := by decide +kernel
theorem dL_triangles_226 : decode cL_triangles 226 = .ok (.iconst 0, 1) := by decide +kernel
theorem dL_triangles_227 : decode cL_triangles 227 = .ok (.istore 14, 2) := by decide +kernel
theorem dL_triangles_229 : decode cL_triangles 229 = .ok (.iload 14, 2) := by decide +kernel
theorem dL_triangles_231 : decode cL_triangles 231 = .ok (.iload 13, 2) := by decide +kernel
theorem dL_triangles_233 : decode cL_triangles 233 = .ok (.if_icmp .ge 24, 3) := by decide +kernel
theorem dL_triangles_236 : decode cL_triangles 236 = .ok (.iload 11, 2) := by decide +kernel
theorem dL_triangles_238 : decode cL_triangles 238 = .ok (.aload_n 0, 1) := by decide +kernel
theorem dL_triangles_239 : decode cL_triangles 239 = .ok (.iload 12, 2) := by decide +kernel
theorem dL_triangles_241 : decode cL_triangles 241 = .ok (.iload 13, 2) := by decide +kernel
theorem dL_triangles_243 : decode cL_triangles 243 = .ok (.iload 14, 2) := by decide +kernel
theorem dL_triangles_245 : decode cL_triangles 245 = .ok (.invokevirtual 56, 3) := by decide +kernel
theorem dL_triangles_248 : decode cL_triangles 248 = .ok (.iadd, 1) := by decide +kernel
theorem dL_triangles_249 : decode cL_triangles 249 = .ok (.istore 11, 2) := by decide +kernel
theorem dL_triangles_251 : decode cL_triangles 251 = .ok (.iinc 14 1, 3) := by decide +kernel
theorem dL_triangles_254 : decode cL_triangles 254 = .ok (.goto (-25), 3) := by decide +kernel
theorem dL_triangles_257 : decode cL_triangles 257 = .ok (.iinc 13 1, 3) := by decide +kernel
theorem dL_triangles_260 : decode cL_triangles 260 = .ok (.goto (-41), 3) := by decide +kernel
theorem dL_triangles_263 : decode cL_triangles 263 = .ok (.iinc 12 1, 3) := by decide +kernel
theorem dL_triangles_266 : decode cL_triangles 266 = .ok (.goto (-56), 3) := by decide +kernel
theorem dL_triangles_269 : decode cL_triangles 269 = .ok (.iload 6, 2) := by decide +kernel
theorem dL_triangles_271 : decode cL_triangles 271 = .ok (.ifCond .eq 58, 3) := by decide +kernel
theorem dL_triangles_274 : decode cL_triangles 274 = .ok (.iload 11, 2) := by decide +kernel
theorem dL_triangles_276 : decode cL_triangles 276 = .ok (.iload 5, 2) := by decide +kernel
theorem dL_triangles_278 : decode cL_triangles 278 = .ok (.iload 10, 2) := by decide +kernel
theorem dL_triangles_280 : decode cL_triangles 280 = .ok (.isub, 1) := by decide +kernel
theorem dL_triangles_281 : decode cL_triangles 281 = .ok (.if_icmp .ne 48, 3) := by decide +kernel
theorem dL_triangles_284 : decode cL_triangles 284 = .ok (.aload_n 0, 1) := by decide +kernel
theorem dL_triangles_285 : decode cL_triangles 285 = .ok (.iload_n 2, 1) := by decide +kernel
theorem dL_triangles_286 : decode cL_triangles 286 = .ok (.invokevirtual 38, 3) := by decide +kernel
theorem dL_triangles_289 : decode cL_triangles 289 = .ok (.iload_n 2, 1) := by decide +kernel
theorem dL_triangles_290 : decode cL_triangles 290 = .ok (.if_icmp .ne 39, 3) := by decide +kernel
theorem dL_triangles_293 : decode cL_triangles 293 = .ok (.aload_n 0, 1) := by decide +kernel
theorem dL_triangles_294 : decode cL_triangles 294 = .ok (.invokestatic 117, 3) := by decide +kernel
theorem dL_triangles_297 : decode cL_triangles 297 = .ok (.lload_n 3, 1) := by decide +kernel
theorem dL_triangles_298 : decode cL_triangles 298 = .ok (.lcmp, 1) := by decide +kernel
theorem dL_triangles_299 : decode cL_triangles 299 = .ok (.ifCond .ne 30, 3) := by decide +kernel
theorem dL_triangles_302 : decode cL_triangles 302 = .ok (.aload_n 0, 1) := by decide +kernel
theorem dL_triangles_303 : decode cL_triangles 303 = .ok (.invokevirtual 112, 3) := by decide +kernel
theorem dL_triangles_306 : decode cL_triangles 306 = .ok (.ifCond .lt 23, 3) := by decide +kernel
theorem dL_triangles_309 : decode cL_triangles 309 = .ok (.aload_n 0, 1) := by decide +kernel
theorem dL_triangles_310 : decode cL_triangles 310 = .ok (.invokevirtual 112, 3) := by decide +kernel
theorem dL_triangles_313 : decode cL_triangles 313 = .ok (.ifCond .lt 16, 3) := by decide +kernel
theorem dL_triangles_316 : decode cL_triangles 316 = .ok (.aload_n 0, 1) := by decide +kernel
theorem dL_triangles_317 : decode cL_triangles 317 = .ok (.invokestatic 117, 3) := by decide +kernel
theorem dL_triangles_320 : decode cL_triangles 320 = .ok (.lload_n 3, 1) := by decide +kernel
theorem dL_triangles_321 : decode cL_triangles 321 = .ok (.lcmp, 1) := by decide +kernel
theorem dL_triangles_322 : decode cL_triangles 322 = .ok (.ifCond .ne 7, 3) := by decide +kernel
theorem dL_triangles_325 : decode cL_triangles 325 = .ok (.iconst 1, 1) := by decide +kernel
theorem dL_triangles_326 : decode cL_triangles 326 = .ok (.goto 4, 3) := by decide +kernel
theorem dL_triangles_329 : decode cL_triangles 329 = .ok (.iconst 0, 1) := by decide +kernel
theorem dL_triangles_330 : decode cL_triangles 330 = .ok (.istore 6, 2) := by decide +kernel
theorem dL_triangles_332 : decode cL_triangles 332 = .ok (.iload 6, 2) := by decide +kernel
theorem dL_triangles_334 : decode cL_triangles 334 = .ok (.ireturn, 1) := by decide +kernel
theorem dL_weights_0 : decode cL_weights 0 = .ok (.aload_n 0, 1) := by decide +kernel
theorem dL_weights_1 : decode cL_weights 1 = .ok (.invokevirtual 9, 3) := by decide +kernel
theorem dL_weights_4 : decode cL_weights 4 = .ok (.istore_n 2, 1) := by decide +kernel
theorem dL_weights_5 : decode cL_weights 5 = .ok (.iload_n 2, 1) := by decide +kernel
theorem dL_weights_6 : decode cL_weights 6 = .ok (.ifCond .ne 5, 3) := by decide +kernel
theorem dL_weights_9 : decode cL_weights 9 = .ok (.iconst 1, 1) := by decide +kernel
theorem dL_weights_10 : decode cL_weights 10 = .ok (.ireturn, 1) := by decide +kernel
theorem dL_weights_11 : decode cL_weights 11 = .ok (.aload_n 0, 1) := by decide +kernel
theorem dL_weights_12 : decode cL_weights 12 = .ok (.invokestatic 117, 3) := by decide +kernel
theorem dL_weights_15 : decode cL_weights 15 = .ok (.lstore_n 3, 1) := by decide +kernel
theorem dL_weights_16 : decode cL_weights 16 = .ok (.iload_n 1, 1) := by decide +kernel
theorem dL_weights_17 : decode cL_weights 17 = .ok (.iload_n 2, 1) := by decide +kernel
theorem dL_weights_18 : decode cL_weights 18 = .ok (.irem, 1) := by decide +kernel
theorem dL_weights_19 : decode cL_weights 19 = .ok (.istore 5, 2) := by decide +kernel
theorem dL_weights_21 : decode cL_weights 21 = .ok (.iload_n 1, 1) := by decide +kernel
theorem dL_weights_22 : decode cL_weights 22 = .ok (.bipush 10, 2) := by decide +kernel
theorem dL_weights_24 : decode cL_weights 24 = .ok (.idiv, 1) := by decide +kernel
theorem dL_weights_25 : decode cL_weights 25 = .ok (.sipush 442, 3) := by decide +kernel
theorem dL_weights_28 : decode cL_weights 28 = .ok (.irem, 1) := by decide +kernel
theorem dL_weights_29 : decode cL_weights 29 = .ok (.istore 6, 2) := by decide +kernel
theorem dL_weights_31 : decode cL_weights 31 = .ok (.aload_n 0, 1) := by decide +kernel
theorem dL_weights_32 : decode cL_weights 32 = .ok (.iload 5, 2) := by decide +kernel
theorem dL_weights_34 : decode cL_weights 34 = .ok (.iload 6, 2) := by decide +kernel
theorem dL_weights_36 : decode cL_weights 36 = .ok (.invokevirtual 66, 3) := by decide +kernel
theorem dL_weights_39 : decode cL_weights 39 = .ok (.istore 7, 2) := by decide +kernel
theorem dL_weights_41 : decode cL_weights 41 = .ok (.iconst 1, 1) := by decide +kernel
theorem dL_weights_42 : decode cL_weights 42 = .ok (.istore 8, 2) := by decide +kernel
theorem dL_weights_44 : decode cL_weights 44 = .ok (.iload 7, 2) := by decide +kernel
theorem dL_weights_46 : decode cL_weights 46 = .ok (.bipush (-9), 2) := by decide +kernel
theorem dL_weights_48 : decode cL_weights 48 = .ok (.if_icmp .ne 43, 3) := by decide +kernel
theorem dL_weights_51 : decode cL_weights 51 = .ok (.aload_n 0, 1) := by decide +kernel
theorem dL_weights_52 : decode cL_weights 52 = .ok (.iload 5, 2) := by decide +kernel
theorem dL_weights_54 : decode cL_weights 54 = .ok (.sipush 400, 3) := by decide +kernel
theorem dL_weights_57 : decode cL_weights 57 = .ok (.invokevirtual 44, 3) := by decide +kernel
theorem dL_weights_60 : decode cL_weights 60 = .ok (.ifCond .lt 25, 3) := by decide +kernel
theorem dL_weights_63 : decode cL_weights 63 = .ok (.aload_n 0, 1) := by decide +kernel
theorem dL_weights_64 : decode cL_weights 64 = .ok (.iload 5, 2) := by decide +kernel
theorem dL_weights_66 : decode cL_weights 66 = .ok (.invokevirtual 32, 3) := by decide +kernel
theorem dL_weights_69 : decode cL_weights 69 = .ok (.iload 6, 2) := by decide +kernel
theorem dL_weights_71 : decode cL_weights 71 = .ok (.if_icmp .ge 14, 3) := by decide +kernel
theorem dL_weights_74 : decode cL_weights 74 = .ok (.aload_n 0, 1) := by decide +kernel
theorem dL_weights_75 : decode cL_weights 75 = .ok (.invokevirtual 112, 3) := by decide +kernel
theorem dL_weights_78 : decode cL_weights 78 = .ok (.ifCond .lt 7, 3) := by decide +kernel
theorem dL_weights_81 : decode cL_weights 81 = .ok (.iconst 1, 1) := by decide +kernel
theorem dL_weights_82 : decode cL_weights 82 = .ok (.goto 4, 3) := by decide +kernel
theorem dL_weights_85 : decode cL_weights 85 = .ok (.iconst 0, 1) := by decide +kernel
theorem dL_weights_86 : decode cL_weights 86 = .ok (.istore 8, 2) := by decide +kernel
theorem dL_weights_88 : decode cL_weights 88 = .ok (.goto 125, 3) := by decide +kernel
theorem dL_weights_91 : decode cL_weights 91 = .ok (.iload 7, 2) := by decide +kernel
theorem dL_weights_93 : decode cL_weights 93 = .ok (.ifCond .lt 69, 3) := by decide +kernel
theorem dL_weights_96 : decode cL_weights 96 = .ok (.iload 7, 2) := by decide +kernel
theorem dL_weights_98 : decode cL_weights 98 = .ok (.sipush 400, 3) := by decide +kernel
theorem dL_weights_101 : decode cL_weights 101 = .ok (.if_icmp .gt 61, 3) := by decide +kernel
theorem dL_weights_104 : decode cL_weights 104 = .ok (.aload_n 0, 1) := by decide +kernel
theorem dL_weights_105 : decode cL_weights 105 = .ok (.iload 5, 2) := by decide +kernel
theorem dL_weights_107 : decode cL_weights 107 = .ok (.iload 7, 2) := by decide +kernel
theorem dL_weights_109 : decode cL_weights 109 = .ok (.invokevirtual 44, 3) := by decide +kernel
theorem dL_weights_112 : decode cL_weights 112 = .ok (.ifCond .lt 50, 3) := by decide +kernel
theorem dL_weights_115 : decode cL_weights 115 = .ok (.aload_n 0, 1) := by decide +kernel
theorem dL_weights_116 : decode cL_weights 116 = .ok (.iload 5, 2) := by decide +kernel
theorem dL_weights_118 : decode cL_weights 118 = .ok (.invokevirtual 32, 3) := by decide +kernel
theorem dL_weights_121 : decode cL_weights 121 = .ok (.iload 6, 2) := by decide +kernel
theorem dL_weights_123 : decode cL_weights 123 = .ok (.if_icmp .lt 39, 3) := by decide +kernel
theorem dL_weights_126 : decode cL_weights 126 = .ok (.aload_n 0, 1) := by decide +kernel
theorem dL_weights_127 : decode cL_weights 127 = .ok (.iconst 1, 1) := by decide +kernel
theorem dL_weights_128 : decode cL_weights 128 = .ok (.ldc2_w 141, 3) := by decide +kernel
theorem dL_weights_131 : decode cL_weights 131 = .ok (.sipush 1000, 3) := by decide +kernel
theorem dL_weights_134 : decode cL_weights 134 = .ok (.iload 5, 2) := by decide +kernel
theorem dL_weights_136 : decode cL_weights 136 = .ok (.imul, 1) := by decide +kernel
theorem dL_weights_137 : decode cL_weights 137 = .ok (.i2l, 1) := by decide +kernel
theorem dL_weights_138 : decode cL_weights 138 = .ok (.ladd, 1) := by decide +kernel
theorem dL_weights_139 : decode cL_weights 139 = .ok (.iload 6, 2) := by decide +kernel
theorem dL_weights_141 : decode cL_weights 141 = .ok (.i2l, 1) := by decide +kernel
theorem dL_weights_142 : decode cL_weights 142 = .ok (.ladd, 1) := by decide +kernel
theorem dL_weights_143 : decode cL_weights 143 = .ok (.invokevirtual 75, 3) := by decide +kernel
theorem dL_weights_146 : decode cL_weights 146 = .ok (.bipush (-9), 2) := by decide +kernel
theorem dL_weights_148 : decode cL_weights 148 = .ok (.if_icmp .ne 14, 3) := by decide +kernel
theorem dL_weights_151 : decode cL_weights 151 = .ok (.aload_n 0, 1) := by decide +kernel
theorem dL_weights_152 : decode cL_weights 152 = .ok (.invokevirtual 112, 3) := by decide +kernel
theorem dL_weights_155 : decode cL_weights 155 = .ok (.ifCond .lt 7, 3) := by decide +kernel
theorem dL_weights_158 : decode cL_weights 158 = .ok (.iconst 1, 1) := by decide +kernel
theorem dL_weights_159 : decode cL_weights 159 = .ok (.goto 4, 3) := by decide +kernel
theorem dL_weights_162 : decode cL_weights 162 = .ok (.iconst 0, 1) := by decide +kernel
theorem dL_weights_163 : decode cL_weights 163 = .ok (.istore 8, 2) := by decide +kernel
theorem dL_weights_165 : decode cL_weights 165 = .ok (.iload 8, 2) := by decide +kernel
theorem dL_weights_167 : decode cL_weights 167 = .ok (.ifCond .eq 43, 3) := by decide +kernel
theorem dL_weights_170 : decode cL_weights 170 = .ok (.iload 7, 2) := by decide +kernel
theorem dL_weights_172 : decode cL_weights 172 = .ok (.ifCond .eq 34, 3) := by decide +kernel
theorem dL_weights_175 : decode cL_weights 175 = .ok (.aload_n 0, 1) := by decide +kernel
theorem dL_weights_176 : decode cL_weights 176 = .ok (.iload 5, 2) := by decide +kernel
theorem dL_weights_178 : decode cL_weights 178 = .ok (.iload 7, 2) := by decide +kernel
theorem dL_weights_180 : decode cL_weights 180 = .ok (.iconst 1, 1) := by decide +kernel
theorem dL_weights_181 : decode cL_weights 181 = .ok (.isub, 1) := by decide +kernel
theorem dL_weights_182 : decode cL_weights 182 = .ok (.invokevirtual 44, 3) := by decide +kernel
theorem dL_weights_185 : decode cL_weights 185 = .ok (.ifCond .lt 25, 3) := by decide +kernel
theorem dL_weights_188 : decode cL_weights 188 = .ok (.aload_n 0, 1) := by decide +kernel
theorem dL_weights_189 : decode cL_weights 189 = .ok (.iload 5, 2) := by decide +kernel
theorem dL_weights_191 : decode cL_weights 191 = .ok (.invokevirtual 32, 3) := by decide +kernel
theorem dL_weights_194 : decode cL_weights 194 = .ok (.iload 6, 2) := by decide +kernel
theorem dL_weights_196 : decode cL_weights 196 = .ok (.if_icmp .ge 14, 3) := by decide +kernel
theorem dL_weights_199 : decode cL_weights 199 = .ok (.aload_n 0, 1) := by decide +kernel
theorem dL_weights_200 : decode cL_weights 200 = .ok (.invokevirtual 112, 3) := by decide +kernel
theorem dL_weights_203 : decode cL_weights 203 = .ok (.ifCond .lt 7, 3) := by decide +kernel
theorem dL_weights_206 : decode cL_weights 206 = .ok (.iconst 1, 1) := by decide +kernel
theorem dL_weights_207 : decode cL_weights 207 = .ok (.goto 4, 3) := by decide +kernel
theorem dL_weights_210 : decode cL_weights 210 = .ok (.iconst 0, 1) := by decide +kernel
theorem dL_weights_211 : decode cL_weights 211 = .ok (.istore 8, 2) := by decide +kernel
theorem dL_weights_213 : decode cL_weights 213 = .ok (.aload_n 0, 1) := by decide +kernel
theorem dL_weights_214 : decode cL_weights 214 = .ok (.iload 5, 2) := by decide +kernel
theorem dL_weights_216 : decode cL_weights 216 = .ok (.iconst 0, 1) := by decide +kernel
theorem dL_weights_217 : decode cL_weights 217 = .ok (.invokevirtual 72, 3) := by decide +kernel
theorem dL_weights_220 : decode cL_weights 220 = .ok (.istore 9, 2) := by decide +kernel
theorem dL_weights_222 : decode cL_weights 222 = .ok (.aload_n 0, 1) := by decide +kernel
theorem dL_weights_223 : decode cL_weights 223 = .ok (.iload 5, 2) := by decide +kernel
theorem dL_weights_225 : decode cL_weights 225 = .ok (.iconst 1, 1) := by decide +kernel
theorem dL_weights_226 : decode cL_weights 226 = .ok (.invokevirtual 72, 3) := by decide +kernel
theorem dL_weights_229 : decode cL_weights 229 = .ok (.istore 10, 2) := by decide +kernel
theorem dL_weights_231 : decode cL_weights 231 = .ok (.aload_n 0, 1) := by decide +kernel
theorem dL_weights_232 : decode cL_weights 232 = .ok (.iload 5, 2) := by decide +kernel
theorem dL_weights_234 : decode cL_weights 234 = .ok (.iconst 2, 1) := by decide +kernel
theorem dL_weights_235 : decode cL_weights 235 = .ok (.invokevirtual 72, 3) := by decide +kernel
theorem dL_weights_238 : decode cL_weights 238 = .ok (.istore 11, 2) := by decide +kernel
theorem dL_weights_240 : decode cL_weights 240 = .ok (.iload 8, 2) := by decide +kernel
theorem dL_weights_242 : decode cL_weights 242 = .ok (.ifCond .eq 74, 3) := by decide +kernel
theorem dL_weights_245 : decode cL_weights 245 = .ok (.iload 9, 2) := by decide +kernel
theorem dL_weights_247 : decode cL_weights 247 = .ok (.ifCond .lt 69, 3) := by decide +kernel
theorem dL_weights_250 : decode cL_weights 250 = .ok (.iload 9, 2) := by decide +kernel
theorem dL_weights_252 : decode cL_weights 252 = .ok (.sipush 401, 3) := by decide +kernel
theorem dL_weights_255 : decode cL_weights 255 = .ok (.if_icmp .gt 61, 3) := by decide +kernel
theorem dL_weights_258 : decode cL_weights 258 = .ok (.iload 9, 2) := by decide +kernel
theorem dL_weights_260 : decode cL_weights 260 = .ok (.ifCond .ne 20, 3) := by decide +kernel
theorem dL_weights_263 : decode cL_weights 263 = .ok (.iload 10, 2) := by decide +kernel
theorem dL_weights_265 : decode cL_weights 265 = .ok (.bipush (-9), 2) := by decide +kernel
theorem dL_weights_267 : decode cL_weights 267 = .ok (.if_icmp .ne 49, 3) := by decide +kernel
theorem dL_weights_270 : decode cL_weights 270 = .ok (.iload 11, 2) := by decide +kernel
theorem dL_weights_272 : decode cL_weights 272 = .ok (.bipush (-9), 2) := by decide +kernel
theorem dL_weights_274 : decode cL_weights 274 = .ok (.if_icmp .ne 42, 3) := by decide +kernel
theorem dL_weights_277 : decode cL_weights 277 = .ok (.goto 35, 3) := by decide +kernel
theorem dL_weights_280 : decode cL_weights 280 = .ok (.iload 10, 2) := by decide +kernel
theorem dL_weights_282 : decode cL_weights 282 = .ok (.ifCond .lt 34, 3) := by decide +kernel
theorem dL_weights_285 : decode cL_weights 285 = .ok (.iload 10, 2) := by decide +kernel
theorem dL_weights_287 : decode cL_weights 287 = .ok (.iload 11, 2) := by decide +kernel
theorem dL_weights_289 : decode cL_weights 289 = .ok (.if_icmp .gt 27, 3) := by decide +kernel
theorem dL_weights_292 : decode cL_weights 292 = .ok (.iload 11, 2) := by decide +kernel
theorem dL_weights_294 : decode cL_weights 294 = .ok (.sipush 400, 3) := by decide +kernel
theorem dL_weights_297 : decode cL_weights 297 = .ok (.if_icmp .gt 19, 3) := by decide +kernel
theorem dL_weights_300 : decode cL_weights 300 = .ok (.iload 9, 2) := by decide +kernel
theorem dL_weights_302 : decode cL_weights 302 = .ok (.iload 11, 2) := by decide +kernel
theorem dL_weights_304 : decode cL_weights 304 = .ok (.iload 10, 2) := by decide +kernel
theorem dL_weights_306 : decode cL_weights 306 = .ok (.isub, 1) := by decide +kernel
theorem dL_weights_307 : decode cL_weights 307 = .ok (.iconst 1, 1) := by decide +kernel
theorem dL_weights_308 : decode cL_weights 308 = .ok (.iadd, 1) := by decide +kernel
theorem dL_weights_309 : decode cL_weights 309 = .ok (.if_icmp .gt 7, 3) := by decide +kernel
theorem dL_weights_312 : decode cL_weights 312 = .ok (.iconst 1, 1) := by decide +kernel
theorem dL_weights_313 : decode cL_weights 313 = .ok (.goto 4, 3) := by decide +kernel
theorem dL_weights_316 : decode cL_weights 316 = .ok (.iconst 0, 1) := by decide +kernel
theorem dL_weights_317 : decode cL_weights 317 = .ok (.istore 8, 2) := by decide +kernel
theorem dL_weights_319 : decode cL_weights 319 = .ok (.aload_n 0, 1) := by decide +kernel
theorem dL_weights_320 : decode cL_weights 320 = .ok (.invokevirtual 109, 3) := by decide +kernel
theorem dL_weights_323 : decode cL_weights 323 = .ok (.istore 12, 2) := by decide +kernel
theorem dL_weights_325 : decode cL_weights 325 = .ok (.iload 8, 2) := by decide +kernel
theorem dL_weights_327 : decode cL_weights 327 = .ok (.ifCond .eq 25, 3) := by decide +kernel
theorem dL_weights_330 : decode cL_weights 330 = .ok (.iload 12, 2) := by decide +kernel
theorem dL_weights_332 : decode cL_weights 332 = .ok (.ifCond .lt 20, 3) := by decide +kernel
theorem dL_weights_335 : decode cL_weights 335 = .ok (.aload_n 0, 1) := by decide +kernel
theorem dL_weights_336 : decode cL_weights 336 = .ok (.iload 5, 2) := by decide +kernel
theorem dL_weights_338 : decode cL_weights 338 = .ok (.iconst 0, 1) := by decide +kernel
theorem dL_weights_339 : decode cL_weights 339 = .ok (.invokevirtual 72, 3) := by decide +kernel
theorem dL_weights_342 : decode cL_weights 342 = .ok (.sipush 401, 3) := by decide +kernel
theorem dL_weights_345 : decode cL_weights 345 = .ok (.if_icmp .ne 7, 3) := by decide +kernel
theorem dL_weights_348 : decode cL_weights 348 = .ok (.iconst 1, 1) := by decide +kernel
theorem dL_weights_349 : decode cL_weights 349 = .ok (.goto 4, 3) := by decide +kernel
theorem dL_weights_352 : decode cL_weights 352 = .ok (.iconst 0, 1) := by decide +kernel
theorem dL_weights_353 : decode cL_weights 353 = .ok (.istore 8, 2) := by decide +kernel
theorem dL_weights_355 : decode cL_weights 355 = .ok (.aload_n 0, 1) := by decide +kernel
theorem dL_weights_356 : decode cL_weights 356 = .ok (.iload_n 1, 1) := by decide +kernel
theorem dL_weights_357 : decode cL_weights 357 = .ok (.bipush 21, 2) := by decide +kernel
theorem dL_weights_359 : decode cL_weights 359 = .ok (.irem, 1) := by decide +kernel
theorem dL_weights_360 : decode cL_weights 360 = .ok (.iload_n 1, 1) := by decide +kernel
theorem dL_weights_361 : decode cL_weights 361 = .ok (.bipush 21, 2) := by decide +kernel
theorem dL_weights_363 : decode cL_weights 363 = .ok (.idiv, 1) := by decide +kernel
theorem dL_weights_364 : decode cL_weights 364 = .ok (.bipush 21, 2) := by decide +kernel
theorem dL_weights_366 : decode cL_weights 366 = .ok (.irem, 1) := by decide +kernel
theorem dL_weights_367 : decode cL_weights 367 = .ok (.invokevirtual 29, 3) := by decide +kernel
theorem dL_weights_370 : decode cL_weights 370 = .ok (.istore 13, 2) := by decide +kernel
theorem dL_weights_372 : decode cL_weights 372 = .ok (.iload 8, 2) := by decide +kernel
theorem dL_weights_374 : decode cL_weights 374 = .ok (.ifCond .eq 28, 3) := by decide +kernel
theorem dL_weights_377 : decode cL_weights 377 = .ok (.aload_n 0, 1) := by decide +kernel
theorem dL_weights_378 : decode cL_weights 378 = .ok (.iload_n 1, 1) := by decide +kernel
theorem dL_weights_379 : decode cL_weights 379 = .ok (.bipush 21, 2) := by decide +kernel
theorem dL_weights_381 : decode cL_weights 381 = .ok (.irem, 1) := by decide +kernel
theorem dL_weights_382 : decode cL_weights 382 = .ok (.iload_n 1, 1) := by decide +kernel
theorem dL_weights_383 : decode cL_weights 383 = .ok (.bipush 21, 2) := by decide +kernel
theorem dL_weights_385 : decode cL_weights 385 = .ok (.idiv, 1) := by decide +kernel
theorem dL_weights_386 : decode cL_weights 386 = .ok (.bipush 21, 2) := by decide +kernel
theorem dL_weights_388 : decode cL_weights 388 = .ok (.irem, 1) := by decide +kernel
theorem dL_weights_389 : decode cL_weights 389 = .ok (.iload 13, 2) := by decide +kernel
theorem dL_weights_391 : decode cL_weights 391 = .ok (.invokevirtual 69, 3) := by decide +kernel
theorem dL_weights_394 : decode cL_weights 394 = .ok (.iconst 1, 1) := by decide +kernel
theorem dL_weights_395 : decode cL_weights 395 = .ok (.if_icmp .ne 7, 3) := by decide +kernel
theorem dL_weights_398 : decode cL_weights 398 = .ok (.iconst 1, 1) := by decide +kernel
theorem dL_weights_399 : decode cL_weights 399 = .ok (.goto 4, 3) := by decide +kernel
theorem dL_weights_402 : decode cL_weights 402 = .ok (.iconst 0, 1) := by decide +kernel
theorem dL_weights_403 : decode cL_weights 403 = .ok (.istore 8, 2) := by decide +kernel
theorem dL_weights_405 : decode cL_weights 405 = .ok (.aload_n 0, 1) := by decide +kernel
theorem dL_weights_406 : decode cL_weights 406 = .ok (.iload 5, 2) := by decide +kernel
theorem dL_weights_408 : decode cL_weights 408 = .ok (.iconst 2, 1) := by decide +kernel
theorem dL_weights_409 : decode cL_weights 409 = .ok (.invokevirtual 21, 3) := by decide +kernel
theorem dL_weights_412 : decode cL_weights 412 = .ok (.istore 14, 2) := by decide +kernel
theorem dL_weights_414 : decode cL_weights 414 = .ok (.iload 8, 2) := by decide +kernel
theorem dL_weights_416 : decode cL_weights 416 = .ok (.ifCond .eq 39, 3) := by decide +kernel
theorem dL_weights_419 : decode cL_weights 419 = .ok (.aload_n 0, 1) := by decide +kernel
theorem dL_weights_420 : decode cL_weights 420 = .ok (.iload 5, 2) := by decide +kernel
theorem dL_weights_422 : decode cL_weights 422 = .ok (.iconst 1, 1) := by decide +kernel
theorem dL_weights_423 : decode cL_weights 423 = .ok (.invokevirtual 72, 3) := by decide +kernel
theorem dL_weights_426 : decode cL_weights 426 = .ok (.iload 14, 2) := by decide +kernel
theorem dL_weights_428 : decode cL_weights 428 = .ok (.if_icmp .gt 27, 3) := by decide +kernel
theorem dL_weights_431 : decode cL_weights 431 = .ok (.aload_n 0, 1) := by decide +kernel
theorem dL_weights_432 : decode cL_weights 432 = .ok (.iload 5, 2) := by decide +kernel
theorem dL_weights_434 : decode cL_weights 434 = .ok (.iconst 2, 1) := by decide +kernel
theorem dL_weights_435 : decode cL_weights 435 = .ok (.invokevirtual 72, 3) := by decide +kernel
theorem dL_weights_438 : decode cL_weights 438 = .ok (.iload 14, 2) := by decide +kernel
theorem dL_weights_440 : decode cL_weights 440 = .ok (.if_icmp .lt 15, 3) := by decide +kernel
theorem dL_weights_443 : decode cL_weights 443 = .ok (.aload_n 0, 1) := by decide +kernel
theorem dL_weights_444 : decode cL_weights 444 = .ok (.invokevirtual 109, 3) := by decide +kernel
theorem dL_weights_447 : decode cL_weights 447 = .ok (.iconst 1, 1) := by decide +kernel
theorem dL_weights_448 : decode cL_weights 448 = .ok (.if_icmp .ne 7, 3) := by decide +kernel
theorem dL_weights_451 : decode cL_weights 451 = .ok (.iconst 1, 1) := by decide +kernel
theorem dL_weights_452 : decode cL_weights 452 = .ok (.goto 4, 3) := by decide +kernel
theorem dL_weights_455 : decode cL_weights 455 = .ok (.iconst 0, 1) := by decide +kernel
theorem dL_weights_456 : decode cL_weights 456 = .ok (.istore 8, 2) := by decide +kernel
theorem dL_weights_458 : decode cL_weights 458 = .ok (.iload 8, 2) := by decide +kernel
theorem dL_weights_460 : decode cL_weights 460 = .ok (.ifCond .eq 16, 3) := by decide +kernel
theorem dL_weights_463 : decode cL_weights 463 = .ok (.aload_n 0, 1) := by decide +kernel
theorem dL_weights_464 : decode cL_weights 464 = .ok (.invokestatic 117, 3) := by decide +kernel
theorem dL_weights_467 : decode cL_weights 467 = .ok (.lload_n 3, 1) := by decide +kernel
theorem dL_weights_468 : decode cL_weights 468 = .ok (.lcmp, 1) := by decide +kernel
theorem dL_weights_469 : decode cL_weights 469 = .ok (.ifCond .ne 7, 3) := by decide +kernel
theorem dL_weights_472 : decode cL_weights 472 = .ok (.iconst 1, 1) := by decide +kernel
theorem dL_weights_473 : decode cL_weights 473 = .ok (.goto 4, 3) := by decide +kernel
theorem dL_weights_476 : decode cL_weights 476 = .ok (.iconst 0, 1) := by decide +kernel
theorem dL_weights_477 : decode cL_weights 477 = .ok (.ireturn, 1) := by decide +kernel
theorem dL_law_0 : decode cL_law 0 = .ok (.new 10, 3) := by decide +kernel
theorem dL_law_3 : decode cL_law 3 = .ok (.dup, 1) := by decide +kernel
theorem dL_law_4 : decode cL_law 4 = .ok (.invokespecial 143, 3) := by decide +kernel
theorem dL_law_7 : decode cL_law 7 = .ok (.astore_n 1, 1) := by decide +kernel
theorem dL_law_8 : decode cL_law 8 = .ok (.new 10, 3) := by decide +kernel
theorem dL_law_11 : decode cL_law 11 = .ok (.dup, 1) := by decide +kernel
theorem dL_law_12 : decode cL_law 12 = .ok (.invokespecial 143, 3) := by decide +kernel
theorem dL_law_15 : decode cL_law 15 = .ok (.astore_n 2, 1) := by decide +kernel
theorem dL_law_16 : decode cL_law 16 = .ok (.aload_n 2, 1) := by decide +kernel
theorem dL_law_17 : decode cL_law 17 = .ok (.invokestatic 144, 3) := by decide +kernel
theorem dL_law_20 : decode cL_law 20 = .ok (.istore_n 3, 1) := by decide +kernel
theorem dL_law_21 : decode cL_law 21 = .ok (.iconst 0, 1) := by decide +kernel
theorem dL_law_22 : decode cL_law 22 = .ok (.istore 4, 2) := by decide +kernel
theorem dL_law_24 : decode cL_law 24 = .ok (.iload 4, 2) := by decide +kernel
theorem dL_law_26 : decode cL_law 26 = .ok (.bipush 8, 2) := by decide +kernel
theorem dL_law_28 : decode cL_law 28 = .ok (.if_icmp .ge 159, 3) := by decide +kernel
theorem dL_law_31 : decode cL_law 31 = .ok (.iload_n 3, 1) := by decide +kernel
theorem dL_law_32 : decode cL_law 32 = .ok (.ifCond .eq 155, 3) := by decide +kernel
theorem dL_law_35 : decode cL_law 35 = .ok (.aload_n 0, 1) := by decide +kernel
theorem dL_law_36 : decode cL_law 36 = .ok (.iconst 2, 1) := by decide +kernel
theorem dL_law_37 : decode cL_law 37 = .ok (.iload 4, 2) := by decide +kernel
theorem dL_law_39 : decode cL_law 39 = .ok (.imul, 1) := by decide +kernel
theorem dL_law_40 : decode cL_law 40 = .ok (.invokestatic 148, 3) := by decide +kernel
theorem dL_law_43 : decode cL_law 43 = .ok (.istore 5, 2) := by decide +kernel
theorem dL_law_45 : decode cL_law 45 = .ok (.aload_n 0, 1) := by decide +kernel
theorem dL_law_46 : decode cL_law 46 = .ok (.iconst 2, 1) := by decide +kernel
theorem dL_law_47 : decode cL_law 47 = .ok (.iload 4, 2) := by decide +kernel
theorem dL_law_49 : decode cL_law 49 = .ok (.imul, 1) := by decide +kernel
theorem dL_law_50 : decode cL_law 50 = .ok (.iconst 1, 1) := by decide +kernel
theorem dL_law_51 : decode cL_law 51 = .ok (.iadd, 1) := by decide +kernel
theorem dL_law_52 : decode cL_law 52 = .ok (.invokestatic 148, 3) := by decide +kernel
theorem dL_law_55 : decode cL_law 55 = .ok (.istore 6, 2) := by decide +kernel
theorem dL_law_57 : decode cL_law 57 = .ok (.aload_n 1, 1) := by decide +kernel
theorem dL_law_58 : decode cL_law 58 = .ok (.iload 5, 2) := by decide +kernel
theorem dL_law_60 : decode cL_law 60 = .ok (.iload 6, 2) := by decide +kernel
theorem dL_law_62 : decode cL_law 62 = .ok (.invokestatic 152, 3) := by decide +kernel
theorem dL_law_65 : decode cL_law 65 = .ok (.istore 7, 2) := by decide +kernel
theorem dL_law_67 : decode cL_law 67 = .ok (.aload_n 2, 1) := by decide +kernel
theorem dL_law_68 : decode cL_law 68 = .ok (.iload 5, 2) := by decide +kernel
theorem dL_law_70 : decode cL_law 70 = .ok (.iload 6, 2) := by decide +kernel
theorem dL_law_72 : decode cL_law 72 = .ok (.invokestatic 152, 3) := by decide +kernel
theorem dL_law_75 : decode cL_law 75 = .ok (.iload 7, 2) := by decide +kernel
theorem dL_law_77 : decode cL_law 77 = .ok (.if_icmp .ne 102, 3) := by decide +kernel
theorem dL_law_80 : decode cL_law 80 = .ok (.aload_n 2, 1) := by decide +kernel
theorem dL_law_81 : decode cL_law 81 = .ok (.invokestatic 144, 3) := by decide +kernel
theorem dL_law_84 : decode cL_law 84 = .ok (.ifCond .eq 95, 3) := by decide +kernel
theorem dL_law_87 : decode cL_law 87 = .ok (.aload_n 1, 1) := by decide +kernel
theorem dL_law_88 : decode cL_law 88 = .ok (.aload_n 2, 1) := by decide +kernel
theorem dL_law_89 : decode cL_law 89 = .ok (.iload 6, 2) := by decide +kernel
theorem dL_law_91 : decode cL_law 91 = .ok (.invokestatic 155, 3) := by decide +kernel
theorem dL_law_94 : decode cL_law 94 = .ok (.ifCond .eq 85, 3) := by decide +kernel
theorem dL_law_97 : decode cL_law 97 = .ok (.aload_n 1, 1) := by decide +kernel
theorem dL_law_98 : decode cL_law 98 = .ok (.iload 6, 2) := by decide +kernel
theorem dL_law_100 : decode cL_law 100 = .ok (.invokestatic 159, 3) := by decide +kernel
theorem dL_law_103 : decode cL_law 103 = .ok (.ifCond .eq 76, 3) := by decide +kernel
theorem dL_law_106 : decode cL_law 106 = .ok (.aload_n 2, 1) := by decide +kernel
theorem dL_law_107 : decode cL_law 107 = .ok (.iload 6, 2) := by decide +kernel
theorem dL_law_109 : decode cL_law 109 = .ok (.invokestatic 159, 3) := by decide +kernel
theorem dL_law_112 : decode cL_law 112 = .ok (.ifCond .eq 67, 3) := by decide +kernel
theorem dL_law_115 : decode cL_law 115 = .ok (.aload_n 1, 1) := by decide +kernel
theorem dL_law_116 : decode cL_law 116 = .ok (.invokestatic 163, 3) := by decide +kernel
theorem dL_law_119 : decode cL_law 119 = .ok (.ifCond .eq 60, 3) := by decide +kernel
theorem dL_law_122 : decode cL_law 122 = .ok (.aload_n 2, 1) := by decide +kernel
theorem dL_law_123 : decode cL_law 123 = .ok (.invokestatic 163, 3) := by decide +kernel
theorem dL_law_126 : decode cL_law 126 = .ok (.ifCond .eq 53, 3) := by decide +kernel
theorem dL_law_129 : decode cL_law 129 = .ok (.aload_n 1, 1) := by decide +kernel
theorem dL_law_130 : decode cL_law 130 = .ok (.iload 6, 2) := by decide +kernel
theorem dL_law_132 : decode cL_law 132 = .ok (.invokestatic 166, 3) := by decide +kernel
theorem dL_law_135 : decode cL_law 135 = .ok (.ifCond .eq 44, 3) := by decide +kernel
theorem dL_law_138 : decode cL_law 138 = .ok (.aload_n 2, 1) := by decide +kernel
theorem dL_law_139 : decode cL_law 139 = .ok (.iload 6, 2) := by decide +kernel
theorem dL_law_141 : decode cL_law 141 = .ok (.invokestatic 166, 3) := by decide +kernel
theorem dL_law_144 : decode cL_law 144 = .ok (.ifCond .eq 35, 3) := by decide +kernel
theorem dL_law_147 : decode cL_law 147 = .ok (.aload_n 1, 1) := by decide +kernel
theorem dL_law_148 : decode cL_law 148 = .ok (.iload 6, 2) := by decide +kernel
theorem dL_law_150 : decode cL_law 150 = .ok (.invokestatic 169, 3) := by decide +kernel
theorem dL_law_153 : decode cL_law 153 = .ok (.ifCond .eq 26, 3) := by decide +kernel
theorem dL_law_156 : decode cL_law 156 = .ok (.aload_n 2, 1) := by decide +kernel
theorem dL_law_157 : decode cL_law 157 = .ok (.iload 6, 2) := by decide +kernel
theorem dL_law_159 : decode cL_law 159 = .ok (.invokestatic 169, 3) := by decide +kernel
theorem dL_law_162 : decode cL_law 162 = .ok (.ifCond .eq 17, 3) := by decide +kernel
theorem dL_law_165 : decode cL_law 165 = .ok (.aload_n 1, 1) := by decide +kernel
theorem dL_law_166 : decode cL_law 166 = .ok (.aload_n 2, 1) := by decide +kernel
theorem dL_law_167 : decode cL_law 167 = .ok (.iload 5, 2) := by decide +kernel
theorem dL_law_169 : decode cL_law 169 = .ok (.invokestatic 155, 3) := by decide +kernel
theorem dL_law_172 : decode cL_law 172 = .ok (.ifCond .eq 7, 3) := by decide +kernel
theorem dL_law_175 : decode cL_law 175 = .ok (.iconst 1, 1) := by decide +kernel
theorem dL_law_176 : decode cL_law 176 = .ok (.goto 4, 3) := by decide +kernel
theorem dL_law_179 : decode cL_law 179 = .ok (.iconst 0, 1) := by decide +kernel
theorem dL_law_180 : decode cL_law 180 = .ok (.istore_n 3, 1) := by decide +kernel
theorem dL_law_181 : decode cL_law 181 = .ok (.iinc 4 1, 3) := by decide +kernel
theorem dL_law_184 : decode cL_law 184 = .ok (.goto (-160), 3) := by decide +kernel
theorem dL_law_187 : decode cL_law 187 = .ok (.iload_n 3, 1) := by decide +kernel
theorem dL_law_188 : decode cL_law 188 = .ok (.ireturn, 1) := by decide +kernel
