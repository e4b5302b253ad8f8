theorem dL_low_0 : decode cL_low 0 = .ok (.iload_n 0, 1) := by decide +kernel
theorem dL_low_1 : decode cL_low 1 = .ok (.ldc 7, 2) := by decide +kernel
theorem dL_low_3 : decode cL_low 3 = .ok (.iand, 1) := by decide +kernel
theorem dL_low_4 : decode cL_low 4 = .ok (.iload_n 1, 1) := by decide +kernel
theorem dL_low_5 : decode cL_low 5 = .ok (.irem, 1) := by decide +kernel
theorem dL_low_6 : decode cL_low 6 = .ok (.ireturn, 1) := by decide +kernel
theorem dL_cell_0 : decode cL_cell 0 = .ok (.iload_n 1, 1) := by decide +kernel
theorem dL_cell_1 : decode cL_cell 1 = .ok (.aload_n 0, 1) := by decide +kernel
theorem dL_cell_2 : decode cL_cell 2 = .ok (.arraylength, 1) := by decide +kernel
theorem dL_cell_3 : decode cL_cell 3 = .ok (.if_icmp .ge 9, 3) := by decide +kernel
theorem dL_cell_6 : decode cL_cell 6 = .ok (.aload_n 0, 1) := by decide +kernel
theorem dL_cell_7 : decode cL_cell 7 = .ok (.iload_n 1, 1) := by decide +kernel
theorem dL_cell_8 : decode cL_cell 8 = .ok (.iaload, 1) := by decide +kernel
theorem dL_cell_9 : decode cL_cell 9 = .ok (.goto 11, 3) := by decide +kernel
theorem dL_cell_12 : decode cL_cell 12 = .ok (.ldc 8, 2) := by decide +kernel
theorem dL_cell_14 : decode cL_cell 14 = .ok (.iload_n 1, 1) := by decide +kernel
theorem dL_cell_15 : decode cL_cell 15 = .ok (.imul, 1) := by decide +kernel
theorem dL_cell_16 : decode cL_cell 16 = .ok (.sipush 977, 3) := by decide +kernel
theorem dL_cell_19 : decode cL_cell 19 = .ok (.iadd, 1) := by decide +kernel
theorem dL_cell_20 : decode cL_cell 20 = .ok (.ireturn, 1) := by decide +kernel
theorem dL_score_0 : decode cL_score 0 = .ok (.aload_n 0, 1) := by decide +kernel
theorem dL_score_1 : decode cL_score 1 = .ok (.iload_n 1, 1) := by decide +kernel
theorem dL_score_2 : decode cL_score 2 = .ok (.iload_n 2, 1) := by decide +kernel
theorem dL_score_3 : decode cL_score 3 = .ok (.iload_n 3, 1) := by decide +kernel
theorem dL_score_4 : decode cL_score 4 = .ok (.invokevirtual 9, 3) := by decide +kernel
theorem dL_score_7 : decode cL_score 7 = .ok (.ireturn, 1) := by decide +kernel
theorem dL_score_8 : decode cL_score 8 = .ok (.astore 4, 2) := by decide +kernel
theorem dL_score_10 : decode cL_score 10 = .ok (.sipush (-333), 3) := by decide +kernel
theorem dL_score_13 : decode cL_score 13 = .ok (.ireturn, 1) := by decide +kernel
theorem dL_walkover_0 : decode cL_walkover 0 = .ok (.aload_n 0, 1) := by decide +kernel
theorem dL_walkover_1 : decode cL_walkover 1 = .ok (.iload_n 1, 1) := by decide +kernel
theorem dL_walkover_2 : decode cL_walkover 2 = .ok (.iload_n 2, 1) := by decide +kernel
theorem dL_walkover_3 : decode cL_walkover 3 = .ok (.invokevirtual 17, 3) := by decide +kernel
theorem dL_walkover_6 : decode cL_walkover 6 = .ok (.ireturn, 1) := by decide +kernel
theorem dL_walkover_7 : decode cL_walkover 7 = .ok (.astore_n 3, 1) := by decide +kernel
theorem dL_walkover_8 : decode cL_walkover 8 = .ok (.sipush (-333), 3) := by decide +kernel
theorem dL_walkover_11 : decode cL_walkover 11 = .ok (.ireturn, 1) := by decide +kernel
theorem dL_undo_0 : decode cL_undo 0 = .ok (.aload_n 0, 1) := by decide +kernel
theorem dL_undo_1 : decode cL_undo 1 = .ok (.invokevirtual 21, 3) := by decide +kernel
theorem dL_undo_4 : decode cL_undo 4 = .ok (.ireturn, 1) := by decide +kernel
theorem dL_undo_5 : decode cL_undo 5 = .ok (.astore_n 1, 1) := by decide +kernel
theorem dL_undo_6 : decode cL_undo 6 = .ok (.bipush (-3), 2) := by decide +kernel
theorem dL_undo_8 : decode cL_undo 8 = .ok (.ireturn, 1) := by decide +kernel
theorem dL_matches_0 : decode cL_matches 0 = .ok (.iconst 0, 1) := by decide +kernel
theorem dL_matches_1 : decode cL_matches 1 = .ok (.istore_n 1, 1) := by decide +kernel
theorem dL_matches_2 : decode cL_matches 2 = .ok (.iconst 0, 1) := by decide +kernel
theorem dL_matches_3 : decode cL_matches 3 = .ok (.istore_n 2, 1) := by decide +kernel
theorem dL_matches_4 : decode cL_matches 4 = .ok (.iconst 0, 1) := by decide +kernel
theorem dL_matches_5 : decode cL_matches 5 = .ok (.istore_n 3, 1) := by decide +kernel
theorem dL_matches_6 : decode cL_matches 6 = .ok (.iconst 1, 1) := by decide +kernel
theorem dL_matches_7 : decode cL_matches 7 = .ok (.istore 4, 2) := by decide +kernel
theorem dL_matches_9 : decode cL_matches 9 = .ok (.iconst 0, 1) := by decide +kernel
theorem dL_matches_10 : decode cL_matches 10 = .ok (.istore 5, 2) := by decide +kernel
theorem dL_matches_12 : decode cL_matches 12 = .ok (.iload 5, 2) := by decide +kernel
theorem dL_matches_14 : decode cL_matches 14 = .ok (.aload_n 0, 1) := by decide +kernel
theorem dL_matches_15 : decode cL_matches 15 = .ok (.iconst 2, 1) := by decide +kernel
theorem dL_matches_16 : decode cL_matches 16 = .ok (.invokevirtual 25, 3) := by decide +kernel
theorem dL_matches_19 : decode cL_matches 19 = .ok (.if_icmp .ge 410, 3) := by decide +kernel
theorem dL_matches_22 : decode cL_matches 22 = .ok (.iload 4, 2) := by decide +kernel
theorem dL_matches_24 : decode cL_matches 24 = .ok (.ifCond .eq 405, 3) := by decide +kernel
theorem dL_matches_27 : decode cL_matches 27 = .ok (.aload_n 0, 1) := by decide +kernel
theorem dL_matches_28 : decode cL_matches 28 = .ok (.iload 5, 2) := by decide +kernel
theorem dL_matches_30 : decode cL_matches 30 = .ok (.iconst 3, 1) := by decide +kernel
theorem dL_matches_31 : decode cL_matches 31 = .ok (.invokevirtual 29, 3) := by decide +kernel
theorem dL_matches_34 : decode cL_matches 34 = .ok (.istore 6, 2) := by decide +kernel
theorem dL_matches_36 : decode cL_matches 36 = .ok (.aload_n 0, 1) := by decide +kernel
theorem dL_matches_37 : decode cL_matches 37 = .ok (.iload 5, 2) := by decide +kernel
theorem dL_matches_39 : decode cL_matches 39 = .ok (.iconst 4, 1) := by decide +kernel
theorem dL_matches_40 : decode cL_matches 40 = .ok (.invokevirtual 29, 3) := by decide +kernel
theorem dL_matches_43 : decode cL_matches 43 = .ok (.istore 7, 2) := by decide +kernel
theorem dL_matches_45 : decode cL_matches 45 = .ok (.aload_n 0, 1) := by decide +kernel
theorem dL_matches_46 : decode cL_matches 46 = .ok (.iload 5, 2) := by decide +kernel
theorem dL_matches_48 : decode cL_matches 48 = .ok (.iconst 1, 1) := by decide +kernel
theorem dL_matches_49 : decode cL_matches 49 = .ok (.invokevirtual 29, 3) := by decide +kernel
theorem dL_matches_52 : decode cL_matches 52 = .ok (.istore 8, 2) := by decide +kernel
theorem dL_matches_54 : decode cL_matches 54 = .ok (.aload_n 0, 1) := by decide +kernel
theorem dL_matches_55 : decode cL_matches 55 = .ok (.iload 5, 2) := by decide +kernel
theorem dL_matches_57 : decode cL_matches 57 = .ok (.iconst 2, 1) := by decide +kernel
theorem dL_matches_58 : decode cL_matches 58 = .ok (.invokevirtual 29, 3) := by decide +kernel
theorem dL_matches_61 : decode cL_matches 61 = .ok (.istore 9, 2) := by decide +kernel
theorem dL_matches_63 : decode cL_matches 63 = .ok (.aload_n 0, 1) := by decide +kernel
theorem dL_matches_64 : decode cL_matches 64 = .ok (.iload 5, 2) := by decide +kernel
theorem dL_matches_66 : decode cL_matches 66 = .ok (.bipush 8, 2) := by decide +kernel
theorem dL_matches_68 : decode cL_matches 68 = .ok (.invokevirtual 29, 3) := by decide +kernel
theorem dL_matches_71 : decode cL_matches 71 = .ok (.istore 10, 2) := by decide +kernel
theorem dL_matches_73 : decode cL_matches 73 = .ok (.aload_n 0, 1) := by decide +kernel
theorem dL_matches_74 : decode cL_matches 74 = .ok (.iconst 0, 1) := by decide +kernel
theorem dL_matches_75 : decode cL_matches 75 = .ok (.invokevirtual 25, 3) := by decide +kernel
theorem dL_matches_78 : decode cL_matches 78 = .ok (.istore 11, 2) := by decide +kernel
theorem dL_matches_80 : decode cL_matches 80 = .ok (.iload 8, 2) := by decide +kernel
theorem dL_matches_82 : decode cL_matches 82 = .ok (.iload 9, 2) := by decide +kernel
theorem dL_matches_84 : decode cL_matches 84 = .ok (.if_icmp .eq 131, 3) := by decide +kernel
theorem dL_matches_87 : decode cL_matches 87 = .ok (.aload_n 0, 1) := by decide +kernel
theorem dL_matches_88 : decode cL_matches 88 = .ok (.iload 8, 2) := by decide +kernel
theorem dL_matches_90 : decode cL_matches 90 = .ok (.iload 9, 2) := by decide +kernel
theorem dL_matches_92 : decode cL_matches 92 = .ok (.invokevirtual 33, 3) := by decide +kernel
theorem dL_matches_95 : decode cL_matches 95 = .ok (.iload 5, 2) := by decide +kernel
theorem dL_matches_97 : decode cL_matches 97 = .ok (.if_icmp .ne 118, 3) := by decide +kernel
theorem dL_matches_100 : decode cL_matches 100 = .ok (.iload 6, 2) := by decide +kernel
theorem dL_matches_102 : decode cL_matches 102 = .ok (.iconst (-1), 1) := by decide +kernel
theorem dL_matches_103 : decode cL_matches 103 = .ok (.if_icmp .ne 7, 3) := by decide +kernel
theorem dL_matches_106 : decode cL_matches 106 = .ok (.iconst 1, 1) := by decide +kernel
theorem dL_matches_107 : decode cL_matches 107 = .ok (.goto 4, 3) := by decide +kernel
theorem dL_matches_110 : decode cL_matches 110 = .ok (.iconst 0, 1) := by decide +kernel
theorem dL_matches_111 : decode cL_matches 111 = .ok (.iload 7, 2) := by decide +kernel
theorem dL_matches_113 : decode cL_matches 113 = .ok (.iconst (-1), 1) := by decide +kernel
theorem dL_matches_114 : decode cL_matches 114 = .ok (.if_icmp .ne 7, 3) := by decide +kernel
theorem dL_matches_117 : decode cL_matches 117 = .ok (.iconst 1, 1) := by decide +kernel
theorem dL_matches_118 : decode cL_matches 118 = .ok (.goto 4, 3) := by decide +kernel
theorem dL_matches_121 : decode cL_matches 121 = .ok (.iconst 0, 1) := by decide +kernel
theorem dL_matches_122 : decode cL_matches 122 = .ok (.if_icmp .ne 93, 3) := by decide +kernel
theorem dL_matches_125 : decode cL_matches 125 = .ok (.iload 10, 2) := by decide +kernel
theorem dL_matches_127 : decode cL_matches 127 = .ok (.ifCond .eq 8, 3) := by decide +kernel
theorem dL_matches_130 : decode cL_matches 130 = .ok (.iload 6, 2) := by decide +kernel
theorem dL_matches_132 : decode cL_matches 132 = .ok (.ifCond .lt 83, 3) := by decide +kernel
theorem dL_matches_135 : decode cL_matches 135 = .ok (.iload 10, 2) := by decide +kernel
theorem dL_matches_137 : decode cL_matches 137 = .ok (.ifCond .ne 7, 3) := by decide +kernel
theorem dL_matches_140 : decode cL_matches 140 = .ok (.iconst 1, 1) := by decide +kernel
theorem dL_matches_141 : decode cL_matches 141 = .ok (.goto 4, 3) := by decide +kernel
theorem dL_matches_144 : decode cL_matches 144 = .ok (.iconst 0, 1) := by decide +kernel
theorem dL_matches_145 : decode cL_matches 145 = .ok (.aload_n 0, 1) := by decide +kernel
theorem dL_matches_146 : decode cL_matches 146 = .ok (.iload 5, 2) := by decide +kernel
theorem dL_matches_148 : decode cL_matches 148 = .ok (.bipush 6, 2) := by decide +kernel
theorem dL_matches_150 : decode cL_matches 150 = .ok (.invokevirtual 29, 3) := by decide +kernel
theorem dL_matches_153 : decode cL_matches 153 = .ok (.iconst (-1), 1) := by decide +kernel
theorem dL_matches_154 : decode cL_matches 154 = .ok (.if_icmp .ne 7, 3) := by decide +kernel
theorem dL_matches_157 : decode cL_matches 157 = .ok (.iconst 1, 1) := by decide +kernel
theorem dL_matches_158 : decode cL_matches 158 = .ok (.goto 4, 3) := by decide +kernel
theorem dL_matches_161 : decode cL_matches 161 = .ok (.iconst 0, 1) := by decide +kernel
theorem dL_matches_162 : decode cL_matches 162 = .ok (.if_icmp .ne 53, 3) := by decide +kernel
theorem dL_matches_165 : decode cL_matches 165 = .ok (.iload 10, 2) := by decide +kernel
theorem dL_matches_167 : decode cL_matches 167 = .ok (.ifCond .ne 7, 3) := by decide +kernel
theorem dL_matches_170 : decode cL_matches 170 = .ok (.iconst 1, 1) := by decide +kernel
theorem dL_matches_171 : decode cL_matches 171 = .ok (.goto 4, 3) := by decide +kernel
theorem dL_matches_174 : decode cL_matches 174 = .ok (.iconst 0, 1) := by decide +kernel
theorem dL_matches_175 : decode cL_matches 175 = .ok (.aload_n 0, 1) := by decide +kernel
theorem dL_matches_176 : decode cL_matches 176 = .ok (.iload 5, 2) := by decide +kernel
theorem dL_matches_178 : decode cL_matches 178 = .ok (.bipush 7, 2) := by decide +kernel
theorem dL_matches_180 : decode cL_matches 180 = .ok (.invokevirtual 29, 3) := by decide +kernel
theorem dL_matches_183 : decode cL_matches 183 = .ok (.iconst (-1), 1) := by decide +kernel
theorem dL_matches_184 : decode cL_matches 184 = .ok (.if_icmp .ne 7, 3) := by decide +kernel
theorem dL_matches_187 : decode cL_matches 187 = .ok (.iconst 1, 1) := by decide +kernel
theorem dL_matches_188 : decode cL_matches 188 = .ok (.goto 4, 3) := by decide +kernel
theorem dL_matches_191 : decode cL_matches 191 = .ok (.iconst 0, 1) := by decide +kernel
theorem dL_matches_192 : decode cL_matches 192 = .ok (.if_icmp .ne 23, 3) := by decide +kernel
theorem dL_matches_195 : decode cL_matches 195 = .ok (.iload 6, 2) := by decide +kernel
theorem dL_matches_197 : decode cL_matches 197 = .ok (.iconst (-1), 1) := by decide +kernel
theorem dL_matches_198 : decode cL_matches 198 = .ok (.if_icmp .eq 13, 3) := by decide +kernel
theorem dL_matches_201 : decode cL_matches 201 = .ok (.aload_n 0, 1) := by decide +kernel
theorem dL_matches_202 : decode cL_matches 202 = .ok (.iload 5, 2) := by decide +kernel
theorem dL_matches_204 : decode cL_matches 204 = .ok (.iconst 5, 1) := by decide +kernel
theorem dL_matches_205 : decode cL_matches 205 = .ok (.invokevirtual 29, 3) := by decide +kernel
theorem dL_matches_208 : decode cL_matches 208 = .ok (.ifCond .ne 7, 3) := by decide +kernel
theorem dL_matches_211 : decode cL_matches 211 = .ok (.iconst 1, 1) := by decide +kernel
theorem dL_matches_212 : decode cL_matches 212 = .ok (.goto 4, 3) := by decide +kernel
theorem dL_matches_215 : decode cL_matches 215 = .ok (.iconst 0, 1) := by decide +kernel
theorem dL_matches_216 : decode cL_matches 216 = .ok (.istore 4, 2) := by decide +kernel
theorem dL_matches_218 : decode cL_matches 218 = .ok (.iload 4, 2) := by decide +kernel
theorem dL_matches_220 : decode cL_matches 220 = .ok (.ifCond .eq 92, 3) := by decide +kernel
theorem dL_matches_223 : decode cL_matches 223 = .ok (.iload 6, 2) := by decide +kernel
theorem dL_matches_225 : decode cL_matches 225 = .ok (.iconst (-1), 1) := by decide +kernel
theorem dL_matches_226 : decode cL_matches 226 = .ok (.if_icmp .eq 82, 3) := by decide +kernel
theorem dL_matches_229 : decode cL_matches 229 = .ok (.iload 6, 2) := by decide +kernel
theorem dL_matches_231 : decode cL_matches 231 = .ok (.iload 8, 2) := by decide +kernel
theorem dL_matches_233 : decode cL_matches 233 = .ok (.bipush 6, 2) := by decide +kernel
theorem dL_matches_235 : decode cL_matches 235 = .ok (.irem, 1) := by decide +kernel
theorem dL_matches_236 : decode cL_matches 236 = .ok (.if_icmp .eq 76, 3) := by decide +kernel
theorem dL_matches_239 : decode cL_matches 239 = .ok (.iload 6, 2) := by decide +kernel
theorem dL_matches_241 : decode cL_matches 241 = .ok (.iload 9, 2) := by decide +kernel
theorem dL_matches_243 : decode cL_matches 243 = .ok (.bipush 6, 2) := by decide +kernel
theorem dL_matches_245 : decode cL_matches 245 = .ok (.irem, 1) := by decide +kernel
theorem dL_matches_246 : decode cL_matches 246 = .ok (.if_icmp .eq 66, 3) := by decide +kernel
theorem dL_matches_249 : decode cL_matches 249 = .ok (.iload 7, 2) := by decide +kernel
theorem dL_matches_251 : decode cL_matches 251 = .ok (.iload 11, 2) := by decide +kernel
theorem dL_matches_253 : decode cL_matches 253 = .ok (.irem, 1) := by decide +kernel
theorem dL_matches_254 : decode cL_matches 254 = .ok (.iload 8, 2) := by decide +kernel
theorem dL_matches_256 : decode cL_matches 256 = .ok (.if_icmp .eq 56, 3) := by decide +kernel
theorem dL_matches_259 : decode cL_matches 259 = .ok (.iload 7, 2) := by decide +kernel
theorem dL_matches_261 : decode cL_matches 261 = .ok (.iload 11, 2) := by decide +kernel
theorem dL_matches_263 : decode cL_matches 263 = .ok (.irem, 1) := by decide +kernel
theorem dL_matches_264 : decode cL_matches 264 = .ok (.iload 9, 2) := by decide +kernel
theorem dL_matches_266 : decode cL_matches 266 = .ok (.if_icmp .eq 46, 3) := by decide +kernel
theorem dL_matches_269 : decode cL_matches 269 = .ok (.aload_n 0, 1) := by decide +kernel
theorem dL_matches_270 : decode cL_matches 270 = .ok (.aload_n 0, 1) := by decide +kernel
theorem dL_matches_271 : decode cL_matches 271 = .ok (.iload 5, 2) := by decide +kernel
theorem dL_matches_273 : decode cL_matches 273 = .ok (.iconst 0, 1) := by decide +kernel
theorem dL_matches_274 : decode cL_matches 274 = .ok (.invokevirtual 29, 3) := by decide +kernel
theorem dL_matches_277 : decode cL_matches 277 = .ok (.iload 6, 2) := by decide +kernel
theorem dL_matches_279 : decode cL_matches 279 = .ok (.invokevirtual 36, 3) := by decide +kernel
theorem dL_matches_282 : decode cL_matches 282 = .ok (.iload 5, 2) := by decide +kernel
theorem dL_matches_284 : decode cL_matches 284 = .ok (.if_icmp .ne 28, 3) := by decide +kernel
theorem dL_matches_287 : decode cL_matches 287 = .ok (.aload_n 0, 1) := by decide +kernel
theorem dL_matches_288 : decode cL_matches 288 = .ok (.aload_n 0, 1) := by decide +kernel
theorem dL_matches_289 : decode cL_matches 289 = .ok (.iload 5, 2) := by decide +kernel
theorem dL_matches_291 : decode cL_matches 291 = .ok (.iconst 0, 1) := by decide +kernel
theorem dL_matches_292 : decode cL_matches 292 = .ok (.invokevirtual 29, 3) := by decide +kernel
theorem dL_matches_295 : decode cL_matches 295 = .ok (.bipush 6, 2) := by decide +kernel
theorem dL_matches_297 : decode cL_matches 297 = .ok (.iload 7, 2) := by decide +kernel
theorem dL_matches_299 : decode cL_matches 299 = .ok (.iadd, 1) := by decide +kernel
theorem dL_matches_300 : decode cL_matches 300 = .ok (.invokevirtual 36, 3) := by decide +kernel
theorem dL_matches_303 : decode cL_matches 303 = .ok (.iload 5, 2) := by decide +kernel
theorem dL_matches_305 : decode cL_matches 305 = .ok (.if_icmp .ne 7, 3) := by decide +kernel
theorem dL_matches_308 : decode cL_matches 308 = .ok (.iconst 1, 1) := by decide +kernel
theorem dL_matches_309 : decode cL_matches 309 = .ok (.goto 4, 3) := by decide +kernel
theorem dL_matches_312 : decode cL_matches 312 = .ok (.iconst 0, 1) := by decide +kernel
theorem dL_matches_313 : decode cL_matches 313 = .ok (.istore 4, 2) := by decide +kernel
theorem dL_matches_315 : decode cL_matches 315 = .ok (.iload 4, 2) := by decide +kernel
theorem dL_matches_317 : decode cL_matches 317 = .ok (.ifCond .eq 62, 3) := by decide +kernel
theorem dL_matches_320 : decode cL_matches 320 = .ok (.iload 10, 2) := by decide +kernel
theorem dL_matches_322 : decode cL_matches 322 = .ok (.iconst 2, 1) := by decide +kernel
theorem dL_matches_323 : decode cL_matches 323 = .ok (.if_icmp .lt 52, 3) := by decide +kernel
theorem dL_matches_326 : decode cL_matches 326 = .ok (.aload_n 0, 1) := by decide +kernel
theorem dL_matches_327 : decode cL_matches 327 = .ok (.iload 5, 2) := by decide +kernel
theorem dL_matches_329 : decode cL_matches 329 = .ok (.iload 10, 2) := by decide +kernel
theorem dL_matches_331 : decode cL_matches 331 = .ok (.iconst 2, 1) := by decide +kernel
theorem dL_matches_332 : decode cL_matches 332 = .ok (.if_icmp .ne 8, 3) := by decide +kernel
theorem dL_matches_335 : decode cL_matches 335 = .ok (.bipush 6, 2) := by decide +kernel
theorem dL_matches_337 : decode cL_matches 337 = .ok (.goto 5, 3) := by decide +kernel
theorem dL_matches_340 : decode cL_matches 340 = .ok (.bipush 7, 2) := by decide +kernel
theorem dL_matches_342 : decode cL_matches 342 = .ok (.invokevirtual 29, 3) := by decide +kernel
theorem dL_matches_345 : decode cL_matches 345 = .ok (.ifCond .ne 34, 3) := by decide +kernel
theorem dL_matches_348 : decode cL_matches 348 = .ok (.aload_n 0, 1) := by decide +kernel
theorem dL_matches_349 : decode cL_matches 349 = .ok (.iload 5, 2) := by decide +kernel
theorem dL_matches_351 : decode cL_matches 351 = .ok (.iload 10, 2) := by decide +kernel
theorem dL_matches_353 : decode cL_matches 353 = .ok (.iconst 2, 1) := by decide +kernel
theorem dL_matches_354 : decode cL_matches 354 = .ok (.if_icmp .ne 8, 3) := by decide +kernel
theorem dL_matches_357 : decode cL_matches 357 = .ok (.bipush 7, 2) := by decide +kernel
theorem dL_matches_359 : decode cL_matches 359 = .ok (.goto 5, 3) := by decide +kernel
theorem dL_matches_362 : decode cL_matches 362 = .ok (.bipush 6, 2) := by decide +kernel
theorem dL_matches_364 : decode cL_matches 364 = .ok (.invokevirtual 29, 3) := by decide +kernel
theorem dL_matches_367 : decode cL_matches 367 = .ok (.aload_n 0, 1) := by decide +kernel
theorem dL_matches_368 : decode cL_matches 368 = .ok (.iconst 2, 1) := by decide +kernel
theorem dL_matches_369 : decode cL_matches 369 = .ok (.invokevirtual 39, 3) := by decide +kernel
theorem dL_matches_372 : decode cL_matches 372 = .ok (.if_icmp .ne 7, 3) := by decide +kernel
theorem dL_matches_375 : decode cL_matches 375 = .ok (.iconst 1, 1) := by decide +kernel
theorem dL_matches_376 : decode cL_matches 376 = .ok (.goto 4, 3) := by decide +kernel
theorem dL_matches_379 : decode cL_matches 379 = .ok (.iconst 0, 1) := by decide +kernel
theorem dL_matches_380 : decode cL_matches 380 = .ok (.istore 4, 2) := by decide +kernel
theorem dL_matches_382 : decode cL_matches 382 = .ok (.iload_n 1, 1) := by decide +kernel
theorem dL_matches_383 : decode cL_matches 383 = .ok (.iload 6, 2) := by decide +kernel
theorem dL_matches_385 : decode cL_matches 385 = .ok (.iconst (-1), 1) := by decide +kernel
theorem dL_matches_386 : decode cL_matches 386 = .ok (.if_icmp .ne 7, 3) := by decide +kernel
theorem dL_matches_389 : decode cL_matches 389 = .ok (.iconst 0, 1) := by decide +kernel
theorem dL_matches_390 : decode cL_matches 390 = .ok (.goto 4, 3) := by decide +kernel
theorem dL_matches_393 : decode cL_matches 393 = .ok (.iconst 1, 1) := by decide +kernel
theorem dL_matches_394 : decode cL_matches 394 = .ok (.iadd, 1) := by decide +kernel
theorem dL_matches_395 : decode cL_matches 395 = .ok (.istore_n 1, 1) := by decide +kernel
theorem dL_matches_396 : decode cL_matches 396 = .ok (.iload_n 2, 1) := by decide +kernel
theorem dL_matches_397 : decode cL_matches 397 = .ok (.iload 10, 2) := by decide +kernel
theorem dL_matches_399 : decode cL_matches 399 = .ok (.ifCond .ne 7, 3) := by decide +kernel
theorem dL_matches_402 : decode cL_matches 402 = .ok (.iconst 0, 1) := by decide +kernel
theorem dL_matches_403 : decode cL_matches 403 = .ok (.goto 4, 3) := by decide +kernel
theorem dL_matches_406 : decode cL_matches 406 = .ok (.iconst 1, 1) := by decide +kernel
theorem dL_matches_407 : decode cL_matches 407 = .ok (.iadd, 1) := by decide +kernel
theorem dL_matches_408 : decode cL_matches 408 = .ok (.istore_n 2, 1) := by decide +kernel
theorem dL_matches_409 : decode cL_matches 409 = .ok (.iload_n 3, 1) := by decide +kernel
theorem dL_matches_410 : decode cL_matches 410 = .ok (.iload 10, 2) := by decide +kernel
theorem dL_matches_412 : decode cL_matches 412 = .ok (.iconst 1, 1) := by decide +kernel
theorem dL_matches_413 : decode cL_matches 413 = .ok (.if_icmp .le 7, 3) := by decide +kernel
theorem dL_matches_416 : decode cL_matches 416 = .ok (.iconst 1, 1) := by decide +kernel
theorem dL_matches_417 : decode cL_matches 417 = .ok (.goto 4, 3) := by decide +kernel
theorem dL_matches_420 : decode cL_matches 420 = .ok (.iconst 0, 1) := by decide +kernel
theorem dL_matches_421 : decode cL_matches 421 = .ok (.iadd, 1) := by decide +kernel
theorem dL_matches_422 : decode cL_matches 422 = .ok (.istore_n 3, 1) := by decide +kernel
theorem dL_matches_423 : decode cL_matches 423 = .ok (.iinc 5 1, 3) := by decide +kernel
theorem dL_matches_426 : decode cL_matches 426 = .ok (.goto (-414), 3) := by decide +kernel
theorem dL_matches_429 : decode cL_matches 429 = .ok (.iload 4, 2) := by decide +kernel
theorem dL_matches_431 : decode cL_matches 431 = .ok (.ifCond .eq 34, 3) := by decide +kernel
theorem dL_matches_434 : decode cL_matches 434 = .ok (.iload_n 1, 1) := by decide +kernel
theorem dL_matches_435 : decode cL_matches 435 = .ok (.aload_n 0, 1) := by decide +kernel
theorem dL_matches_436 : decode cL_matches 436 = .ok (.iconst 3, 1) := by decide +kernel
theorem dL_matches_437 : decode cL_matches 437 = .ok (.invokevirtual 25, 3) := by decide +kernel
theorem dL_matches_440 : decode cL_matches 440 = .ok (.if_icmp .ne 25, 3) := by decide +kernel
theorem dL_matches_443 : decode cL_matches 443 = .ok (.iload_n 2, 1) := by decide +kernel
theorem dL_matches_444 : decode cL_matches 444 = .ok (.aload_n 0, 1) := by decide +kernel
theorem dL_matches_445 : decode cL_matches 445 = .ok (.iconst 4, 1) := by decide +kernel
theorem dL_matches_446 : decode cL_matches 446 = .ok (.invokevirtual 25, 3) := by decide +kernel
theorem dL_matches_449 : decode cL_matches 449 = .ok (.if_icmp .ne 16, 3) := by decide +kernel
theorem dL_matches_452 : decode cL_matches 452 = .ok (.iload_n 3, 1) := by decide +kernel
theorem dL_matches_453 : decode cL_matches 453 = .ok (.aload_n 0, 1) := by decide +kernel
theorem dL_matches_454 : decode cL_matches 454 = .ok (.iconst 5, 1) := by decide +kernel
theorem dL_matches_455 : decode cL_matches 455 = .ok (.invokevirtual 25, 3) := by decide +kernel
theorem dL_matches_458 : decode cL_matches 458 = .ok (.if_icmp .ne 7, 3) := by decide +kernel
theorem dL_matches_461 : decode cL_matches 461 = .ok (.iconst 1, 1) := by decide +kernel
theorem dL_matches_462 : decode cL_matches 462 = .ok (.goto 4, 3) := by decide +kernel
theorem dL_matches_465 : decode cL_matches 465 = .ok (.iconst 0, 1) := by decide +kernel
theorem dL_matches_466 : decode cL_matches 466 = .ok (.ireturn, 1) := by decide +kernel
theorem dL_teams_0 : decode cL_teams 0 = .ok (.aload_n 0, 1) := by decide +kernel
theorem dL_teams_1 : decode cL_teams 1 = .ok (.iconst 0, 1) := by decide +kernel
theorem dL_teams_2 : decode cL_teams 2 = .ok (.invokevirtual 25, 3) := by decide +kernel
theorem dL_teams_5 : decode cL_teams 5 = .ok (.istore_n 1, 1) := by decide +kernel
theorem dL_teams_6 : decode cL_teams 6 = .ok (.iconst 0, 1) := by decide +kernel
theorem dL_teams_7 : decode cL_teams 7 = .ok (.istore_n 2, 1) := by decide +kernel
theorem dL_teams_8 : decode cL_teams 8 = .ok (.iconst 0, 1) := by decide +kernel
theorem dL_teams_9 : decode cL_teams 9 = .ok (.istore_n 3, 1) := by decide +kernel
theorem dL_teams_10 : decode cL_teams 10 = .ok (.iconst 0, 1) := by decide +kernel
theorem dL_teams_11 : decode cL_teams 11 = .ok (.istore 4, 2) := by decide +kernel
theorem dL_teams_13 : decode cL_teams 13 = .ok (.iconst 0, 1) := by decide +kernel
theorem dL_teams_14 : decode cL_teams 14 = .ok (.istore 5, 2) := by decide +kernel
theorem dL_teams_16 : decode cL_teams 16 = .ok (.iconst 0, 1) := by decide +kernel
theorem dL_teams_17 : decode cL_teams 17 = .ok (.istore 6, 2) := by decide +kernel
theorem dL_teams_19 : decode cL_teams 19 = .ok (.iconst 0, 1) := by decide +kernel
theorem dL_teams_20 : decode cL_teams 20 = .ok (.istore 7, 2) := by decide +kernel
theorem dL_teams_22 : decode cL_teams 22 = .ok (.iconst 0, 1) := by decide +kernel
theorem dL_teams_23 : decode cL_teams 23 = .ok (.istore 8, 2) := by decide +kernel
theorem dL_teams_25 : decode cL_teams 25 = .ok (.iconst 1, 1) := by decide +kernel
theorem dL_teams_26 : decode cL_teams 26 = .ok (.istore 9, 2) := by decide +kernel
theorem dL_teams_28 : decode cL_teams 28 = .ok (.iconst 0, 1) := by decide +kernel
theorem dL_teams_29 : decode cL_teams 29 = .ok (.istore 10, 2) := by decide +kernel
theorem dL_teams_31 : decode cL_teams 31 = .ok (.iload 10, 2) := by decide +kernel
theorem dL_teams_33 : decode cL_teams 33 = .ok (.iload_n 1, 1) := by decide +kernel
theorem dL_teams_34 : decode cL_teams 34 = .ok (.if_icmp .ge 231, 3) := by decide +kernel
theorem dL_teams_37 : decode cL_teams 37 = .ok (.iload 9, 2) := by decide +kernel
theorem dL_teams_39 : decode cL_teams 39 = .ok (.ifCond .eq 226, 3) := by decide +kernel
theorem dL_teams_42 : decode cL_teams 42 = .ok (.iload_n 2, 1) := by decide +kernel
theorem dL_teams_43 : decode cL_teams 43 = .ok (.iconst 1, 1) := by decide +kernel
theorem dL_teams_44 : decode cL_teams 44 = .ok (.aload_n 0, 1) := by decide +kernel
theorem dL_teams_45 : decode cL_teams 45 = .ok (.iload 10, 2) := by decide +kernel
theorem dL_teams_47 : decode cL_teams 47 = .ok (.bipush 7, 2) := by decide +kernel
theorem dL_teams_49 : decode cL_teams 49 = .ok (.invokevirtual 42, 3) := by decide +kernel
theorem dL_teams_52 : decode cL_teams 52 = .ok (.ishl, 1) := by decide +kernel
theorem dL_teams_53 : decode cL_teams 53 = .ok (.ior, 1) := by decide +kernel
theorem dL_teams_54 : decode cL_teams 54 = .ok (.istore_n 2, 1) := by decide +kernel
theorem dL_teams_55 : decode cL_teams 55 = .ok (.iload_n 3, 1) := by decide +kernel
theorem dL_teams_56 : decode cL_teams 56 = .ok (.aload_n 0, 1) := by decide +kernel
theorem dL_teams_57 : decode cL_teams 57 = .ok (.iload 10, 2) := by decide +kernel
theorem dL_teams_59 : decode cL_teams 59 = .ok (.iconst 4, 1) := by decide +kernel
theorem dL_teams_60 : decode cL_teams 60 = .ok (.invokevirtual 42, 3) := by decide +kernel
theorem dL_teams_63 : decode cL_teams 63 = .ok (.iadd, 1) := by decide +kernel
theorem dL_teams_64 : decode cL_teams 64 = .ok (.istore_n 3, 1) := by decide +kernel
theorem dL_teams_65 : decode cL_teams 65 = .ok (.iload 4, 2) := by decide +kernel
theorem dL_teams_67 : decode cL_teams 67 = .ok (.aload_n 0, 1) := by decide +kernel
theorem dL_teams_68 : decode cL_teams 68 = .ok (.iload 10, 2) := by decide +kernel
theorem dL_teams_70 : decode cL_teams 70 = .ok (.iconst 5, 1) := by decide +kernel
theorem dL_teams_71 : decode cL_teams 71 = .ok (.invokevirtual 42, 3) := by decide +kernel
theorem dL_teams_74 : decode cL_teams 74 = .ok (.iadd, 1) := by decide +kernel
theorem dL_teams_75 : decode cL_teams 75 = .ok (.istore 4, 2) := by decide +kernel
theorem dL_teams_77 : decode cL_teams 77 = .ok (.iload 5, 2) := by decide +kernel
theorem dL_teams_79 : decode cL_teams 79 = .ok (.aload_n 0, 1) := by decide +kernel
theorem dL_teams_80 : decode cL_teams 80 = .ok (.iload 10, 2) := by decide +kernel
theorem dL_teams_82 : decode cL_teams 82 = .ok (.iconst 0, 1) := by decide +kernel
theorem dL_teams_83 : decode cL_teams 83 = .ok (.invokevirtual 42, 3) := by decide +kernel
theorem dL_teams_86 : decode cL_teams 86 = .ok (.iadd, 1) := by decide +kernel
theorem dL_teams_87 : decode cL_teams 87 = .ok (.istore 5, 2) := by decide +kernel
theorem dL_teams_89 : decode cL_teams 89 = .ok (.iload 6, 2) := by decide +kernel
theorem dL_teams_91 : decode cL_teams 91 = .ok (.aload_n 0, 1) := by decide +kernel
theorem dL_teams_92 : decode cL_teams 92 = .ok (.iload 10, 2) := by decide +kernel
theorem dL_teams_94 : decode cL_teams 94 = .ok (.iconst 1, 1) := by decide +kernel
theorem dL_teams_95 : decode cL_teams 95 = .ok (.invokevirtual 42, 3) := by decide +kernel
theorem dL_teams_98 : decode cL_teams 98 = .ok (.iadd, 1) := by decide +kernel
theorem dL_teams_99 : decode cL_teams 99 = .ok (.istore 6, 2) := by decide +kernel
theorem dL_teams_101 : decode cL_teams 101 = .ok (.iload 7, 2) := by decide +kernel
theorem dL_teams_103 : decode cL_teams 103 = .ok (.aload_n 0, 1) := by decide +kernel
theorem dL_teams_104 : decode cL_teams 104 = .ok (.iload 10, 2) := by decide +kernel
theorem dL_teams_106 : decode cL_teams 106 = .ok (.bipush 6, 2) := by decide +kernel
theorem dL_teams_108 : decode cL_teams 108 = .ok (.invokevirtual 42, 3) := by decide +kernel
theorem dL_teams_111 : decode cL_teams 111 = .ok (.iadd, 1) := by decide +kernel
theorem dL_teams_112 : decode cL_teams 112 = .ok (.istore 7, 2) := by decide +kernel
theorem dL_teams_114 : decode cL_teams 114 = .ok (.iload 8, 2) := by decide +kernel
theorem dL_teams_116 : decode cL_teams 116 = .ok (.aload_n 0, 1) := by decide +kernel
theorem dL_teams_117 : decode cL_teams 117 = .ok (.iload 10, 2) := by decide +kernel
theorem dL_teams_119 : decode cL_teams 119 = .ok (.invokevirtual 45, 3) := by decide +kernel
theorem dL_teams_122 : decode cL_teams 122 = .ok (.iadd, 1) := by decide +kernel
theorem dL_teams_123 : decode cL_teams 123 = .ok (.istore 8, 2) := by decide +kernel
theorem dL_teams_125 : decode cL_teams 125 = .ok (.aload_n 0, 1) := by decide +kernel
theorem dL_teams_126 : decode cL_teams 126 = .ok (.iload 10, 2) := by decide +kernel
theorem dL_teams_128 : decode cL_teams 128 = .ok (.iconst 1, 1) := by decide +kernel
theorem dL_teams_129 : decode cL_teams 129 = .ok (.invokevirtual 42, 3) := by decide +kernel
theorem dL_teams_132 : decode cL_teams 132 = .ok (.aload_n 0, 1) := by decide +kernel
theorem dL_teams_133 : decode cL_teams 133 = .ok (.iload 10, 2) := by decide +kernel
theorem dL_teams_135 : decode cL_teams 135 = .ok (.bipush 8, 2) := by decide +kernel
theorem dL_teams_137 : decode cL_teams 137 = .ok (.invokevirtual 42, 3) := by decide +kernel
theorem dL_teams_140 : decode cL_teams 140 = .ok (.iadd, 1) := by decide +kernel
theorem dL_teams_141 : decode cL_teams 141 = .ok (.iload_n 1, 1) := by decide +kernel
theorem dL_teams_142 : decode cL_teams 142 = .ok (.iconst 1, 1) := by decide +kernel
theorem dL_teams_143 : decode cL_teams 143 = .ok (.isub, 1) := by decide +kernel
theorem dL_teams_144 : decode cL_teams 144 = .ok (.if_icmp .ne 112, 3) := by decide +kernel
theorem dL_teams_147 : decode cL_teams 147 = .ok (.aload_n 0, 1) := by decide +kernel
theorem dL_teams_148 : decode cL_teams 148 = .ok (.aload_n 0, 1) := by decide +kernel
theorem dL_teams_149 : decode cL_teams 149 = .ok (.iload 10, 2) := by decide +kernel
theorem dL_teams_151 : decode cL_teams 151 = .ok (.bipush 7, 2) := by decide +kernel
theorem dL_teams_153 : decode cL_teams 153 = .ok (.invokevirtual 42, 3) := by decide +kernel
theorem dL_teams_156 : decode cL_teams 156 = .ok (.invokevirtual 48, 3) := by decide +kernel
theorem dL_teams_159 : decode cL_teams 159 = .ok (.iload 10, 2) := by decide +kernel
theorem dL_teams_161 : decode cL_teams 161 = .ok (.if_icmp .ne 95, 3) := by decide +kernel
theorem dL_teams_164 : decode cL_teams 164 = .ok (.aload_n 0, 1) := by decide +kernel
theorem dL_teams_165 : decode cL_teams 165 = .ok (.iload 10, 2) := by decide +kernel
theorem dL_teams_167 : decode cL_teams 167 = .ok (.invokevirtual 51, 3) := by decide +kernel
theorem dL_teams_170 : decode cL_teams 170 = .ok (.aload_n 0, 1) := by decide +kernel
theorem dL_teams_171 : decode cL_teams 171 = .ok (.iload 10, 2) := by decide +kernel
theorem dL_teams_173 : decode cL_teams 173 = .ok (.bipush 7, 2) := by decide +kernel
theorem dL_teams_175 : decode cL_teams 175 = .ok (.invokevirtual 42, 3) := by decide +kernel
theorem dL_teams_178 : decode cL_teams 178 = .ok (.if_icmp .gt 78, 3) := by decide +kernel
theorem dL_teams_181 : decode cL_teams 181 = .ok (.aload_n 0, 1) := by decide +kernel
theorem dL_teams_182 : decode cL_teams 182 = .ok (.iload 10, 2) := by decide +kernel
theorem dL_teams_184 : decode cL_teams 184 = .ok (.iconst 2, 1) := by decide +kernel
theorem dL_teams_185 : decode cL_teams 185 = .ok (.invokevirtual 42, 3) := by decide +kernel
theorem dL_teams_188 : decode cL_teams 188 = .ok (.aload_n 0, 1) := by decide +kernel
theorem dL_teams_189 : decode cL_teams 189 = .ok (.iload 10, 2) := by decide +kernel
theorem dL_teams_191 : decode cL_teams 191 = .ok (.iconst 3, 1) := by decide +kernel
theorem dL_teams_192 : decode cL_teams 192 = .ok (.invokevirtual 42, 3) := by decide +kernel
theorem dL_teams_195 : decode cL_teams 195 = .ok (.iadd, 1) := by decide +kernel
theorem dL_teams_196 : decode cL_teams 196 = .ok (.aload_n 0, 1) := by decide +kernel
theorem dL_teams_197 : decode cL_teams 197 = .ok (.iload 10, 2) := by decide +kernel
theorem dL_teams_199 : decode cL_teams 199 = .ok (.iconst 1, 1) := by decide +kernel
theorem dL_teams_200 : decode cL_teams 200 = .ok (.invokevirtual 42, 3) := by decide +kernel
theorem dL_teams_203 : decode cL_teams 203 = .ok (.if_icmp .gt 53, 3) := by decide +kernel
theorem dL_teams_206 : decode cL_teams 206 = .ok (.aload_n 0, 1) := by decide +kernel
theorem dL_teams_207 : decode cL_teams 207 = .ok (.iload 10, 2) := by decide +kernel
theorem dL_teams_209 : decode cL_teams 209 = .ok (.iconst 0, 1) := by decide +kernel
theorem dL_teams_210 : decode cL_teams 210 = .ok (.invokevirtual 42, 3) := by decide +kernel
theorem dL_teams_213 : decode cL_teams 213 = .ok (.aload_n 0, 1) := by decide +kernel
theorem dL_teams_214 : decode cL_teams 214 = .ok (.iconst 0, 1) := by decide +kernel
theorem dL_teams_215 : decode cL_teams 215 = .ok (.invokevirtual 39, 3) := by decide +kernel
theorem dL_teams_218 : decode cL_teams 218 = .ok (.aload_n 0, 1) := by decide +kernel
theorem dL_teams_219 : decode cL_teams 219 = .ok (.iload 10, 2) := by decide +kernel
theorem dL_teams_221 : decode cL_teams 221 = .ok (.iconst 2, 1) := by decide +kernel
theorem dL_teams_222 : decode cL_teams 222 = .ok (.invokevirtual 42, 3) := by decide +kernel
theorem dL_teams_225 : decode cL_teams 225 = .ok (.imul, 1) := by decide +kernel
theorem dL_teams_226 : decode cL_teams 226 = .ok (.aload_n 0, 1) := by decide +kernel
theorem dL_teams_227 : decode cL_teams 227 = .ok (.iconst 1, 1) := by decide +kernel
theorem dL_teams_228 : decode cL_teams 228 = .ok (.invokevirtual 39, 3) := by decide +kernel
theorem dL_teams_231 : decode cL_teams 231 = .ok (.aload_n 0, 1) := by decide +kernel
theorem dL_teams_232 : decode cL_teams 232 = .ok (.iload 10, 2) := by decide +kernel
theorem dL_teams_234 : decode cL_teams 234 = .ok (.iconst 3, 1) := by decide +kernel
theorem dL_teams_235 : decode cL_teams 235 = .ok (.invokevirtual 42, 3) := by decide +kernel
theorem dL_teams_238 : decode cL_teams 238 = .ok (.imul, 1) := by decide +kernel
theorem dL_teams_239 : decode cL_teams 239 = .ok (.iadd, 1) := by decide +kernel
theorem dL_teams_240 : decode cL_teams 240 = .ok (.aload_n 0, 1) := by decide +kernel
theorem dL_teams_241 : decode cL_teams 241 = .ok (.iload 10, 2) := by decide +kernel
theorem dL_teams_243 : decode cL_teams 243 = .ok (.bipush 6, 2) := by decide +kernel
theorem dL_teams_245 : decode cL_teams 245 = .ok (.invokevirtual 42, 3) := by decide +kernel
theorem dL_teams_248 : decode cL_teams 248 = .ok (.isub, 1) := by decide +kernel
theorem dL_teams_249 : decode cL_teams 249 = .ok (.if_icmp .ne 7, 3) := by decide +kernel
theorem dL_teams_252 : decode cL_teams 252 = .ok (.iconst 1, 1) := by decide +kernel
theorem dL_teams_253 : decode cL_teams 253 = .ok (.goto 4, 3) := by decide +kernel
theorem dL_teams_256 : decode cL_teams 256 = .ok (.iconst 0, 1) := by decide +kernel
theorem dL_teams_257 : decode cL_teams 257 = .ok (.istore 9, 2) := by decide +kernel
theorem dL_teams_259 : decode cL_teams 259 = .ok (.iinc 10 1, 3) := by decide +kernel
theorem dL_teams_262 : decode cL_teams 262 = .ok (.goto (-231), 3) := by decide +kernel
theorem dL_teams_265 : decode cL_teams 265 = .ok (.iconst 1, 1) := by decide +kernel
theorem dL_teams_266 : decode cL_teams 266 = .ok (.istore 10, 2) := by decide +kernel
theorem dL_teams_268 : decode cL_teams 268 = .ok (.iload 10, 2) := by decide +kernel
theorem dL_teams_270 : decode cL_teams 270 = .ok (.iload_n 1, 1) := by decide +kernel
theorem dL_teams_271 : decode cL_teams 271 = .ok (.if_icmp .ge 48, 3) := by decide +kernel
theorem dL_teams_274 : decode cL_teams 274 = .ok (.iload 9, 2) := by decide +kernel
theorem dL_teams_276 : decode cL_teams 276 = .ok (.ifCond .eq 43, 3) := by decide +kernel
theorem dL_teams_279 : decode cL_teams 279 = .ok (.aload_n 0, 1) := by decide +kernel
theorem dL_teams_280 : decode cL_teams 280 = .ok (.aload_n 0, 1) := by decide +kernel
theorem dL_teams_281 : decode cL_teams 281 = .ok (.iload 10, 2) := by decide +kernel
theorem dL_teams_283 : decode cL_teams 283 = .ok (.iconst 1, 1) := by decide +kernel
theorem dL_teams_284 : decode cL_teams 284 = .ok (.isub, 1) := by decide +kernel
theorem dL_teams_285 : decode cL_teams 285 = .ok (.invokevirtual 48, 3) := by decide +kernel
theorem dL_teams_288 : decode cL_teams 288 = .ok (.iconst 0, 1) := by decide +kernel
theorem dL_teams_289 : decode cL_teams 289 = .ok (.invokevirtual 42, 3) := by decide +kernel
theorem dL_teams_292 : decode cL_teams 292 = .ok (.aload_n 0, 1) := by decide +kernel
theorem dL_teams_293 : decode cL_teams 293 = .ok (.aload_n 0, 1) := by decide +kernel
theorem dL_teams_294 : decode cL_teams 294 = .ok (.iload 10, 2) := by decide +kernel
theorem dL_teams_296 : decode cL_teams 296 = .ok (.invokevirtual 48, 3) := by decide +kernel
theorem dL_teams_299 : decode cL_teams 299 = .ok (.iconst 0, 1) := by decide +kernel
theorem dL_teams_300 : decode cL_teams 300 = .ok (.invokevirtual 42, 3) := by decide +kernel
theorem dL_teams_303 : decode cL_teams 303 = .ok (.if_icmp .lt 7, 3) := by decide +kernel
theorem dL_teams_306 : decode cL_teams 306 = .ok (.iconst 1, 1) := by decide +kernel
theorem dL_teams_307 : decode cL_teams 307 = .ok (.goto 4, 3) := by decide +kernel
theorem dL_teams_310 : decode cL_teams 310 = .ok (.iconst 0, 1) := by decide +kernel
theorem dL_teams_311 : decode cL_teams 311 = .ok (.istore 9, 2) := by decide +kernel
theorem dL_teams_313 : decode cL_teams 313 = .ok (.iinc 10 1, 3) := by decide +kernel
theorem dL_teams_316 : decode cL_teams 316 = .ok (.goto (-48), 3) := by decide +kernel
theorem dL_teams_319 : decode cL_teams 319 = .ok (.iload 9, 2) := by decide +kernel
theorem dL_teams_321 : decode cL_teams 321 = .ok (.ifCond .eq 70, 3) := by decide +kernel
theorem dL_teams_324 : decode cL_teams 324 = .ok (.iload_n 2, 1) := by decide +kernel
theorem dL_teams_325 : decode cL_teams 325 = .ok (.iconst 1, 1) := by decide +kernel
theorem dL_teams_326 : decode cL_teams 326 = .ok (.iload_n 1, 1) := by decide +kernel
theorem dL_teams_327 : decode cL_teams 327 = .ok (.ishl, 1) := by decide +kernel
theorem dL_teams_328 : decode cL_teams 328 = .ok (.iconst 1, 1) := by decide +kernel
theorem dL_teams_329 : decode cL_teams 329 = .ok (.isub, 1) := by decide +kernel
theorem dL_teams_330 : decode cL_teams 330 = .ok (.if_icmp .ne 61, 3) := by decide +kernel
theorem dL_teams_333 : decode cL_teams 333 = .ok (.iload_n 3, 1) := by decide +kernel
theorem dL_teams_334 : decode cL_teams 334 = .ok (.iload 4, 2) := by decide +kernel
theorem dL_teams_336 : decode cL_teams 336 = .ok (.if_icmp .ne 55, 3) := by decide +kernel
theorem dL_teams_339 : decode cL_teams 339 = .ok (.iload 5, 2) := by decide +kernel
theorem dL_teams_341 : decode cL_teams 341 = .ok (.aload_n 0, 1) := by decide +kernel
theorem dL_teams_342 : decode cL_teams 342 = .ok (.bipush 6, 2) := by decide +kernel
theorem dL_teams_344 : decode cL_teams 344 = .ok (.invokevirtual 25, 3) := by decide +kernel
theorem dL_teams_347 : decode cL_teams 347 = .ok (.if_icmp .ne 44, 3) := by decide +kernel
theorem dL_teams_350 : decode cL_teams 350 = .ok (.iload 6, 2) := by decide +kernel
theorem dL_teams_352 : decode cL_teams 352 = .ok (.iconst 2, 1) := by decide +kernel
theorem dL_teams_353 : decode cL_teams 353 = .ok (.aload_n 0, 1) := by decide +kernel
theorem dL_teams_354 : decode cL_teams 354 = .ok (.iconst 4, 1) := by decide +kernel
theorem dL_teams_355 : decode cL_teams 355 = .ok (.invokevirtual 25, 3) := by decide +kernel
theorem dL_teams_358 : decode cL_teams 358 = .ok (.imul, 1) := by decide +kernel
theorem dL_teams_359 : decode cL_teams 359 = .ok (.if_icmp .ne 32, 3) := by decide +kernel
theorem dL_teams_362 : decode cL_teams 362 = .ok (.iload 7, 2) := by decide +kernel
theorem dL_teams_364 : decode cL_teams 364 = .ok (.aload_n 0, 1) := by decide +kernel
theorem dL_teams_365 : decode cL_teams 365 = .ok (.iconst 5, 1) := by decide +kernel
theorem dL_teams_366 : decode cL_teams 366 = .ok (.invokevirtual 25, 3) := by decide +kernel
theorem dL_teams_369 : decode cL_teams 369 = .ok (.if_icmp .ne 22, 3) := by decide +kernel
theorem dL_teams_372 : decode cL_teams 372 = .ok (.iload 8, 2) := by decide +kernel
theorem dL_teams_374 : decode cL_teams 374 = .ok (.iconst 2, 1) := by decide +kernel
theorem dL_teams_375 : decode cL_teams 375 = .ok (.if_icmp .ge 16, 3) := by decide +kernel
theorem dL_teams_378 : decode cL_teams 378 = .ok (.aload_n 0, 1) := by decide +kernel
theorem dL_teams_379 : decode cL_teams 379 = .ok (.invokevirtual 54, 3) := by decide +kernel
theorem dL_teams_382 : decode cL_teams 382 = .ok (.dconst 1, 1) := by decide +kernel
theorem dL_teams_383 : decode cL_teams 383 = .ok (.dcmp .g, 1) := by decide +kernel
theorem dL_teams_384 : decode cL_teams 384 = .ok (.ifCond .gt 7, 3) := by decide +kernel
theorem dL_teams_387 : decode cL_teams 387 = .ok (.iconst 1, 1) := by decide +kernel
theorem dL_teams_388 : decode cL_teams 388 = .ok (.goto 4, 3) := by decide +kernel
theorem dL_teams_391 : decode cL_teams 391 = .ok (.iconst 0, 1) := by decide +kernel
theorem dL_teams_392 : decode cL_teams 392 = .ok (.ireturn, 1) := by decide +kernel
theorem dL_act_0 : decode cL_act 0 = .ok (.aload_n 1, 1) := by decide +kernel
theorem dL_act_1 : decode cL_act 1 = .ok (.iload_n 2, 1) := by decide +kernel
theorem dL_act_2 : decode cL_act 2 = .ok (.iconst 1, 1) := by decide +kernel
theorem dL_act_3 : decode cL_act 3 = .ok (.iadd, 1) := by decide +kernel
theorem dL_act_4 : decode cL_act 4 = .ok (.invokestatic 58, 3) := by decide +kernel
theorem dL_act_7 : decode cL_act 7 = .ok (.istore_n 3, 1) := by decide +kernel
theorem dL_act_8 : decode cL_act 8 = .ok (.aload_n 1, 1) := by decide +kernel
theorem dL_act_9 : decode cL_act 9 = .ok (.iload_n 2, 1) := by decide +kernel
theorem dL_act_10 : decode cL_act 10 = .ok (.iconst 2, 1) := by decide +kernel
theorem dL_act_11 : decode cL_act 11 = .ok (.iadd, 1) := by decide +kernel
theorem dL_act_12 : decode cL_act 12 = .ok (.invokestatic 58, 3) := by decide +kernel
theorem dL_act_15 : decode cL_act 15 = .ok (.istore 4, 2) := by decide +kernel
theorem dL_act_17 : decode cL_act 17 = .ok (.iload_n 3, 1) := by decide +kernel
theorem dL_act_18 : decode cL_act 18 = .ok (.aload_n 0, 1) := by decide +kernel
theorem dL_act_19 : decode cL_act 19 = .ok (.iconst 2, 1) := by decide +kernel
theorem dL_act_20 : decode cL_act 20 = .ok (.invokevirtual 25, 3) := by decide +kernel
theorem dL_act_23 : decode cL_act 23 = .ok (.invokestatic 64, 3) := by decide +kernel
theorem dL_act_26 : decode cL_act 26 = .ok (.istore 5, 2) := by decide +kernel
theorem dL_act_28 : decode cL_act 28 = .ok (.aload_n 1, 1) := by decide +kernel
theorem dL_act_29 : decode cL_act 29 = .ok (.iload_n 2, 1) := by decide +kernel
theorem dL_act_30 : decode cL_act 30 = .ok (.invokestatic 58, 3) := by decide +kernel
theorem dL_act_33 : decode cL_act 33 = .ok (.bipush 18, 2) := by decide +kernel
theorem dL_act_35 : decode cL_act 35 = .ok (.invokestatic 64, 3) := by decide +kernel
theorem dL_act_38 : decode cL_act 38 = .ok (.tableswitch 281 0 15 #[78, 105, 105, 105, 110, 110, 110, 110, 110, 166, 166, 199, 206, 224, 242, 260], 78) := by decide +kernel
theorem dL_act_116 : decode cL_act 116 = .ok (.iload 4, 2) := by decide +kernel
theorem dL_act_118 : decode cL_act 118 = .ok (.iconst 2, 1) := by decide +kernel
theorem dL_act_119 : decode cL_act 119 = .ok (.invokestatic 64, 3) := by decide +kernel
theorem dL_act_122 : decode cL_act 122 = .ok (.ifCond .ne 19, 3) := by decide +kernel
theorem dL_act_125 : decode cL_act 125 = .ok (.aload_n 0, 1) := by decide +kernel
theorem dL_act_126 : decode cL_act 126 = .ok (.iconst 3, 1) := by decide +kernel
theorem dL_act_127 : decode cL_act 127 = .ok (.iload 4, 2) := by decide +kernel
theorem dL_act_129 : decode cL_act 129 = .ok (.bipush 6, 2) := by decide +kernel
theorem dL_act_131 : decode cL_act 131 = .ok (.invokestatic 64, 3) := by decide +kernel
theorem dL_act_134 : decode cL_act 134 = .ok (.iadd, 1) := by decide +kernel
theorem dL_act_135 : decode cL_act 135 = .ok (.invokevirtual 67, 3) := by decide +kernel
theorem dL_act_138 : decode cL_act 138 = .ok (.goto 4, 3) := by decide +kernel
theorem dL_act_141 : decode cL_act 141 = .ok (.iconst 0, 1) := by decide +kernel
theorem dL_act_142 : decode cL_act 142 = .ok (.ireturn, 1) := by decide +kernel
theorem dL_act_143 : decode cL_act 143 = .ok (.aload_n 0, 1) := by decide +kernel
theorem dL_act_144 : decode cL_act 144 = .ok (.invokevirtual 70, 3) := by decide +kernel
theorem dL_act_147 : decode cL_act 147 = .ok (.ireturn, 1) := by decide +kernel
theorem dL_act_148 : decode cL_act 148 = .ok (.aload_n 0, 1) := by decide +kernel
theorem dL_act_149 : decode cL_act 149 = .ok (.iload 5, 2) := by decide +kernel
theorem dL_act_151 : decode cL_act 151 = .ok (.iload 4, 2) := by decide +kernel
theorem dL_act_153 : decode cL_act 153 = .ok (.bipush 100, 2) := by decide +kernel
theorem dL_act_155 : decode cL_act 155 = .ok (.invokestatic 64, 3) := by decide +kernel
theorem dL_act_158 : decode cL_act 158 = .ok (.iload_n 3, 1) := by decide +kernel
theorem dL_act_159 : decode cL_act 159 = .ok (.iload 4, 2) := by decide +kernel
theorem dL_act_161 : decode cL_act 161 = .ok (.iadd, 1) := by decide +kernel
theorem dL_act_162 : decode cL_act 162 = .ok (.iconst 3, 1) := by decide +kernel
theorem dL_act_163 : decode cL_act 163 = .ok (.invokestatic 64, 3) := by decide +kernel
theorem dL_act_166 : decode cL_act 166 = .ok (.ifCond .ne 13, 3) := by decide +kernel
theorem dL_act_169 : decode cL_act 169 = .ok (.iload 4, 2) := by decide +kernel
theorem dL_act_171 : decode cL_act 171 = .ok (.bipush 100, 2) := by decide +kernel
theorem dL_act_173 : decode cL_act 173 = .ok (.invokestatic 64, 3) := by decide +kernel
theorem dL_act_176 : decode cL_act 176 = .ok (.goto 12, 3) := by decide +kernel
theorem dL_act_179 : decode cL_act 179 = .ok (.iload_n 3, 1) := by decide +kernel
theorem dL_act_180 : decode cL_act 180 = .ok (.iload 4, 2) := by decide +kernel
theorem dL_act_182 : decode cL_act 182 = .ok (.iadd, 1) := by decide +kernel
theorem dL_act_183 : decode cL_act 183 = .ok (.bipush 100, 2) := by decide +kernel
theorem dL_act_185 : decode cL_act 185 = .ok (.invokestatic 64, 3) := by decide +kernel
theorem dL_act_188 : decode cL_act 188 = .ok (.invokestatic 73, 3) := by decide +kernel
theorem dL_act_191 : decode cL_act 191 = .ok (.sipush (-333), 3) := by decide +kernel
theorem dL_act_194 : decode cL_act 194 = .ok (.if_icmp .ne 8, 3) := by decide +kernel
theorem dL_act_197 : decode cL_act 197 = .ok (.bipush (-3), 2) := by decide +kernel
theorem dL_act_199 : decode cL_act 199 = .ok (.goto 4, 3) := by decide +kernel
theorem dL_act_202 : decode cL_act 202 = .ok (.iconst 0, 1) := by decide +kernel
theorem dL_act_203 : decode cL_act 203 = .ok (.ireturn, 1) := by decide +kernel
theorem dL_act_204 : decode cL_act 204 = .ok (.aload_n 0, 1) := by decide +kernel
theorem dL_act_205 : decode cL_act 205 = .ok (.iload 5, 2) := by decide +kernel
theorem dL_act_207 : decode cL_act 207 = .ok (.iload 4, 2) := by decide +kernel
theorem dL_act_209 : decode cL_act 209 = .ok (.iconst 2, 1) := by decide +kernel
theorem dL_act_210 : decode cL_act 210 = .ok (.invokestatic 64, 3) := by decide +kernel
theorem dL_act_213 : decode cL_act 213 = .ok (.ifCond .ne 7, 3) := by decide +kernel
theorem dL_act_216 : decode cL_act 216 = .ok (.iconst 1, 1) := by decide +kernel
theorem dL_act_217 : decode cL_act 217 = .ok (.goto 4, 3) := by decide +kernel
theorem dL_act_220 : decode cL_act 220 = .ok (.iconst 0, 1) := by decide +kernel
theorem dL_act_221 : decode cL_act 221 = .ok (.invokestatic 76, 3) := by decide +kernel
theorem dL_act_224 : decode cL_act 224 = .ok (.sipush (-333), 3) := by decide +kernel
theorem dL_act_227 : decode cL_act 227 = .ok (.if_icmp .ne 8, 3) := by decide +kernel
theorem dL_act_230 : decode cL_act 230 = .ok (.bipush (-3), 2) := by decide +kernel
theorem dL_act_232 : decode cL_act 232 = .ok (.goto 4, 3) := by decide +kernel
theorem dL_act_235 : decode cL_act 235 = .ok (.iconst 0, 1) := by decide +kernel
theorem dL_act_236 : decode cL_act 236 = .ok (.ireturn, 1) := by decide +kernel
theorem dL_act_237 : decode cL_act 237 = .ok (.aload_n 0, 1) := by decide +kernel
theorem dL_act_238 : decode cL_act 238 = .ok (.iload 5, 2) := by decide +kernel
theorem dL_act_240 : decode cL_act 240 = .ok (.invokevirtual 79, 3) := by decide +kernel
theorem dL_act_243 : decode cL_act 243 = .ok (.ireturn, 1) := by decide +kernel
theorem dL_act_244 : decode cL_act 244 = .ok (.aload_n 0, 1) := by decide +kernel
theorem dL_act_245 : decode cL_act 245 = .ok (.iload_n 3, 1) := by decide +kernel
theorem dL_act_246 : decode cL_act 246 = .ok (.bipush 6, 2) := by decide +kernel
theorem dL_act_248 : decode cL_act 248 = .ok (.invokestatic 64, 3) := by decide +kernel
theorem dL_act_251 : decode cL_act 251 = .ok (.iload 4, 2) := by decide +kernel
theorem dL_act_253 : decode cL_act 253 = .ok (.bipush 127, 2) := by decide +kernel
theorem dL_act_255 : decode cL_act 255 = .ok (.iand, 1) := by decide +kernel
theorem dL_act_256 : decode cL_act 256 = .ok (.iload_n 3, 1) := by decide +kernel
theorem dL_act_257 : decode cL_act 257 = .ok (.iand, 1) := by decide +kernel
theorem dL_act_258 : decode cL_act 258 = .ok (.invokevirtual 82, 3) := by decide +kernel
theorem dL_act_261 : decode cL_act 261 = .ok (.ireturn, 1) := by decide +kernel
theorem dL_act_262 : decode cL_act 262 = .ok (.aload_n 0, 1) := by decide +kernel
theorem dL_act_263 : decode cL_act 263 = .ok (.iload_n 3, 1) := by decide +kernel
theorem dL_act_264 : decode cL_act 264 = .ok (.bipush 6, 2) := by decide +kernel
theorem dL_act_266 : decode cL_act 266 = .ok (.invokestatic 64, 3) := by decide +kernel
theorem dL_act_269 : decode cL_act 269 = .ok (.iload 4, 2) := by decide +kernel
theorem dL_act_271 : decode cL_act 271 = .ok (.bipush 127, 2) := by decide +kernel
theorem dL_act_273 : decode cL_act 273 = .ok (.iand, 1) := by decide +kernel
theorem dL_act_274 : decode cL_act 274 = .ok (.iload_n 3, 1) := by decide +kernel
theorem dL_act_275 : decode cL_act 275 = .ok (.iand, 1) := by decide +kernel
theorem dL_act_276 : decode cL_act 276 = .ok (.invokevirtual 85, 3) := by decide +kernel
theorem dL_act_279 : decode cL_act 279 = .ok (.ireturn, 1) := by decide +kernel
theorem dL_act_280 : decode cL_act 280 = .ok (.aload_n 0, 1) := by decide +kernel
theorem dL_act_281 : decode cL_act 281 = .ok (.iload_n 3, 1) := by decide +kernel
theorem dL_act_282 : decode cL_act 282 = .ok (.iconst 2, 1) := by decide +kernel
theorem dL_act_283 : decode cL_act 283 = .ok (.invokestatic 64, 3) := by decide +kernel
theorem dL_act_286 : decode cL_act 286 = .ok (.iconst 1, 1) := by decide +kernel
theorem dL_act_287 : decode cL_act 287 = .ok (.iload 4, 2) := by decide +kernel
theorem dL_act_289 : decode cL_act 289 = .ok (.iconst 3, 1) := by decide +kernel
theorem dL_act_290 : decode cL_act 290 = .ok (.invokestatic 64, 3) := by decide +kernel
theorem dL_act_293 : decode cL_act 293 = .ok (.iadd, 1) := by decide +kernel
theorem dL_act_294 : decode cL_act 294 = .ok (.invokevirtual 88, 3) := by decide +kernel
theorem dL_act_297 : decode cL_act 297 = .ok (.ireturn, 1) := by decide +kernel
theorem dL_act_298 : decode cL_act 298 = .ok (.aload_n 0, 1) := by decide +kernel
theorem dL_act_299 : decode cL_act 299 = .ok (.iconst 2, 1) := by decide +kernel
theorem dL_act_300 : decode cL_act 300 = .ok (.iload_n 3, 1) := by decide +kernel
theorem dL_act_301 : decode cL_act 301 = .ok (.iconst 2, 1) := by decide +kernel
theorem dL_act_302 : decode cL_act 302 = .ok (.invokestatic 64, 3) := by decide +kernel
theorem dL_act_305 : decode cL_act 305 = .ok (.iadd, 1) := by decide +kernel
theorem dL_act_306 : decode cL_act 306 = .ok (.iconst 1, 1) := by decide +kernel
theorem dL_act_307 : decode cL_act 307 = .ok (.iload 4, 2) := by decide +kernel
theorem dL_act_309 : decode cL_act 309 = .ok (.bipush 20, 2) := by decide +kernel
theorem dL_act_311 : decode cL_act 311 = .ok (.invokestatic 64, 3) := by decide +kernel
theorem dL_act_314 : decode cL_act 314 = .ok (.iadd, 1) := by decide +kernel
theorem dL_act_315 : decode cL_act 315 = .ok (.invokevirtual 88, 3) := by decide +kernel
theorem dL_act_318 : decode cL_act 318 = .ok (.ireturn, 1) := by decide +kernel
theorem dL_act_319 : decode cL_act 319 = .ok (.aload_n 0, 1) := by decide +kernel
theorem dL_act_320 : decode cL_act 320 = .ok (.invokestatic 91, 3) := by decide +kernel
theorem dL_act_323 : decode cL_act 323 = .ok (.ireturn, 1) := by decide +kernel
theorem dL_law_0 : decode cL_law 0 = .ok (.new 10, 3) := by decide +kernel
theorem dL_law_3 : decode cL_law 3 = .ok (.dup, 1) := by decide +kernel
theorem dL_law_4 : decode cL_law 4 = .ok (.invokespecial 94, 3) := by decide +kernel
theorem dL_law_7 : decode cL_law 7 = .ok (.astore_n 1, 1) := by decide +kernel
theorem dL_law_8 : decode cL_law 8 = .ok (.iconst 1, 1) := by decide +kernel
theorem dL_law_9 : decode cL_law 9 = .ok (.istore_n 2, 1) := by decide +kernel
theorem dL_law_10 : decode cL_law 10 = .ok (.aload_n 0, 1) := by decide +kernel
theorem dL_law_11 : decode cL_law 11 = .ok (.arraylength, 1) := by decide +kernel
theorem dL_law_12 : decode cL_law 12 = .ok (.iconst 3, 1) := by decide +kernel
theorem dL_law_13 : decode cL_law 13 = .ok (.idiv, 1) := by decide +kernel
theorem dL_law_14 : decode cL_law 14 = .ok (.bipush 40, 2) := by decide +kernel
theorem dL_law_16 : decode cL_law 16 = .ok (.if_icmp .le 8, 3) := by decide +kernel
theorem dL_law_19 : decode cL_law 19 = .ok (.bipush 40, 2) := by decide +kernel
theorem dL_law_21 : decode cL_law 21 = .ok (.goto 7, 3) := by decide +kernel
theorem dL_law_24 : decode cL_law 24 = .ok (.aload_n 0, 1) := by decide +kernel
theorem dL_law_25 : decode cL_law 25 = .ok (.arraylength, 1) := by decide +kernel
theorem dL_law_26 : decode cL_law 26 = .ok (.iconst 3, 1) := by decide +kernel
theorem dL_law_27 : decode cL_law 27 = .ok (.idiv, 1) := by decide +kernel
theorem dL_law_28 : decode cL_law 28 = .ok (.istore_n 3, 1) := by decide +kernel
theorem dL_law_29 : decode cL_law 29 = .ok (.iconst 0, 1) := by decide +kernel
theorem dL_law_30 : decode cL_law 30 = .ok (.istore 4, 2) := by decide +kernel
theorem dL_law_32 : decode cL_law 32 = .ok (.iload 4, 2) := by decide +kernel
theorem dL_law_34 : decode cL_law 34 = .ok (.iload_n 3, 1) := by decide +kernel
theorem dL_law_35 : decode cL_law 35 = .ok (.if_icmp .ge 277, 3) := by decide +kernel
theorem dL_law_38 : decode cL_law 38 = .ok (.iload_n 2, 1) := by decide +kernel
theorem dL_law_39 : decode cL_law 39 = .ok (.ifCond .eq 273, 3) := by decide +kernel
theorem dL_law_42 : decode cL_law 42 = .ok (.aload_n 1, 1) := by decide +kernel
theorem dL_law_43 : decode cL_law 43 = .ok (.bipush 9, 2) := by decide +kernel
theorem dL_law_45 : decode cL_law 45 = .ok (.invokevirtual 25, 3) := by decide +kernel
theorem dL_law_48 : decode cL_law 48 = .ok (.istore 5, 2) := by decide +kernel
theorem dL_law_50 : decode cL_law 50 = .ok (.aload_n 1, 1) := by decide +kernel
theorem dL_law_51 : decode cL_law 51 = .ok (.iconst 4, 1) := by decide +kernel
theorem dL_law_52 : decode cL_law 52 = .ok (.invokevirtual 25, 3) := by decide +kernel
theorem dL_law_55 : decode cL_law 55 = .ok (.istore 6, 2) := by decide +kernel
theorem dL_law_57 : decode cL_law 57 = .ok (.aload_n 1, 1) := by decide +kernel
theorem dL_law_58 : decode cL_law 58 = .ok (.bipush 6, 2) := by decide +kernel
theorem dL_law_60 : decode cL_law 60 = .ok (.invokevirtual 25, 3) := by decide +kernel
theorem dL_law_63 : decode cL_law 63 = .ok (.istore 7, 2) := by decide +kernel
theorem dL_law_65 : decode cL_law 65 = .ok (.aload_n 1, 1) := by decide +kernel
theorem dL_law_66 : decode cL_law 66 = .ok (.iconst 3, 1) := by decide +kernel
theorem dL_law_67 : decode cL_law 67 = .ok (.invokevirtual 25, 3) := by decide +kernel
theorem dL_law_70 : decode cL_law 70 = .ok (.istore 8, 2) := by decide +kernel
theorem dL_law_72 : decode cL_law 72 = .ok (.aload_n 0, 1) := by decide +kernel
theorem dL_law_73 : decode cL_law 73 = .ok (.iconst 3, 1) := by decide +kernel
theorem dL_law_74 : decode cL_law 74 = .ok (.iload 4, 2) := by decide +kernel
theorem dL_law_76 : decode cL_law 76 = .ok (.imul, 1) := by decide +kernel
theorem dL_law_77 : decode cL_law 77 = .ok (.invokestatic 58, 3) := by decide +kernel
theorem dL_law_80 : decode cL_law 80 = .ok (.bipush 18, 2) := by decide +kernel
theorem dL_law_82 : decode cL_law 82 = .ok (.invokestatic 64, 3) := by decide +kernel
theorem dL_law_85 : decode cL_law 85 = .ok (.istore 9, 2) := by decide +kernel
theorem dL_law_87 : decode cL_law 87 = .ok (.aload_n 0, 1) := by decide +kernel
theorem dL_law_88 : decode cL_law 88 = .ok (.iconst 3, 1) := by decide +kernel
theorem dL_law_89 : decode cL_law 89 = .ok (.iload 4, 2) := by decide +kernel
theorem dL_law_91 : decode cL_law 91 = .ok (.imul, 1) := by decide +kernel
theorem dL_law_92 : decode cL_law 92 = .ok (.iconst 1, 1) := by decide +kernel
theorem dL_law_93 : decode cL_law 93 = .ok (.iadd, 1) := by decide +kernel
theorem dL_law_94 : decode cL_law 94 = .ok (.invokestatic 58, 3) := by decide +kernel
theorem dL_law_97 : decode cL_law 97 = .ok (.aload_n 1, 1) := by decide +kernel
theorem dL_law_98 : decode cL_law 98 = .ok (.iconst 2, 1) := by decide +kernel
theorem dL_law_99 : decode cL_law 99 = .ok (.invokevirtual 25, 3) := by decide +kernel
theorem dL_law_102 : decode cL_law 102 = .ok (.invokestatic 64, 3) := by decide +kernel
theorem dL_law_105 : decode cL_law 105 = .ok (.istore 10, 2) := by decide +kernel
theorem dL_law_107 : decode cL_law 107 = .ok (.aload_n 1, 1) := by decide +kernel
theorem dL_law_108 : decode cL_law 108 = .ok (.iload 10, 2) := by decide +kernel
theorem dL_law_110 : decode cL_law 110 = .ok (.iconst 3, 1) := by decide +kernel
theorem dL_law_111 : decode cL_law 111 = .ok (.invokevirtual 29, 3) := by decide +kernel
theorem dL_law_114 : decode cL_law 114 = .ok (.ifCond .lt 7, 3) := by decide +kernel
theorem dL_law_117 : decode cL_law 117 = .ok (.iconst 1, 1) := by decide +kernel
theorem dL_law_118 : decode cL_law 118 = .ok (.goto 4, 3) := by decide +kernel
theorem dL_law_121 : decode cL_law 121 = .ok (.iconst 0, 1) := by decide +kernel
theorem dL_law_122 : decode cL_law 122 = .ok (.istore 11, 2) := by decide +kernel
theorem dL_law_124 : decode cL_law 124 = .ok (.aload_n 1, 1) := by decide +kernel
theorem dL_law_125 : decode cL_law 125 = .ok (.aload_n 0, 1) := by decide +kernel
theorem dL_law_126 : decode cL_law 126 = .ok (.iconst 3, 1) := by decide +kernel
theorem dL_law_127 : decode cL_law 127 = .ok (.iload 4, 2) := by decide +kernel
theorem dL_law_129 : decode cL_law 129 = .ok (.imul, 1) := by decide +kernel
theorem dL_law_130 : decode cL_law 130 = .ok (.invokestatic 95, 3) := by decide +kernel
theorem dL_law_133 : decode cL_law 133 = .ok (.istore 12, 2) := by decide +kernel
theorem dL_law_135 : decode cL_law 135 = .ok (.iload 12, 2) := by decide +kernel
theorem dL_law_137 : decode cL_law 137 = .ok (.ifCond .ge 45, 3) := by decide +kernel
theorem dL_law_140 : decode cL_law 140 = .ok (.aload_n 1, 1) := by decide +kernel
theorem dL_law_141 : decode cL_law 141 = .ok (.bipush 9, 2) := by decide +kernel
theorem dL_law_143 : decode cL_law 143 = .ok (.invokevirtual 25, 3) := by decide +kernel
theorem dL_law_146 : decode cL_law 146 = .ok (.iload 5, 2) := by decide +kernel
theorem dL_law_148 : decode cL_law 148 = .ok (.if_icmp .ne 38, 3) := by decide +kernel
theorem dL_law_151 : decode cL_law 151 = .ok (.aload_n 1, 1) := by decide +kernel
theorem dL_law_152 : decode cL_law 152 = .ok (.iconst 4, 1) := by decide +kernel
theorem dL_law_153 : decode cL_law 153 = .ok (.invokevirtual 25, 3) := by decide +kernel
theorem dL_law_156 : decode cL_law 156 = .ok (.iload 6, 2) := by decide +kernel
theorem dL_law_158 : decode cL_law 158 = .ok (.if_icmp .ne 28, 3) := by decide +kernel
theorem dL_law_161 : decode cL_law 161 = .ok (.aload_n 1, 1) := by decide +kernel
theorem dL_law_162 : decode cL_law 162 = .ok (.bipush 6, 2) := by decide +kernel
theorem dL_law_164 : decode cL_law 164 = .ok (.invokevirtual 25, 3) := by decide +kernel
theorem dL_law_167 : decode cL_law 167 = .ok (.iload 7, 2) := by decide +kernel
theorem dL_law_169 : decode cL_law 169 = .ok (.if_icmp .ne 17, 3) := by decide +kernel
theorem dL_law_172 : decode cL_law 172 = .ok (.aload_n 1, 1) := by decide +kernel
theorem dL_law_173 : decode cL_law 173 = .ok (.iconst 3, 1) := by decide +kernel
theorem dL_law_174 : decode cL_law 174 = .ok (.invokevirtual 25, 3) := by decide +kernel
theorem dL_law_177 : decode cL_law 177 = .ok (.iload 8, 2) := by decide +kernel
theorem dL_law_179 : decode cL_law 179 = .ok (.if_icmp .ne 7, 3) := by decide +kernel
theorem dL_law_182 : decode cL_law 182 = .ok (.iconst 1, 1) := by decide +kernel
theorem dL_law_183 : decode cL_law 183 = .ok (.goto 4, 3) := by decide +kernel
theorem dL_law_186 : decode cL_law 186 = .ok (.iconst 0, 1) := by decide +kernel
theorem dL_law_187 : decode cL_law 187 = .ok (.istore_n 2, 1) := by decide +kernel
theorem dL_law_188 : decode cL_law 188 = .ok (.iload_n 2, 1) := by decide +kernel
theorem dL_law_189 : decode cL_law 189 = .ok (.ifCond .eq 115, 3) := by decide +kernel
theorem dL_law_192 : decode cL_law 192 = .ok (.iload 9, 2) := by decide +kernel
theorem dL_law_194 : decode cL_law 194 = .ok (.iconst 1, 1) := by decide +kernel
theorem dL_law_195 : decode cL_law 195 = .ok (.if_icmp .lt 43, 3) := by decide +kernel
theorem dL_law_198 : decode cL_law 198 = .ok (.iload 9, 2) := by decide +kernel
theorem dL_law_200 : decode cL_law 200 = .ok (.iconst 3, 1) := by decide +kernel
theorem dL_law_201 : decode cL_law 201 = .ok (.if_icmp .gt 37, 3) := by decide +kernel
theorem dL_law_204 : decode cL_law 204 = .ok (.iload 12, 2) := by decide +kernel
theorem dL_law_206 : decode cL_law 206 = .ok (.aload_n 1, 1) := by decide +kernel
theorem dL_law_207 : decode cL_law 207 = .ok (.iconst 3, 1) := by decide +kernel
theorem dL_law_208 : decode cL_law 208 = .ok (.invokevirtual 25, 3) := by decide +kernel
theorem dL_law_211 : decode cL_law 211 = .ok (.iload 6, 2) := by decide +kernel
theorem dL_law_213 : decode cL_law 213 = .ok (.isub, 1) := by decide +kernel
theorem dL_law_214 : decode cL_law 214 = .ok (.if_icmp .ne 90, 3) := by decide +kernel
theorem dL_law_217 : decode cL_law 217 = .ok (.aload_n 1, 1) := by decide +kernel
theorem dL_law_218 : decode cL_law 218 = .ok (.iconst 4, 1) := by decide +kernel
theorem dL_law_219 : decode cL_law 219 = .ok (.invokevirtual 25, 3) := by decide +kernel
theorem dL_law_222 : decode cL_law 222 = .ok (.iload 6, 2) := by decide +kernel
theorem dL_law_224 : decode cL_law 224 = .ok (.if_icmp .ne 80, 3) := by decide +kernel
theorem dL_law_227 : decode cL_law 227 = .ok (.aload_n 1, 1) := by decide +kernel
theorem dL_law_228 : decode cL_law 228 = .ok (.bipush 6, 2) := by decide +kernel
theorem dL_law_230 : decode cL_law 230 = .ok (.invokevirtual 25, 3) := by decide +kernel
theorem dL_law_233 : decode cL_law 233 = .ok (.iload 7, 2) := by decide +kernel
theorem dL_law_235 : decode cL_law 235 = .ok (.if_icmp .ne 69, 3) := by decide +kernel
theorem dL_law_238 : decode cL_law 238 = .ok (.iload 9, 2) := by decide +kernel
theorem dL_law_240 : decode cL_law 240 = .ok (.iconst 4, 1) := by decide +kernel
theorem dL_law_241 : decode cL_law 241 = .ok (.if_icmp .lt 25, 3) := by decide +kernel
theorem dL_law_244 : decode cL_law 244 = .ok (.iload 9, 2) := by decide +kernel
theorem dL_law_246 : decode cL_law 246 = .ok (.bipush 10, 2) := by decide +kernel
theorem dL_law_248 : decode cL_law 248 = .ok (.if_icmp .gt 18, 3) := by decide +kernel
theorem dL_law_251 : decode cL_law 251 = .ok (.iload 11, 2) := by decide +kernel
theorem dL_law_253 : decode cL_law 253 = .ok (.iload 12, 2) := by decide +kernel
theorem dL_law_255 : decode cL_law 255 = .ok (.ifCond .lt 7, 3) := by decide +kernel
theorem dL_law_258 : decode cL_law 258 = .ok (.iconst 1, 1) := by decide +kernel
theorem dL_law_259 : decode cL_law 259 = .ok (.goto 4, 3) := by decide +kernel
theorem dL_law_262 : decode cL_law 262 = .ok (.iconst 0, 1) := by decide +kernel
theorem dL_law_263 : decode cL_law 263 = .ok (.if_icmp .ne 41, 3) := by decide +kernel
theorem dL_law_266 : decode cL_law 266 = .ok (.iload 9, 2) := by decide +kernel
theorem dL_law_268 : decode cL_law 268 = .ok (.bipush 11, 2) := by decide +kernel
theorem dL_law_270 : decode cL_law 270 = .ok (.if_icmp .ne 16, 3) := by decide +kernel
theorem dL_law_273 : decode cL_law 273 = .ok (.aload_n 1, 1) := by decide +kernel
theorem dL_law_274 : decode cL_law 274 = .ok (.iconst 4, 1) := by decide +kernel
theorem dL_law_275 : decode cL_law 275 = .ok (.invokevirtual 25, 3) := by decide +kernel
theorem dL_law_278 : decode cL_law 278 = .ok (.iload 6, 2) := by decide +kernel
theorem dL_law_280 : decode cL_law 280 = .ok (.iload 12, 2) := by decide +kernel
theorem dL_law_282 : decode cL_law 282 = .ok (.isub, 1) := by decide +kernel
theorem dL_law_283 : decode cL_law 283 = .ok (.if_icmp .ne 21, 3) := by decide +kernel
theorem dL_law_286 : decode cL_law 286 = .ok (.aload_n 1, 1) := by decide +kernel
theorem dL_law_287 : decode cL_law 287 = .ok (.invokestatic 99, 3) := by decide +kernel
theorem dL_law_290 : decode cL_law 290 = .ok (.ifCond .eq 14, 3) := by decide +kernel
theorem dL_law_293 : decode cL_law 293 = .ok (.aload_n 1, 1) := by decide +kernel
theorem dL_law_294 : decode cL_law 294 = .ok (.invokestatic 103, 3) := by decide +kernel
theorem dL_law_297 : decode cL_law 297 = .ok (.ifCond .eq 7, 3) := by decide +kernel
theorem dL_law_300 : decode cL_law 300 = .ok (.iconst 1, 1) := by decide +kernel
theorem dL_law_301 : decode cL_law 301 = .ok (.goto 4, 3) := by decide +kernel
theorem dL_law_304 : decode cL_law 304 = .ok (.iconst 0, 1) := by decide +kernel
theorem dL_law_305 : decode cL_law 305 = .ok (.istore_n 2, 1) := by decide +kernel
theorem dL_law_306 : decode cL_law 306 = .ok (.iinc 4 1, 3) := by decide +kernel
theorem dL_law_309 : decode cL_law 309 = .ok (.goto (-277), 3) := by decide +kernel
theorem dL_law_312 : decode cL_law 312 = .ok (.aload_n 0, 1) := by decide +kernel
theorem dL_law_313 : decode cL_law 313 = .ok (.iconst 1, 1) := by decide +kernel
theorem dL_law_314 : decode cL_law 314 = .ok (.invokestatic 58, 3) := by decide +kernel
theorem dL_law_317 : decode cL_law 317 = .ok (.bipush 12, 2) := by decide +kernel
theorem dL_law_319 : decode cL_law 319 = .ok (.invokestatic 64, 3) := by decide +kernel
theorem dL_law_322 : decode cL_law 322 = .ok (.istore 4, 2) := by decide +kernel
theorem dL_law_324 : decode cL_law 324 = .ok (.iload_n 2, 1) := by decide +kernel
theorem dL_law_325 : decode cL_law 325 = .ok (.ifCond .eq 36, 3) := by decide +kernel
theorem dL_law_328 : decode cL_law 328 = .ok (.aload_n 1, 1) := by decide +kernel
theorem dL_law_329 : decode cL_law 329 = .ok (.iload 4, 2) := by decide +kernel
theorem dL_law_331 : decode cL_law 331 = .ok (.invokevirtual 106, 3) := by decide +kernel
theorem dL_law_334 : decode cL_law 334 = .ok (.aload_n 1, 1) := by decide +kernel
theorem dL_law_335 : decode cL_law 335 = .ok (.iconst 2, 1) := by decide +kernel
theorem dL_law_336 : decode cL_law 336 = .ok (.invokevirtual 25, 3) := by decide +kernel
theorem dL_law_339 : decode cL_law 339 = .ok (.aload_n 1, 1) := by decide +kernel
theorem dL_law_340 : decode cL_law 340 = .ok (.iconst 4, 1) := by decide +kernel
theorem dL_law_341 : decode cL_law 341 = .ok (.invokevirtual 25, 3) := by decide +kernel
theorem dL_law_344 : decode cL_law 344 = .ok (.isub, 1) := by decide +kernel
theorem dL_law_345 : decode cL_law 345 = .ok (.if_icmp .gt 16, 3) := by decide +kernel
theorem dL_law_348 : decode cL_law 348 = .ok (.aload_n 1, 1) := by decide +kernel
theorem dL_law_349 : decode cL_law 349 = .ok (.iload 4, 2) := by decide +kernel
theorem dL_law_351 : decode cL_law 351 = .ok (.invokevirtual 106, 3) := by decide +kernel
theorem dL_law_354 : decode cL_law 354 = .ok (.ifCond .lt 7, 3) := by decide +kernel
theorem dL_law_357 : decode cL_law 357 = .ok (.iconst 1, 1) := by decide +kernel
theorem dL_law_358 : decode cL_law 358 = .ok (.goto 4, 3) := by decide +kernel
theorem dL_law_361 : decode cL_law 361 = .ok (.iconst 0, 1) := by decide +kernel
theorem dL_law_362 : decode cL_law 362 = .ok (.ireturn, 1) := by decide +kernel
