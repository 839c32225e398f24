theorem dX5_size_92 : decode cX5_size 92 = .ok (.invokestatic 51, 3) := by decide +kernel
theorem dX5_size_95 : decode cX5_size 95 = .ok (.putfield 58, 3) := by decide +kernel
theorem dX5_size_98 : decode cX5_size 98 = .ok (.aload_n 0, 1) := by decide +kernel
theorem dX5_size_99 : decode cX5_size 99 = .ok (.iload_n 2, 1) := by decide +kernel
theorem dX5_size_100 : decode cX5_size 100 = .ok (.iconst 3, 1) := by decide +kernel
theorem dX5_size_101 : decode cX5_size 101 = .ok (.bipush 40, 2) := by decide +kernel
theorem dX5_size_103 : decode cX5_size 103 = .ok (.invokestatic 51, 3) := by decide +kernel
theorem dX5_size_106 : decode cX5_size 106 = .ok (.putfield 61, 3) := by decide +kernel
theorem dX5_size_109 : decode cX5_size 109 = .ok (.aload_n 0, 1) := by decide +kernel
theorem dX5_size_110 : decode cX5_size 110 = .ok (.getfield 61, 3) := by decide +kernel
theorem dX5_size_113 : decode cX5_size 113 = .ok (.aload_n 0, 1) := by decide +kernel
theorem dX5_size_114 : decode cX5_size 114 = .ok (.invokevirtual 74, 3) := by decide +kernel
theorem dX5_size_117 : decode cX5_size 117 = .ok (.isub, 1) := by decide +kernel
theorem dX5_size_118 : decode cX5_size 118 = .ok (.iconst 1, 1) := by decide +kernel
theorem dX5_size_119 : decode cX5_size 119 = .ok (.isub, 1) := by decide +kernel
theorem dX5_size_120 : decode cX5_size 120 = .ok (.istore 7, 2) := by decide +kernel
theorem dX5_size_122 : decode cX5_size 122 = .ok (.aload_n 0, 1) := by decide +kernel
theorem dX5_size_123 : decode cX5_size 123 = .ok (.aload_n 0, 1) := by decide +kernel
theorem dX5_size_124 : decode cX5_size 124 = .ok (.getfield 77, 3) := by decide +kernel
theorem dX5_size_127 : decode cX5_size 127 = .ok (.iload 7, 2) := by decide +kernel
theorem dX5_size_129 : decode cX5_size 129 = .ok (.if_icmp .ge 10, 3) := by decide +kernel
theorem dX5_size_132 : decode cX5_size 132 = .ok (.aload_n 0, 1) := by decide +kernel
theorem dX5_size_133 : decode cX5_size 133 = .ok (.getfield 77, 3) := by decide +kernel
theorem dX5_size_136 : decode cX5_size 136 = .ok (.goto 5, 3) := by decide +kernel
theorem dX5_size_139 : decode cX5_size 139 = .ok (.iload 7, 2) := by decide +kernel
theorem dX5_size_141 : decode cX5_size 141 = .ok (.putfield 77, 3) := by decide +kernel
theorem dX5_size_144 : decode cX5_size 144 = .ok (.iload_n 3, 1) := by decide +kernel
theorem dX5_size_145 : decode cX5_size 145 = .ok (.aload_n 0, 1) := by decide +kernel
theorem dX5_size_146 : decode cX5_size 146 = .ok (.getfield 58, 3) := by decide +kernel
theorem dX5_size_149 : decode cX5_size 149 = .ok (.if_icmp .ge 7, 3) := by decide +kernel
theorem dX5_size_152 : decode cX5_size 152 = .ok (.iload_n 3, 1) := by decide +kernel
theorem dX5_size_153 : decode cX5_size 153 = .ok (.goto 7, 3) := by decide +kernel
theorem dX5_size_156 : decode cX5_size 156 = .ok (.aload_n 0, 1) := by decide +kernel
theorem dX5_size_157 : decode cX5_size 157 = .ok (.getfield 58, 3) := by decide +kernel
theorem dX5_size_160 : decode cX5_size 160 = .ok (.istore 8, 2) := by decide +kernel
theorem dX5_size_162 : decode cX5_size 162 = .ok (.iconst 0, 1) := by decide +kernel
theorem dX5_size_163 : decode cX5_size 163 = .ok (.istore 9, 2) := by decide +kernel
theorem dX5_size_165 : decode cX5_size 165 = .ok (.iload 9, 2) := by decide +kernel
theorem dX5_size_167 : decode cX5_size 167 = .ok (.aload_n 0, 1) := by decide +kernel
theorem dX5_size_168 : decode cX5_size 168 = .ok (.invokevirtual 74, 3) := by decide +kernel
theorem dX5_size_171 : decode cX5_size 171 = .ok (.aload_n 0, 1) := by decide +kernel
theorem dX5_size_172 : decode cX5_size 172 = .ok (.getfield 77, 3) := by decide +kernel
theorem dX5_size_175 : decode cX5_size 175 = .ok (.iadd, 1) := by decide +kernel
theorem dX5_size_176 : decode cX5_size 176 = .ok (.if_icmp .ge 19, 3) := by decide +kernel
theorem dX5_size_179 : decode cX5_size 179 = .ok (.aload_n 0, 1) := by decide +kernel
theorem dX5_size_180 : decode cX5_size 180 = .ok (.iload 9, 2) := by decide +kernel
theorem dX5_size_182 : decode cX5_size 182 = .ok (.iload 9, 2) := by decide +kernel
theorem dX5_size_184 : decode cX5_size 184 = .ok (.iload 8, 2) := by decide +kernel
theorem dX5_size_186 : decode cX5_size 186 = .ok (.invokevirtual 152, 3) := by decide +kernel
theorem dX5_size_189 : decode cX5_size 189 = .ok (.iinc 9 1, 3) := by decide +kernel
theorem dX5_size_192 : decode cX5_size 192 = .ok (.goto (-27), 3) := by decide +kernel
theorem dX5_size_195 : decode cX5_size 195 = .ok (.iload 4, 2) := by decide +kernel
theorem dX5_size_197 : decode cX5_size 197 = .ok (.aload_n 0, 1) := by decide +kernel
theorem dX5_size_198 : decode cX5_size 198 = .ok (.invokevirtual 68, 3) := by decide +kernel
theorem dX5_size_201 : decode cX5_size 201 = .ok (.if_icmp .ge 8, 3) := by decide +kernel
theorem dX5_size_204 : decode cX5_size 204 = .ok (.iload 4, 2) := by decide +kernel
theorem dX5_size_206 : decode cX5_size 206 = .ok (.goto 7, 3) := by decide +kernel
theorem dX5_size_209 : decode cX5_size 209 = .ok (.aload_n 0, 1) := by decide +kernel
theorem dX5_size_210 : decode cX5_size 210 = .ok (.invokevirtual 68, 3) := by decide +kernel
theorem dX5_size_213 : decode cX5_size 213 = .ok (.istore 9, 2) := by decide +kernel
theorem dX5_size_215 : decode cX5_size 215 = .ok (.iconst 0, 1) := by decide +kernel
theorem dX5_size_216 : decode cX5_size 216 = .ok (.istore 10, 2) := by decide +kernel
theorem dX5_size_218 : decode cX5_size 218 = .ok (.iload 10, 2) := by decide +kernel
theorem dX5_size_220 : decode cX5_size 220 = .ok (.iload 9, 2) := by decide +kernel
theorem dX5_size_222 : decode cX5_size 222 = .ok (.if_icmp .ge 33, 3) := by decide +kernel
theorem dX5_size_225 : decode cX5_size 225 = .ok (.aload_n 0, 1) := by decide +kernel
theorem dX5_size_226 : decode cX5_size 226 = .ok (.iload 5, 2) := by decide +kernel
theorem dX5_size_228 : decode cX5_size 228 = .ok (.iload 4, 2) := by decide +kernel
theorem dX5_size_230 : decode cX5_size 230 = .ok (.iadd, 1) := by decide +kernel
theorem dX5_size_231 : decode cX5_size 231 = .ok (.iload 9, 2) := by decide +kernel
theorem dX5_size_233 : decode cX5_size 233 = .ok (.isub, 1) := by decide +kernel
theorem dX5_size_234 : decode cX5_size 234 = .ok (.iload 10, 2) := by decide +kernel
theorem dX5_size_236 : decode cX5_size 236 = .ok (.iadd, 1) := by decide +kernel
theorem dX5_size_237 : decode cX5_size 237 = .ok (.aload_n 0, 1) := by decide +kernel
theorem dX5_size_238 : decode cX5_size 238 = .ok (.invokevirtual 86, 3) := by decide +kernel
theorem dX5_size_241 : decode cX5_size 241 = .ok (.iload 10, 2) := by decide +kernel
theorem dX5_size_243 : decode cX5_size 243 = .ok (.iadd, 1) := by decide +kernel
theorem dX5_size_244 : decode cX5_size 244 = .ok (.iload 8, 2) := by decide +kernel
theorem dX5_size_246 : decode cX5_size 246 = .ok (.invokevirtual 152, 3) := by decide +kernel
theorem dX5_size_249 : decode cX5_size 249 = .ok (.iinc 10 1, 3) := by decide +kernel
theorem dX5_size_252 : decode cX5_size 252 = .ok (.goto (-34), 3) := by decide +kernel
theorem dX5_size_255 : decode cX5_size 255 = .ok (.aload_n 0, 1) := by decide +kernel
theorem dX5_size_256 : decode cX5_size 256 = .ok (.dup, 1) := by decide +kernel
theorem dX5_size_257 : decode cX5_size 257 = .ok (.getfield 71, 3) := by decide +kernel
theorem dX5_size_260 : decode cX5_size 260 = .ok (.iload 4, 2) := by decide +kernel
theorem dX5_size_262 : decode cX5_size 262 = .ok (.iload 9, 2) := by decide +kernel
theorem dX5_size_264 : decode cX5_size 264 = .ok (.isub, 1) := by decide +kernel
theorem dX5_size_265 : decode cX5_size 265 = .ok (.isub, 1) := by decide +kernel
theorem dX5_size_266 : decode cX5_size 266 = .ok (.putfield 71, 3) := by decide +kernel
theorem dX5_size_269 : decode cX5_size 269 = .ok (.aload_n 0, 1) := by decide +kernel
theorem dX5_size_270 : decode cX5_size 270 = .ok (.aload_n 0, 1) := by decide +kernel
theorem dX5_size_271 : decode cX5_size 271 = .ok (.getfield 71, 3) := by decide +kernel
theorem dX5_size_274 : decode cX5_size 274 = .ok (.iconst 1, 1) := by decide +kernel
theorem dX5_size_275 : decode cX5_size 275 = .ok (.if_icmp .ge 7, 3) := by decide +kernel
theorem dX5_size_278 : decode cX5_size 278 = .ok (.iconst 1, 1) := by decide +kernel
theorem dX5_size_279 : decode cX5_size 279 = .ok (.goto 7, 3) := by decide +kernel
theorem dX5_size_282 : decode cX5_size 282 = .ok (.aload_n 0, 1) := by decide +kernel
theorem dX5_size_283 : decode cX5_size 283 = .ok (.getfield 71, 3) := by decide +kernel
theorem dX5_size_286 : decode cX5_size 286 = .ok (.putfield 71, 3) := by decide +kernel
theorem dX5_size_289 : decode cX5_size 289 = .ok (.aload_n 0, 1) := by decide +kernel
theorem dX5_size_290 : decode cX5_size 290 = .ok (.aload_n 0, 1) := by decide +kernel
theorem dX5_size_291 : decode cX5_size 291 = .ok (.getfield 16, 3) := by decide +kernel
theorem dX5_size_294 : decode cX5_size 294 = .ok (.aload_n 0, 1) := by decide +kernel
theorem dX5_size_295 : decode cX5_size 295 = .ok (.getfield 58, 3) := by decide +kernel
theorem dX5_size_298 : decode cX5_size 298 = .ok (.iconst 1, 1) := by decide +kernel
theorem dX5_size_299 : decode cX5_size 299 = .ok (.iadd, 1) := by decide +kernel
theorem dX5_size_300 : decode cX5_size 300 = .ok (.if_icmp .le 12, 3) := by decide +kernel
theorem dX5_size_303 : decode cX5_size 303 = .ok (.aload_n 0, 1) := by decide +kernel
theorem dX5_size_304 : decode cX5_size 304 = .ok (.getfield 58, 3) := by decide +kernel
theorem dX5_size_307 : decode cX5_size 307 = .ok (.iconst 1, 1) := by decide +kernel
theorem dX5_size_308 : decode cX5_size 308 = .ok (.iadd, 1) := by decide +kernel
theorem dX5_size_309 : decode cX5_size 309 = .ok (.goto 7, 3) := by decide +kernel
theorem dX5_size_312 : decode cX5_size 312 = .ok (.aload_n 0, 1) := by decide +kernel
theorem dX5_size_313 : decode cX5_size 313 = .ok (.getfield 16, 3) := by decide +kernel
theorem dX5_size_316 : decode cX5_size 316 = .ok (.putfield 16, 3) := by decide +kernel
theorem dX5_size_319 : decode cX5_size 319 = .ok (.aload_n 0, 1) := by decide +kernel
theorem dX5_size_320 : decode cX5_size 320 = .ok (.aload_n 0, 1) := by decide +kernel
theorem dX5_size_321 : decode cX5_size 321 = .ok (.getfield 23, 3) := by decide +kernel
theorem dX5_size_324 : decode cX5_size 324 = .ok (.aload_n 0, 1) := by decide +kernel
theorem dX5_size_325 : decode cX5_size 325 = .ok (.getfield 58, 3) := by decide +kernel
theorem dX5_size_328 : decode cX5_size 328 = .ok (.iconst 1, 1) := by decide +kernel
theorem dX5_size_329 : decode cX5_size 329 = .ok (.iadd, 1) := by decide +kernel
theorem dX5_size_330 : decode cX5_size 330 = .ok (.if_icmp .le 12, 3) := by decide +kernel
theorem dX5_size_333 : decode cX5_size 333 = .ok (.aload_n 0, 1) := by decide +kernel
theorem dX5_size_334 : decode cX5_size 334 = .ok (.getfield 58, 3) := by decide +kernel
theorem dX5_size_337 : decode cX5_size 337 = .ok (.iconst 1, 1) := by decide +kernel
theorem dX5_size_338 : decode cX5_size 338 = .ok (.iadd, 1) := by decide +kernel
theorem dX5_size_339 : decode cX5_size 339 = .ok (.goto 7, 3) := by decide +kernel
theorem dX5_size_342 : decode cX5_size 342 = .ok (.aload_n 0, 1) := by decide +kernel
theorem dX5_size_343 : decode cX5_size 343 = .ok (.getfield 23, 3) := by decide +kernel
theorem dX5_size_346 : decode cX5_size 346 = .ok (.putfield 23, 3) := by decide +kernel
theorem dX5_size_349 : decode cX5_size 349 = .ok (.aload_n 0, 1) := by decide +kernel
theorem dX5_size_350 : decode cX5_size 350 = .ok (.invokevirtual 126, 3) := by decide +kernel
theorem dX5_size_353 : decode cX5_size 353 = .ok (.aload_n 0, 1) := by decide +kernel
theorem dX5_size_354 : decode cX5_size 354 = .ok (.iconst 0, 1) := by decide +kernel
theorem dX5_size_355 : decode cX5_size 355 = .ok (.putfield 93, 3) := by decide +kernel
theorem dX5_size_358 : decode cX5_size 358 = .ok (.bipush 100, 2) := by decide +kernel
theorem dX5_size_360 : decode cX5_size 360 = .ok (.aload_n 0, 1) := by decide +kernel
theorem dX5_size_361 : decode cX5_size 361 = .ok (.getfield 61, 3) := by decide +kernel
theorem dX5_size_364 : decode cX5_size 364 = .ok (.imul, 1) := by decide +kernel
theorem dX5_size_365 : decode cX5_size 365 = .ok (.aload_n 0, 1) := by decide +kernel
theorem dX5_size_366 : decode cX5_size 366 = .ok (.getfield 58, 3) := by decide +kernel
theorem dX5_size_369 : decode cX5_size 369 = .ok (.iadd, 1) := by decide +kernel
theorem dX5_size_370 : decode cX5_size 370 = .ok (.ireturn, 1) := by decide +kernel
theorem dX5_bring_0 : decode cX5_bring 0 = .ok (.iconst 0, 1) := by decide +kernel
theorem dX5_bring_1 : decode cX5_bring 1 = .ok (.istore 4, 2) := by decide +kernel
theorem dX5_bring_3 : decode cX5_bring 3 = .ok (.iload 4, 2) := by decide +kernel
theorem dX5_bring_5 : decode cX5_bring 5 = .ok (.iload_n 3, 1) := by decide +kernel
theorem dX5_bring_6 : decode cX5_bring 6 = .ok (.if_icmp .ge 33, 3) := by decide +kernel
theorem dX5_bring_9 : decode cX5_bring 9 = .ok (.aload_n 0, 1) := by decide +kernel
theorem dX5_bring_10 : decode cX5_bring 10 = .ok (.getfield 7, 3) := by decide +kernel
theorem dX5_bring_13 : decode cX5_bring 13 = .ok (.bipush 80, 2) := by decide +kernel
theorem dX5_bring_15 : decode cX5_bring 15 = .ok (.iload_n 2, 1) := by decide +kernel
theorem dX5_bring_16 : decode cX5_bring 16 = .ok (.imul, 1) := by decide +kernel
theorem dX5_bring_17 : decode cX5_bring 17 = .ok (.iload 4, 2) := by decide +kernel
theorem dX5_bring_19 : decode cX5_bring 19 = .ok (.iadd, 1) := by decide +kernel
theorem dX5_bring_20 : decode cX5_bring 20 = .ok (.aload_n 0, 1) := by decide +kernel
theorem dX5_bring_21 : decode cX5_bring 21 = .ok (.getfield 13, 3) := by decide +kernel
theorem dX5_bring_24 : decode cX5_bring 24 = .ok (.bipush 80, 2) := by decide +kernel
theorem dX5_bring_26 : decode cX5_bring 26 = .ok (.iload_n 1, 1) := by decide +kernel
theorem dX5_bring_27 : decode cX5_bring 27 = .ok (.imul, 1) := by decide +kernel
theorem dX5_bring_28 : decode cX5_bring 28 = .ok (.iload 4, 2) := by decide +kernel
theorem dX5_bring_30 : decode cX5_bring 30 = .ok (.iadd, 1) := by decide +kernel
theorem dX5_bring_31 : decode cX5_bring 31 = .ok (.iaload, 1) := by decide +kernel
theorem dX5_bring_32 : decode cX5_bring 32 = .ok (.iastore, 1) := by decide +kernel
theorem dX5_bring_33 : decode cX5_bring 33 = .ok (.iinc 4 1, 3) := by decide +kernel
theorem dX5_bring_36 : decode cX5_bring 36 = .ok (.goto (-33), 3) := by decide +kernel
theorem dX5_bring_39 : decode cX5_bring 39 = .ok (.return_, 1) := by decide +kernel
set_option maxRecDepth 20000 in
theorem ggX5_cell_X5_out : GoodIn wsX5_cell wsX5_out := goodIn_r _ [7] (by decide +kernel) (by decide +kernel)
set_option maxRecDepth 20000 in
theorem gX5_cell_X5_out : GoodIn wsX5_cell (va_wsS RX5 122 yX5_out wsX5_out) := goodIn_app (goodIn_of _ (by decide +kernel)) ggX5_cell_X5_out
theorem dX5_cell_0 : decode cX5_cell 0 = .ok (.iload_n 1, 1) := by decide +kernel
theorem dX5_cell_1 : decode cX5_cell 1 = .ok (.iconst 1, 1) := by decide +kernel
theorem dX5_cell_2 : decode cX5_cell 2 = .ok (.aload_n 0, 1) := by decide +kernel
theorem dX5_cell_3 : decode cX5_cell 3 = .ok (.getfield 61, 3) := by decide +kernel
theorem dX5_cell_6 : decode cX5_cell 6 = .ok (.invokestatic 122, 3) := by decide +kernel
theorem dX5_cell_9 : decode cX5_cell 9 = .ok (.ifCond .ne 24, 3) := by decide +kernel
theorem dX5_cell_12 : decode cX5_cell 12 = .ok (.iload_n 2, 1) := by decide +kernel
theorem dX5_cell_13 : decode cX5_cell 13 = .ok (.iconst 1, 1) := by decide +kernel
theorem dX5_cell_14 : decode cX5_cell 14 = .ok (.aload_n 0, 1) := by decide +kernel
theorem dX5_cell_15 : decode cX5_cell 15 = .ok (.getfield 58, 3) := by decide +kernel
theorem dX5_cell_18 : decode cX5_cell 18 = .ok (.invokestatic 122, 3) := by decide +kernel
theorem dX5_cell_21 : decode cX5_cell 21 = .ok (.ifCond .ne 12, 3) := by decide +kernel
theorem dX5_cell_24 : decode cX5_cell 24 = .ok (.iload_n 3, 1) := by decide +kernel
theorem dX5_cell_25 : decode cX5_cell 25 = .ok (.iconst 0, 1) := by decide +kernel
theorem dX5_cell_26 : decode cX5_cell 26 = .ok (.iconst 4, 1) := by decide +kernel
theorem dX5_cell_27 : decode cX5_cell 27 = .ok (.invokestatic 122, 3) := by decide +kernel
theorem dX5_cell_30 : decode cX5_cell 30 = .ok (.ifCond .eq 5, 3) := by decide +kernel
theorem dX5_cell_33 : decode cX5_cell 33 = .ok (.iconst (-1), 1) := by decide +kernel
theorem dX5_cell_34 : decode cX5_cell 34 = .ok (.ireturn, 1) := by decide +kernel
theorem dX5_cell_35 : decode cX5_cell 35 = .ok (.aload_n 0, 1) := by decide +kernel
theorem dX5_cell_36 : decode cX5_cell 36 = .ok (.getfield 7, 3) := by decide +kernel
theorem dX5_cell_39 : decode cX5_cell 39 = .ok (.bipush 80, 2) := by decide +kernel
theorem dX5_cell_41 : decode cX5_cell 41 = .ok (.iload_n 1, 1) := by decide +kernel
theorem dX5_cell_42 : decode cX5_cell 42 = .ok (.imul, 1) := by decide +kernel
theorem dX5_cell_43 : decode cX5_cell 43 = .ok (.bipush 80, 2) := by decide +kernel
theorem dX5_cell_45 : decode cX5_cell 45 = .ok (.isub, 1) := by decide +kernel
theorem dX5_cell_46 : decode cX5_cell 46 = .ok (.iload_n 2, 1) := by decide +kernel
theorem dX5_cell_47 : decode cX5_cell 47 = .ok (.iadd, 1) := by decide +kernel
theorem dX5_cell_48 : decode cX5_cell 48 = .ok (.iconst 1, 1) := by decide +kernel
theorem dX5_cell_49 : decode cX5_cell 49 = .ok (.isub, 1) := by decide +kernel
theorem dX5_cell_50 : decode cX5_cell 50 = .ok (.iaload, 1) := by decide +kernel
theorem dX5_cell_51 : decode cX5_cell 51 = .ok (.istore 4, 2) := by decide +kernel
theorem dX5_cell_53 : decode cX5_cell 53 = .ok (.iload_n 3, 1) := by decide +kernel
theorem dX5_cell_54 : decode cX5_cell 54 = .ok (.ifCond .ne 11, 3) := by decide +kernel
theorem dX5_cell_57 : decode cX5_cell 57 = .ok (.iload 4, 2) := by decide +kernel
theorem dX5_cell_59 : decode cX5_cell 59 = .ok (.bipush 127, 2) := by decide +kernel
theorem dX5_cell_61 : decode cX5_cell 61 = .ok (.iand, 1) := by decide +kernel
theorem dX5_cell_62 : decode cX5_cell 62 = .ok (.goto 59, 3) := by decide +kernel
theorem dX5_cell_65 : decode cX5_cell 65 = .ok (.iload_n 3, 1) := by decide +kernel
theorem dX5_cell_66 : decode cX5_cell 66 = .ok (.iconst 1, 1) := by decide +kernel
theorem dX5_cell_67 : decode cX5_cell 67 = .ok (.if_icmp .ne 14, 3) := by decide +kernel
theorem dX5_cell_70 : decode cX5_cell 70 = .ok (.iload 4, 2) := by decide +kernel
theorem dX5_cell_72 : decode cX5_cell 72 = .ok (.bipush 7, 2) := by decide +kernel
theorem dX5_cell_74 : decode cX5_cell 74 = .ok (.ishr, 1) := by decide +kernel
theorem dX5_cell_75 : decode cX5_cell 75 = .ok (.bipush 15, 2) := by decide +kernel
theorem dX5_cell_77 : decode cX5_cell 77 = .ok (.iand, 1) := by decide +kernel
theorem dX5_cell_78 : decode cX5_cell 78 = .ok (.goto 43, 3) := by decide +kernel
theorem dX5_cell_81 : decode cX5_cell 81 = .ok (.iload_n 3, 1) := by decide +kernel
theorem dX5_cell_82 : decode cX5_cell 82 = .ok (.iconst 2, 1) := by decide +kernel
theorem dX5_cell_83 : decode cX5_cell 83 = .ok (.if_icmp .ne 14, 3) := by decide +kernel
theorem dX5_cell_86 : decode cX5_cell 86 = .ok (.iload 4, 2) := by decide +kernel
theorem dX5_cell_88 : decode cX5_cell 88 = .ok (.bipush 11, 2) := by decide +kernel
theorem dX5_cell_90 : decode cX5_cell 90 = .ok (.ishr, 1) := by decide +kernel
theorem dX5_cell_91 : decode cX5_cell 91 = .ok (.bipush 7, 2) := by decide +kernel
theorem dX5_cell_93 : decode cX5_cell 93 = .ok (.iand, 1) := by decide +kernel
theorem dX5_cell_94 : decode cX5_cell 94 = .ok (.goto 27, 3) := by decide +kernel
theorem dX5_cell_97 : decode cX5_cell 97 = .ok (.iload_n 3, 1) := by decide +kernel
theorem dX5_cell_98 : decode cX5_cell 98 = .ok (.iconst 3, 1) := by decide +kernel
theorem dX5_cell_99 : decode cX5_cell 99 = .ok (.if_icmp .ne 14, 3) := by decide +kernel
theorem dX5_cell_102 : decode cX5_cell 102 = .ok (.iload 4, 2) := by decide +kernel
theorem dX5_cell_104 : decode cX5_cell 104 = .ok (.bipush 14, 2) := by decide +kernel
theorem dX5_cell_106 : decode cX5_cell 106 = .ok (.ishr, 1) := by decide +kernel
theorem dX5_cell_107 : decode cX5_cell 107 = .ok (.bipush 15, 2) := by decide +kernel
theorem dX5_cell_109 : decode cX5_cell 109 = .ok (.iand, 1) := by decide +kernel
theorem dX5_cell_110 : decode cX5_cell 110 = .ok (.goto 11, 3) := by decide +kernel
theorem dX5_cell_113 : decode cX5_cell 113 = .ok (.iload 4, 2) := by decide +kernel
theorem dX5_cell_115 : decode cX5_cell 115 = .ok (.bipush 18, 2) := by decide +kernel
theorem dX5_cell_117 : decode cX5_cell 117 = .ok (.ishr, 1) := by decide +kernel
theorem dX5_cell_118 : decode cX5_cell 118 = .ok (.bipush 15, 2) := by decide +kernel
theorem dX5_cell_120 : decode cX5_cell 120 = .ok (.iand, 1) := by decide +kernel
theorem dX5_cell_121 : decode cX5_cell 121 = .ok (.ireturn, 1) := by decide +kernel
theorem dX5_told_0 : decode cX5_told 0 = .ok (.iload_n 1, 1) := by decide +kernel
theorem dX5_told_1 : decode cX5_told 1 = .ok (.tableswitch 167 0 15 #[79, 84, 89, 94, 107, 112, 117, 122, 127, 132, 137, 142, 147, 152, 157, 162], 79) := by decide +kernel
theorem dX5_told_80 : decode cX5_told 80 = .ok (.aload_n 0, 1) := by decide +kernel
theorem dX5_told_81 : decode cX5_told 81 = .ok (.getfield 61, 3) := by decide +kernel
theorem dX5_told_84 : decode cX5_told 84 = .ok (.ireturn, 1) := by decide +kernel
theorem dX5_told_85 : decode cX5_told 85 = .ok (.aload_n 0, 1) := by decide +kernel
theorem dX5_told_86 : decode cX5_told 86 = .ok (.getfield 58, 3) := by decide +kernel
theorem dX5_told_89 : decode cX5_told 89 = .ok (.ireturn, 1) := by decide +kernel
theorem dX5_told_90 : decode cX5_told 90 = .ok (.aload_n 0, 1) := by decide +kernel
theorem dX5_told_91 : decode cX5_told 91 = .ok (.getfield 77, 3) := by decide +kernel
theorem dX5_told_94 : decode cX5_told 94 = .ok (.ireturn, 1) := by decide +kernel
theorem dX5_told_95 : decode cX5_told 95 = .ok (.aload_n 0, 1) := by decide +kernel
theorem dX5_told_96 : decode cX5_told 96 = .ok (.getfield 129, 3) := by decide +kernel
theorem dX5_told_99 : decode cX5_told 99 = .ok (.ifCond .eq 7, 3) := by decide +kernel
theorem dX5_told_102 : decode cX5_told 102 = .ok (.iconst 1, 1) := by decide +kernel
theorem dX5_told_103 : decode cX5_told 103 = .ok (.goto 4, 3) := by decide +kernel
theorem dX5_told_106 : decode cX5_told 106 = .ok (.iconst 0, 1) := by decide +kernel
theorem dX5_told_107 : decode cX5_told 107 = .ok (.ireturn, 1) := by decide +kernel
theorem dX5_told_108 : decode cX5_told 108 = .ok (.aload_n 0, 1) := by decide +kernel
theorem dX5_told_109 : decode cX5_told 109 = .ok (.getfield 71, 3) := by decide +kernel
theorem dX5_told_112 : decode cX5_told 112 = .ok (.ireturn, 1) := by decide +kernel
theorem dX5_told_113 : decode cX5_told 113 = .ok (.aload_n 0, 1) := by decide +kernel
theorem dX5_told_114 : decode cX5_told 114 = .ok (.getfield 16, 3) := by decide +kernel
theorem dX5_told_117 : decode cX5_told 117 = .ok (.ireturn, 1) := by decide +kernel
theorem dX5_told_118 : decode cX5_told 118 = .ok (.aload_n 0, 1) := by decide +kernel
theorem dX5_told_119 : decode cX5_told 119 = .ok (.getfield 20, 3) := by decide +kernel
theorem dX5_told_122 : decode cX5_told 122 = .ok (.ireturn, 1) := by decide +kernel
theorem dX5_told_123 : decode cX5_told 123 = .ok (.aload_n 0, 1) := by decide +kernel
theorem dX5_told_124 : decode cX5_told 124 = .ok (.getfield 23, 3) := by decide +kernel
theorem dX5_told_127 : decode cX5_told 127 = .ok (.ireturn, 1) := by decide +kernel
theorem dX5_told_128 : decode cX5_told 128 = .ok (.aload_n 0, 1) := by decide +kernel
theorem dX5_told_129 : decode cX5_told 129 = .ok (.getfield 83, 3) := by decide +kernel
theorem dX5_told_132 : decode cX5_told 132 = .ok (.ireturn, 1) := by decide +kernel
theorem dX5_told_133 : decode cX5_told 133 = .ok (.aload_n 0, 1) := by decide +kernel
theorem dX5_told_134 : decode cX5_told 134 = .ok (.getfield 93, 3) := by decide +kernel
theorem dX5_told_137 : decode cX5_told 137 = .ok (.ireturn, 1) := by decide +kernel
theorem dX5_told_138 : decode cX5_told 138 = .ok (.aload_n 0, 1) := by decide +kernel
theorem dX5_told_139 : decode cX5_told 139 = .ok (.getfield 96, 3) := by decide +kernel
theorem dX5_told_142 : decode cX5_told 142 = .ok (.ireturn, 1) := by decide +kernel
theorem dX5_told_143 : decode cX5_told 143 = .ok (.aload_n 0, 1) := by decide +kernel
theorem dX5_told_144 : decode cX5_told 144 = .ok (.getfield 102, 3) := by decide +kernel
theorem dX5_told_147 : decode cX5_told 147 = .ok (.ireturn, 1) := by decide +kernel
theorem dX5_told_148 : decode cX5_told 148 = .ok (.aload_n 0, 1) := by decide +kernel
theorem dX5_told_149 : decode cX5_told 149 = .ok (.getfield 80, 3) := by decide +kernel
theorem dX5_told_152 : decode cX5_told 152 = .ok (.ireturn, 1) := by decide +kernel
theorem dX5_told_153 : decode cX5_told 153 = .ok (.aload_n 0, 1) := by decide +kernel
theorem dX5_told_154 : decode cX5_told 154 = .ok (.getfield 33, 3) := by decide +kernel
theorem dX5_told_157 : decode cX5_told 157 = .ok (.ireturn, 1) := by decide +kernel
theorem dX5_told_158 : decode cX5_told 158 = .ok (.aload_n 0, 1) := by decide +kernel
theorem dX5_told_159 : decode cX5_told 159 = .ok (.getfield 36, 3) := by decide +kernel
theorem dX5_told_162 : decode cX5_told 162 = .ok (.ireturn, 1) := by decide +kernel
theorem dX5_told_163 : decode cX5_told 163 = .ok (.aload_n 0, 1) := by decide +kernel
theorem dX5_told_164 : decode cX5_told 164 = .ok (.getfield 39, 3) := by decide +kernel
theorem dX5_told_167 : decode cX5_told 167 = .ok (.ireturn, 1) := by decide +kernel
theorem dX5_told_168 : decode cX5_told 168 = .ok (.iconst (-1), 1) := by decide +kernel
theorem dX5_told_169 : decode cX5_told 169 = .ok (.ireturn, 1) := by decide +kernel
set_option maxRecDepth 20000 in
theorem ggJ5_init_d00df_J2_newBytesFor_77867 : GoodIn wsJ5_init_d00df wsJ2_newBytesFor_77867 := goodIn_r _ [11, 5, 12, 13, 10, 14, 15] (by decide +kernel) (by decide +kernel)
set_option maxRecDepth 20000 in
theorem gJ5_init_d00df_J2_newBytesFor_77867 : GoodIn wsJ5_init_d00df (va_wsS RJ5 26 yJ2_newBytesFor_77867 wsJ2_newBytesFor_77867) := goodIn_app (goodIn_of _ (by decide +kernel)) ggJ5_init_d00df_J2_newBytesFor_77867
theorem dJ5_init_d00df_0 : decode cJ5_init_d00df 0 = .ok (.aload_n 0, 1) := by decide +kernel
theorem dJ5_init_d00df_1 : decode cJ5_init_d00df 1 = .ok (.invokespecial 3, 3) := by decide +kernel
theorem dJ5_init_d00df_4 : decode cJ5_init_d00df 4 = .ok (.getstatic 18, 3) := by decide +kernel
theorem dJ5_init_d00df_7 : decode cJ5_init_d00df 7 = .ok (.ifCond .eq 18, 3) := by decide +kernel
theorem dJ5_init_d00df_10 : decode cJ5_init_d00df 10 = .ok (.aload_n 0, 1) := by decide +kernel
theorem dJ5_init_d00df_11 : decode cJ5_init_d00df 11 = .ok (.iload_n 1, 1) := by decide +kernel
theorem dJ5_init_d00df_12 : decode cJ5_init_d00df 12 = .ok (.newarray .byte, 2) := by decide +kernel
theorem dJ5_init_d00df_14 : decode cJ5_init_d00df 14 = .ok (.putfield 15, 3) := by decide +kernel
theorem dJ5_init_d00df_17 : decode cJ5_init_d00df 17 = .ok (.aload_n 0, 1) := by decide +kernel
theorem dJ5_init_d00df_18 : decode cJ5_init_d00df 18 = .ok (.iconst 0, 1) := by decide +kernel
theorem dJ5_init_d00df_19 : decode cJ5_init_d00df 19 = .ok (.putfield 22, 3) := by decide +kernel
theorem dJ5_init_d00df_22 : decode cJ5_init_d00df 22 = .ok (.goto 16, 3) := by decide +kernel
theorem dJ5_init_d00df_25 : decode cJ5_init_d00df 25 = .ok (.aload_n 0, 1) := by decide +kernel
theorem dJ5_init_d00df_26 : decode cJ5_init_d00df 26 = .ok (.iload_n 1, 1) := by decide +kernel
theorem dJ5_init_d00df_27 : decode cJ5_init_d00df 27 = .ok (.invokestatic 26, 3) := by decide +kernel
theorem dJ5_init_d00df_30 : decode cJ5_init_d00df 30 = .ok (.putfield 15, 3) := by decide +kernel
theorem dJ5_init_d00df_33 : decode cJ5_init_d00df 33 = .ok (.aload_n 0, 1) := by decide +kernel
theorem dJ5_init_d00df_34 : decode cJ5_init_d00df 34 = .ok (.iconst 1, 1) := by decide +kernel
theorem dJ5_init_d00df_35 : decode cJ5_init_d00df 35 = .ok (.putfield 22, 3) := by decide +kernel
theorem dJ5_init_d00df_38 : decode cJ5_init_d00df 38 = .ok (.return_, 1) := by decide +kernel
theorem dJ5_length_8abf5_0 : decode cJ5_length_8abf5 0 = .ok (.aload_n 0, 1) := by decide +kernel
theorem dJ5_length_8abf5_1 : decode cJ5_length_8abf5 1 = .ok (.getfield 79, 3) := by decide +kernel
theorem dJ5_length_8abf5_4 : decode cJ5_length_8abf5 4 = .ok (.ireturn, 1) := by decide +kernel
set_option maxRecDepth 20000 in
theorem ggJ5_ensureCapacityInternal_d00df_J5_newCapacity_0f7a4 : GoodIn wsJ5_ensureCapacityInternal_d00df wsJ5_newCapacity_0f7a4 := goodIn_r _ [8, 1, 2, 9, 10, 11, 12, 13, 14, 15, 16, 17, 18, 19, 20, 21, 40, 41, 42, 43] (by decide +kernel) (by decide +kernel)
set_option maxRecDepth 20000 in
theorem gJ5_ensureCapacityInternal_d00df_J5_newCapacity_0f7a4_u104J4 : GoodIn wsJ5_ensureCapacityInternal_d00df (va_wsU RJ5 104 RJ4 "java/lang/AbstractStringBuilder" ⟨"java/lang/AbstractStringBuilder", "newCapacity", "(I)I"⟩ yJ5_newCapacity_0f7a4 wsJ5_newCapacity_0f7a4) := goodIn_app (goodIn_of _ (by decide +kernel)) ggJ5_ensureCapacityInternal_d00df_J5_newCapacity_0f7a4
set_option maxRecDepth 20000 in
theorem ggJ5_ensureCapacityInternal_d00df_J7_copyOf_9075b : GoodIn wsJ5_ensureCapacityInternal_d00df wsJ7_copyOf_9075b := goodIn_r _ [25, 26, 27, 28, 29, 30, 31, 32, 33, 34, 16, 35, 36, 37, 38, 39] (by decide +kernel) (by decide +kernel)
set_option maxRecDepth 20000 in
theorem gJ5_ensureCapacityInternal_d00df_J7_copyOf_9075b : GoodIn wsJ5_ensureCapacityInternal_d00df (va_wsS RJ5 108 yJ7_copyOf_9075b wsJ7_copyOf_9075b) := goodIn_app (goodIn_of _ (by decide +kernel)) ggJ5_ensureCapacityInternal_d00df_J7_copyOf_9075b
theorem dJ5_ensureCapacityInternal_d00df_0 : decode cJ5_ensureCapacityInternal_d00df 0 = .ok (.aload_n 0, 1) := by decide +kernel
theorem dJ5_ensureCapacityInternal_d00df_1 : decode cJ5_ensureCapacityInternal_d00df 1 = .ok (.getfield 15, 3) := by decide +kernel
theorem dJ5_ensureCapacityInternal_d00df_4 : decode cJ5_ensureCapacityInternal_d00df 4 = .ok (.arraylength, 1) := by decide +kernel
theorem dJ5_ensureCapacityInternal_d00df_5 : decode cJ5_ensureCapacityInternal_d00df 5 = .ok (.aload_n 0, 1) := by decide +kernel
theorem dJ5_ensureCapacityInternal_d00df_6 : decode cJ5_ensureCapacityInternal_d00df 6 = .ok (.getfield 22, 3) := by decide +kernel
theorem dJ5_ensureCapacityInternal_d00df_9 : decode cJ5_ensureCapacityInternal_d00df 9 = .ok (.ishr, 1) := by decide +kernel
theorem dJ5_ensureCapacityInternal_d00df_10 : decode cJ5_ensureCapacityInternal_d00df 10 = .ok (.istore_n 2, 1) := by decide +kernel
theorem dJ5_ensureCapacityInternal_d00df_11 : decode cJ5_ensureCapacityInternal_d00df 11 = .ok (.iload_n 1, 1) := by decide +kernel
theorem dJ5_ensureCapacityInternal_d00df_12 : decode cJ5_ensureCapacityInternal_d00df 12 = .ok (.iload_n 2, 1) := by decide +kernel
theorem dJ5_ensureCapacityInternal_d00df_13 : decode cJ5_ensureCapacityInternal_d00df 13 = .ok (.isub, 1) := by decide +kernel
theorem dJ5_ensureCapacityInternal_d00df_14 : decode cJ5_ensureCapacityInternal_d00df 14 = .ok (.ifCond .le 24, 3) := by decide +kernel
theorem dJ5_ensureCapacityInternal_d00df_17 : decode cJ5_ensureCapacityInternal_d00df 17 = .ok (.aload_n 0, 1) := by decide +kernel
theorem dJ5_ensureCapacityInternal_d00df_18 : decode cJ5_ensureCapacityInternal_d00df 18 = .ok (.aload_n 0, 1) := by decide +kernel
theorem dJ5_ensureCapacityInternal_d00df_19 : decode cJ5_ensureCapacityInternal_d00df 19 = .ok (.getfield 15, 3) := by decide +kernel
theorem dJ5_ensureCapacityInternal_d00df_22 : decode cJ5_ensureCapacityInternal_d00df 22 = .ok (.aload_n 0, 1) := by decide +kernel
theorem dJ5_ensureCapacityInternal_d00df_23 : decode cJ5_ensureCapacityInternal_d00df 23 = .ok (.iload_n 1, 1) := by decide +kernel
theorem dJ5_ensureCapacityInternal_d00df_24 : decode cJ5_ensureCapacityInternal_d00df 24 = .ok (.invokevirtual 104, 3) := by decide +kernel
theorem dJ5_ensureCapacityInternal_d00df_27 : decode cJ5_ensureCapacityInternal_d00df 27 = .ok (.aload_n 0, 1) := by decide +kernel
theorem dJ5_ensureCapacityInternal_d00df_28 : decode cJ5_ensureCapacityInternal_d00df 28 = .ok (.getfield 22, 3) := by decide +kernel
theorem dJ5_ensureCapacityInternal_d00df_31 : decode cJ5_ensureCapacityInternal_d00df 31 = .ok (.ishl, 1) := by decide +kernel
theorem dJ5_ensureCapacityInternal_d00df_32 : decode cJ5_ensureCapacityInternal_d00df 32 = .ok (.invokestatic 108, 3) := by decide +kernel
theorem dJ5_ensureCapacityInternal_d00df_35 : decode cJ5_ensureCapacityInternal_d00df 35 = .ok (.putfield 15, 3) := by decide +kernel
theorem dJ5_ensureCapacityInternal_d00df_38 : decode cJ5_ensureCapacityInternal_d00df 38 = .ok (.return_, 1) := by decide +kernel
set_option maxRecDepth 20000 in
theorem ggJ5_newCapacity_0f7a4_J8_newLength_cabcc : GoodIn wsJ5_newCapacity_0f7a4 wsJ8_newLength_cabcc := goodIn_r _ [7, 8, 9, 10, 11, 12, 13, 14, 6, 15] (by decide +kernel) (by decide +kernel)
set_option maxRecDepth 20000 in
theorem gJ5_newCapacity_0f7a4_J8_newLength_cabcc : GoodIn wsJ5_newCapacity_0f7a4 (va_wsS RJ5 114 yJ8_newLength_cabcc wsJ8_newLength_cabcc) := goodIn_app (goodIn_of _ (by decide +kernel)) ggJ5_newCapacity_0f7a4_J8_newLength_cabcc
theorem dJ5_newCapacity_0f7a4_0 : decode cJ5_newCapacity_0f7a4 0 = .ok (.aload_n 0, 1) := by decide +kernel
theorem dJ5_newCapacity_0f7a4_1 : decode cJ5_newCapacity_0f7a4 1 = .ok (.getfield 15, 3) := by decide +kernel
theorem dJ5_newCapacity_0f7a4_4 : decode cJ5_newCapacity_0f7a4 4 = .ok (.arraylength, 1) := by decide +kernel
theorem dJ5_newCapacity_0f7a4_5 : decode cJ5_newCapacity_0f7a4 5 = .ok (.istore_n 2, 1) := by decide +kernel
theorem dJ5_newCapacity_0f7a4_6 : decode cJ5_newCapacity_0f7a4 6 = .ok (.iload_n 1, 1) := by decide +kernel
theorem dJ5_newCapacity_0f7a4_7 : decode cJ5_newCapacity_0f7a4 7 = .ok (.aload_n 0, 1) := by decide +kernel
theorem dJ5_newCapacity_0f7a4_8 : decode cJ5_newCapacity_0f7a4 8 = .ok (.getfield 22, 3) := by decide +kernel
theorem dJ5_newCapacity_0f7a4_11 : decode cJ5_newCapacity_0f7a4 11 = .ok (.ishl, 1) := by decide +kernel
theorem dJ5_newCapacity_0f7a4_12 : decode cJ5_newCapacity_0f7a4 12 = .ok (.istore_n 3, 1) := by decide +kernel
theorem dJ5_newCapacity_0f7a4_13 : decode cJ5_newCapacity_0f7a4 13 = .ok (.iload_n 3, 1) := by decide +kernel
theorem dJ5_newCapacity_0f7a4_14 : decode cJ5_newCapacity_0f7a4 14 = .ok (.iload_n 2, 1) := by decide +kernel
theorem dJ5_newCapacity_0f7a4_15 : decode cJ5_newCapacity_0f7a4 15 = .ok (.isub, 1) := by decide +kernel
theorem dJ5_newCapacity_0f7a4_16 : decode cJ5_newCapacity_0f7a4 16 = .ok (.istore 4, 2) := by decide +kernel
theorem dJ5_newCapacity_0f7a4_18 : decode cJ5_newCapacity_0f7a4 18 = .ok (.iload_n 2, 1) := by decide +kernel
theorem dJ5_newCapacity_0f7a4_19 : decode cJ5_newCapacity_0f7a4 19 = .ok (.iload 4, 2) := by decide +kernel
theorem dJ5_newCapacity_0f7a4_21 : decode cJ5_newCapacity_0f7a4 21 = .ok (.iload_n 2, 1) := by decide +kernel
theorem dJ5_newCapacity_0f7a4_22 : decode cJ5_newCapacity_0f7a4 22 = .ok (.iconst 2, 1) := by decide +kernel
theorem dJ5_newCapacity_0f7a4_23 : decode cJ5_newCapacity_0f7a4 23 = .ok (.aload_n 0, 1) := by decide +kernel
theorem dJ5_newCapacity_0f7a4_24 : decode cJ5_newCapacity_0f7a4 24 = .ok (.getfield 22, 3) := by decide +kernel
theorem dJ5_newCapacity_0f7a4_27 : decode cJ5_newCapacity_0f7a4 27 = .ok (.ishl, 1) := by decide +kernel
theorem dJ5_newCapacity_0f7a4_28 : decode cJ5_newCapacity_0f7a4 28 = .ok (.iadd, 1) := by decide +kernel
theorem dJ5_newCapacity_0f7a4_29 : decode cJ5_newCapacity_0f7a4 29 = .ok (.invokestatic 114, 3) := by decide +kernel
theorem dJ5_newCapacity_0f7a4_32 : decode cJ5_newCapacity_0f7a4 32 = .ok (.istore 5, 2) := by decide +kernel
theorem dJ5_newCapacity_0f7a4_34 : decode cJ5_newCapacity_0f7a4 34 = .ok (.iload 5, 2) := by decide +kernel
theorem dJ5_newCapacity_0f7a4_36 : decode cJ5_newCapacity_0f7a4 36 = .ok (.ldc 39, 2) := by decide +kernel
theorem dJ5_newCapacity_0f7a4_38 : decode cJ5_newCapacity_0f7a4 38 = .ok (.if_icmp .ne 13, 3) := by decide +kernel
theorem dJ5_newCapacity_0f7a4_41 : decode cJ5_newCapacity_0f7a4 41 = .ok (.new 120, 3) := by decide +kernel
theorem dJ5_newCapacity_0f7a4_44 : decode cJ5_newCapacity_0f7a4 44 = .ok (.dup, 1) := by decide +kernel
theorem dJ5_newCapacity_0f7a4_45 : decode cJ5_newCapacity_0f7a4 45 = .ok (.ldc 122, 2) := by decide +kernel
theorem dJ5_newCapacity_0f7a4_47 : decode cJ5_newCapacity_0f7a4 47 = .ok (.invokespecial 124, 3) := by decide +kernel
theorem dJ5_newCapacity_0f7a4_50 : decode cJ5_newCapacity_0f7a4 50 = .ok (.athrow, 1) := by decide +kernel
theorem dJ5_newCapacity_0f7a4_51 : decode cJ5_newCapacity_0f7a4 51 = .ok (.iload 5, 2) := by decide +kernel
theorem dJ5_newCapacity_0f7a4_53 : decode cJ5_newCapacity_0f7a4 53 = .ok (.aload_n 0, 1) := by decide +kernel
theorem dJ5_newCapacity_0f7a4_54 : decode cJ5_newCapacity_0f7a4 54 = .ok (.getfield 22, 3) := by decide +kernel
theorem dJ5_newCapacity_0f7a4_57 : decode cJ5_newCapacity_0f7a4 57 = .ok (.ishr, 1) := by decide +kernel
theorem dJ5_newCapacity_0f7a4_58 : decode cJ5_newCapacity_0f7a4 58 = .ok (.ireturn, 1) := by decide +kernel
set_option maxRecDepth 20000 in
theorem ggJ5_inflate_da8c8_J5_isLatin1_aae02 : GoodIn wsJ5_inflate_da8c8 wsJ5_isLatin1_aae02 := goodIn_r _ [9, 10, 3, 48, 49, 50, 51] (by decide +kernel) (by decide +kernel)
set_option maxRecDepth 20000 in
theorem gJ5_inflate_da8c8_J5_isLatin1_aae02_u83J4 : GoodIn wsJ5_inflate_da8c8 (va_wsU RJ5 83 RJ4 "java/lang/AbstractStringBuilder" ⟨"java/lang/AbstractStringBuilder", "isLatin1", "()Z"⟩ yJ5_isLatin1_aae02 wsJ5_isLatin1_aae02) := goodIn_app (goodIn_of _ (by decide +kernel)) ggJ5_inflate_da8c8_J5_isLatin1_aae02
set_option maxRecDepth 20000 in
theorem ggJ5_inflate_da8c8_J2_newBytesFor_77867 : GoodIn wsJ5_inflate_da8c8 wsJ2_newBytesFor_77867 := goodIn_r _ [14, 15, 16, 17, 13, 18, 19] (by decide +kernel) (by decide +kernel)
set_option maxRecDepth 20000 in
theorem gJ5_inflate_da8c8_J2_newBytesFor_77867 : GoodIn wsJ5_inflate_da8c8 (va_wsS RJ5 26 yJ2_newBytesFor_77867 wsJ2_newBytesFor_77867) := goodIn_app (goodIn_of _ (by decide +kernel)) ggJ5_inflate_da8c8_J2_newBytesFor_77867
set_option maxRecDepth 20000 in
theorem ggJ5_inflate_da8c8_J1_inflate_0e8fd : GoodIn wsJ5_inflate_da8c8 wsJ1_inflate_0e8fd := goodIn_r _ [23, 24, 25, 13, 26, 27, 28, 29, 30, 31, 32, 33, 34, 35, 36, 37, 38, 39, 40, 41, 42, 43, 44, 45, 46, 47] (by decide +kernel) (by decide +kernel)
set_option maxRecDepth 20000 in
theorem gJ5_inflate_da8c8_J1_inflate_0e8fd : GoodIn wsJ5_inflate_da8c8 (va_wsS RJ5 125 yJ1_inflate_0e8fd wsJ1_inflate_0e8fd) := goodIn_app (goodIn_of _ (by decide +kernel)) ggJ5_inflate_da8c8_J1_inflate_0e8fd
theorem dJ5_inflate_da8c8_0 : decode cJ5_inflate_da8c8 0 = .ok (.aload_n 0, 1) := by decide +kernel
theorem dJ5_inflate_da8c8_1 : decode cJ5_inflate_da8c8 1 = .ok (.invokevirtual 83, 3) := by decide +kernel
theorem dJ5_inflate_da8c8_4 : decode cJ5_inflate_da8c8 4 = .ok (.ifCond .ne 4, 3) := by decide +kernel
theorem dJ5_inflate_da8c8_7 : decode cJ5_inflate_da8c8 7 = .ok (.return_, 1) := by decide +kernel
theorem dJ5_inflate_da8c8_8 : decode cJ5_inflate_da8c8 8 = .ok (.aload_n 0, 1) := by decide +kernel
theorem dJ5_inflate_da8c8_9 : decode cJ5_inflate_da8c8 9 = .ok (.getfield 15, 3) := by decide +kernel
theorem dJ5_inflate_da8c8_12 : decode cJ5_inflate_da8c8 12 = .ok (.arraylength, 1) := by decide +kernel
theorem dJ5_inflate_da8c8_13 : decode cJ5_inflate_da8c8 13 = .ok (.invokestatic 26, 3) := by decide +kernel
theorem dJ5_inflate_da8c8_16 : decode cJ5_inflate_da8c8 16 = .ok (.astore_n 1, 1) := by decide +kernel
theorem dJ5_inflate_da8c8_17 : decode cJ5_inflate_da8c8 17 = .ok (.aload_n 0, 1) := by decide +kernel
theorem dJ5_inflate_da8c8_18 : decode cJ5_inflate_da8c8 18 = .ok (.getfield 15, 3) := by decide +kernel
theorem dJ5_inflate_da8c8_21 : decode cJ5_inflate_da8c8 21 = .ok (.iconst 0, 1) := by decide +kernel
theorem dJ5_inflate_da8c8_22 : decode cJ5_inflate_da8c8 22 = .ok (.aload_n 1, 1) := by decide +kernel
theorem dJ5_inflate_da8c8_23 : decode cJ5_inflate_da8c8 23 = .ok (.iconst 0, 1) := by decide +kernel
theorem dJ5_inflate_da8c8_24 : decode cJ5_inflate_da8c8 24 = .ok (.aload_n 0, 1) := by decide +kernel
theorem dJ5_inflate_da8c8_25 : decode cJ5_inflate_da8c8 25 = .ok (.getfield 79, 3) := by decide +kernel
theorem dJ5_inflate_da8c8_28 : decode cJ5_inflate_da8c8 28 = .ok (.invokestatic 125, 3) := by decide +kernel
theorem dJ5_inflate_da8c8_31 : decode cJ5_inflate_da8c8 31 = .ok (.aload_n 0, 1) := by decide +kernel
theorem dJ5_inflate_da8c8_32 : decode cJ5_inflate_da8c8 32 = .ok (.aload_n 1, 1) := by decide +kernel
theorem dJ5_inflate_da8c8_33 : decode cJ5_inflate_da8c8 33 = .ok (.putfield 15, 3) := by decide +kernel
theorem dJ5_inflate_da8c8_36 : decode cJ5_inflate_da8c8 36 = .ok (.aload_n 0, 1) := by decide +kernel
theorem dJ5_inflate_da8c8_37 : decode cJ5_inflate_da8c8 37 = .ok (.iconst 1, 1) := by decide +kernel
theorem dJ5_inflate_da8c8_38 : decode cJ5_inflate_da8c8 38 = .ok (.putfield 22, 3) := by decide +kernel
theorem dJ5_inflate_da8c8_41 : decode cJ5_inflate_da8c8 41 = .ok (.return_, 1) := by decide +kernel
set_option maxRecDepth 20000 in
theorem ggJ5_charAt_5068e_J0_checkIndex_df160 : GoodIn wsJ5_charAt_5068e wsJ0_checkIndex_df160 := goodIn_r _ [11, 12, 13, 14, 15, 16] (by decide +kernel) (by decide +kernel)
set_option maxRecDepth 20000 in
theorem gJ5_charAt_5068e_J0_checkIndex_df160 : GoodIn wsJ5_charAt_5068e (va_wsS RJ5 144 yJ0_checkIndex_df160 wsJ0_checkIndex_df160) := goodIn_app (goodIn_of _ (by decide +kernel)) ggJ5_charAt_5068e_J0_checkIndex_df160
set_option maxRecDepth 20000 in
theorem ggJ5_charAt_5068e_J2_getChar_3b067 : GoodIn wsJ5_charAt_5068e wsJ2_getChar_3b067 := goodIn_r _ [20, 21, 22, 23, 24, 25, 19, 26] (by decide +kernel) (by decide +kernel)
set_option maxRecDepth 20000 in
theorem gJ5_charAt_5068e_J2_getChar_3b067 : GoodIn wsJ5_charAt_5068e (va_wsS RJ5 148 yJ2_getChar_3b067 wsJ2_getChar_3b067) := goodIn_app (goodIn_of _ (by decide +kernel)) ggJ5_charAt_5068e_J2_getChar_3b067
theorem dJ5_charAt_5068e_0 : decode cJ5_charAt_5068e 0 = .ok (.aload_n 0, 1) := by decide +kernel
theorem dJ5_charAt_5068e_1 : decode cJ5_charAt_5068e 1 = .ok (.getfield 22, 3) := by decide +kernel
theorem dJ5_charAt_5068e_4 : decode cJ5_charAt_5068e 4 = .ok (.istore_n 2, 1) := by decide +kernel
theorem dJ5_charAt_5068e_5 : decode cJ5_charAt_5068e 5 = .ok (.aload_n 0, 1) := by decide +kernel
theorem dJ5_charAt_5068e_6 : decode cJ5_charAt_5068e 6 = .ok (.getfield 15, 3) := by decide +kernel
theorem dJ5_charAt_5068e_9 : decode cJ5_charAt_5068e 9 = .ok (.astore_n 3, 1) := by decide +kernel
theorem dJ5_charAt_5068e_10 : decode cJ5_charAt_5068e 10 = .ok (.aload_n 0, 1) := by decide +kernel
theorem dJ5_charAt_5068e_11 : decode cJ5_charAt_5068e 11 = .ok (.getfield 79, 3) := by decide +kernel
theorem dJ5_charAt_5068e_14 : decode cJ5_charAt_5068e 14 = .ok (.aload_n 3, 1) := by decide +kernel
theorem dJ5_charAt_5068e_15 : decode cJ5_charAt_5068e 15 = .ok (.arraylength, 1) := by decide +kernel
theorem dJ5_charAt_5068e_16 : decode cJ5_charAt_5068e 16 = .ok (.iload_n 2, 1) := by decide +kernel
theorem dJ5_charAt_5068e_17 : decode cJ5_charAt_5068e 17 = .ok (.ishr, 1) := by decide +kernel
theorem dJ5_charAt_5068e_18 : decode cJ5_charAt_5068e 18 = .ok (.invokestatic 138, 3) := by decide +kernel
theorem dJ5_charAt_5068e_21 : decode cJ5_charAt_5068e 21 = .ok (.istore 4, 2) := by decide +kernel
theorem dJ5_charAt_5068e_23 : decode cJ5_charAt_5068e 23 = .ok (.iload_n 1, 1) := by decide +kernel
theorem dJ5_charAt_5068e_24 : decode cJ5_charAt_5068e 24 = .ok (.iload 4, 2) := by decide +kernel
theorem dJ5_charAt_5068e_26 : decode cJ5_charAt_5068e 26 = .ok (.invokestatic 144, 3) := by decide +kernel
theorem dJ5_charAt_5068e_29 : decode cJ5_charAt_5068e 29 = .ok (.iload_n 2, 1) := by decide +kernel
theorem dJ5_charAt_5068e_30 : decode cJ5_charAt_5068e 30 = .ok (.ifCond .ne 12, 3) := by decide +kernel
theorem dJ5_charAt_5068e_33 : decode cJ5_charAt_5068e 33 = .ok (.aload_n 3, 1) := by decide +kernel
theorem dJ5_charAt_5068e_34 : decode cJ5_charAt_5068e 34 = .ok (.iload_n 1, 1) := by decide +kernel
theorem dJ5_charAt_5068e_35 : decode cJ5_charAt_5068e 35 = .ok (.baload, 1) := by decide +kernel
theorem dJ5_charAt_5068e_36 : decode cJ5_charAt_5068e 36 = .ok (.sipush 255, 3) := by decide +kernel
theorem dJ5_charAt_5068e_39 : decode cJ5_charAt_5068e 39 = .ok (.iand, 1) := by decide +kernel
theorem dJ5_charAt_5068e_40 : decode cJ5_charAt_5068e 40 = .ok (.i2c, 1) := by decide +kernel
theorem dJ5_charAt_5068e_41 : decode cJ5_charAt_5068e 41 = .ok (.ireturn, 1) := by decide +kernel
theorem dJ5_charAt_5068e_42 : decode cJ5_charAt_5068e 42 = .ok (.aload_n 3, 1) := by decide +kernel
theorem dJ5_charAt_5068e_43 : decode cJ5_charAt_5068e 43 = .ok (.iload_n 1, 1) := by decide +kernel
theorem dJ5_charAt_5068e_44 : decode cJ5_charAt_5068e 44 = .ok (.invokestatic 148, 3) := by decide +kernel
theorem dJ5_charAt_5068e_47 : decode cJ5_charAt_5068e 47 = .ok (.ireturn, 1) := by decide +kernel
set_option maxRecDepth 20000 in
theorem ggJ5_append_cf1ce_J5_appendNull_278bc : GoodIn wsJ5_append_cf1ce wsJ5_appendNull_278bc := goodIn_r _ [7, 1, 8, 9, 10, 11, 12, 6, 13, 14, 15, 16, 17, 18, 19, 20, 21, 22, 23, 24, 25, 26, 27, 28, 29, 30, 31, 32, 33, 34, 35, 36, 37, 38, 39, 40, 41, 42, 43, 44, 45, 46, 47, 48, 49, 50, 51, 52, 53, 54, 55, 56, 57, 58, 59, 60, 61, 62, 63, 64, 65, 66, 67, 68, 69, 70, 71, 72, 73, 74, 75, 76, 77, 78, 79, 80, 81, 138, 139, 140, 141] (by decide +kernel) (by decide +kernel)
set_option maxRecDepth 20000 in
theorem gJ5_append_cf1ce_J5_appendNull_278bc_u204J4 : GoodIn wsJ5_append_cf1ce (va_wsU RJ5 204 RJ4 "java/lang/AbstractStringBuilder" ⟨"java/lang/AbstractStringBuilder", "appendNull", "()Ljava/lang/AbstractStringBuilder;"⟩ yJ5_appendNull_278bc wsJ5_appendNull_278bc) := goodIn_app (goodIn_of _ (by decide +kernel)) ggJ5_append_cf1ce_J5_appendNull_278bc
set_option maxRecDepth 20000 in
theorem ggJ5_append_cf1ce_J0_length_8abf5 : GoodIn wsJ5_append_cf1ce wsJ0_length_8abf5 := goodIn_r _ [85, 86, 87, 88, 89, 70, 90, 91, 92] (by decide +kernel) (by decide +kernel)
set_option maxRecDepth 20000 in
theorem gJ5_append_cf1ce_J0_length_8abf5 : GoodIn wsJ5_append_cf1ce (wsV RJ5 32 RJ0 yJ0_length_8abf5 wsJ0_length_8abf5) := goodIn_app (goodIn_of _ (by decide +kernel)) ggJ5_append_cf1ce_J0_length_8abf5
set_option maxRecDepth 20000 in
theorem ggJ5_append_cf1ce_J5_ensureCapacityInternal_d00df : GoodIn wsJ5_append_cf1ce wsJ5_ensureCapacityInternal_d00df := goodIn_r _ [13, 8, 14, 15, 16, 17, 18, 6, 19, 20, 21, 22, 23, 24, 25, 26, 27, 28, 29, 30, 31, 32, 33, 34, 35, 36, 37, 38, 39, 40, 41, 42, 43, 44, 45, 46, 47, 48, 49, 50, 138, 139, 140, 141] (by decide +kernel) (by decide +kernel)
set_option maxRecDepth 20000 in
theorem gJ5_append_cf1ce_J5_ensureCapacityInternal_d00df_u100J4 : GoodIn wsJ5_append_cf1ce (va_wsU RJ5 100 RJ4 "java/lang/AbstractStringBuilder" ⟨"java/lang/AbstractStringBuilder", "ensureCapacityInternal", "(I)V"⟩ yJ5_ensureCapacityInternal_d00df wsJ5_ensureCapacityInternal_d00df) := goodIn_app (goodIn_of _ (by decide +kernel)) ggJ5_append_cf1ce_J5_ensureCapacityInternal_d00df
set_option maxRecDepth 20000 in
theorem ggJ5_append_cf1ce_J5_putStringAt_47b60 : GoodIn wsJ5_append_cf1ce wsJ5_putStringAt_47b60 := goodIn_r _ [97, 8, 14, 98, 99, 100, 101, 6, 102, 56, 103, 88, 89, 70, 90, 91, 92, 104, 105, 106, 107, 108, 1, 51, 52, 53, 54, 55, 109, 110, 59, 111, 43, 112, 113, 114, 115, 116, 117, 118, 119, 120, 121, 122, 123, 124, 125, 65, 66, 67, 126, 127, 128, 72, 129, 130, 75, 131, 77, 78, 79, 61, 80, 81, 132, 133, 134, 135, 86, 136, 48, 49, 50, 87, 137, 138, 139, 140, 141] (by decide +kernel) (by decide +kernel)
set_option maxRecDepth 20000 in
theorem gJ5_append_cf1ce_J5_putStringAt_47b60_u208J4 : GoodIn wsJ5_append_cf1ce (va_wsU RJ5 208 RJ4 "java/lang/AbstractStringBuilder" ⟨"java/lang/AbstractStringBuilder", "putStringAt", "(ILjava/lang/String;)V"⟩ yJ5_putStringAt_47b60 wsJ5_putStringAt_47b60) := goodIn_app (goodIn_of _ (by decide +kernel)) ggJ5_append_cf1ce_J5_putStringAt_47b60
theorem dJ5_append_cf1ce_0 : decode cJ5_append_cf1ce 0 = .ok (.aload_n 1, 1) := by decide +kernel
theorem dJ5_append_cf1ce_1 : decode cJ5_append_cf1ce 1 = .ok (.ifnonnull 8, 3) := by decide +kernel
theorem dJ5_append_cf1ce_4 : decode cJ5_append_cf1ce 4 = .ok (.aload_n 0, 1) := by decide +kernel
theorem dJ5_append_cf1ce_5 : decode cJ5_append_cf1ce 5 = .ok (.invokevirtual 204, 3) := by decide +kernel
theorem dJ5_append_cf1ce_8 : decode cJ5_append_cf1ce 8 = .ok (.areturn, 1) := by decide +kernel
theorem dJ5_append_cf1ce_9 : decode cJ5_append_cf1ce 9 = .ok (.aload_n 1, 1) := by decide +kernel
theorem dJ5_append_cf1ce_10 : decode cJ5_append_cf1ce 10 = .ok (.invokevirtual 32, 3) := by decide +kernel
theorem dJ5_append_cf1ce_13 : decode cJ5_append_cf1ce 13 = .ok (.istore_n 2, 1) := by decide +kernel
theorem dJ5_append_cf1ce_14 : decode cJ5_append_cf1ce 14 = .ok (.aload_n 0, 1) := by decide +kernel
theorem dJ5_append_cf1ce_15 : decode cJ5_append_cf1ce 15 = .ok (.aload_n 0, 1) := by decide +kernel
theorem dJ5_append_cf1ce_16 : decode cJ5_append_cf1ce 16 = .ok (.getfield 79, 3) := by decide +kernel
theorem dJ5_append_cf1ce_19 : decode cJ5_append_cf1ce 19 = .ok (.iload_n 2, 1) := by decide +kernel
theorem dJ5_append_cf1ce_20 : decode cJ5_append_cf1ce 20 = .ok (.iadd, 1) := by decide +kernel
theorem dJ5_append_cf1ce_21 : decode cJ5_append_cf1ce 21 = .ok (.invokevirtual 100, 3) := by decide +kernel
theorem dJ5_append_cf1ce_24 : decode cJ5_append_cf1ce 24 = .ok (.aload_n 0, 1) := by decide +kernel
theorem dJ5_append_cf1ce_25 : decode cJ5_append_cf1ce 25 = .ok (.aload_n 0, 1) := by decide +kernel
theorem dJ5_append_cf1ce_26 : decode cJ5_append_cf1ce 26 = .ok (.getfield 79, 3) := by decide +kernel
theorem dJ5_append_cf1ce_29 : decode cJ5_append_cf1ce 29 = .ok (.aload_n 1, 1) := by decide +kernel
theorem dJ5_append_cf1ce_30 : decode cJ5_append_cf1ce 30 = .ok (.invokevirtual 208, 3) := by decide +kernel
theorem dJ5_append_cf1ce_33 : decode cJ5_append_cf1ce 33 = .ok (.aload_n 0, 1) := by decide +kernel
theorem dJ5_append_cf1ce_34 : decode cJ5_append_cf1ce 34 = .ok (.dup, 1) := by decide +kernel
theorem dJ5_append_cf1ce_35 : decode cJ5_append_cf1ce 35 = .ok (.getfield 79, 3) := by decide +kernel
theorem dJ5_append_cf1ce_38 : decode cJ5_append_cf1ce 38 = .ok (.iload_n 2, 1) := by decide +kernel
theorem dJ5_append_cf1ce_39 : decode cJ5_append_cf1ce 39 = .ok (.iadd, 1) := by decide +kernel
theorem dJ5_append_cf1ce_40 : decode cJ5_append_cf1ce 40 = .ok (.putfield 79, 3) := by decide +kernel
theorem dJ5_append_cf1ce_43 : decode cJ5_append_cf1ce 43 = .ok (.aload_n 0, 1) := by decide +kernel
theorem dJ5_append_cf1ce_44 : decode cJ5_append_cf1ce 44 = .ok (.areturn, 1) := by decide +kernel
set_option maxRecDepth 20000 in
theorem ggJ5_appendNull_278bc_J5_ensureCapacityInternal_d00df : GoodIn wsJ5_appendNull_278bc wsJ5_ensureCapacityInternal_d00df := goodIn_r _ [8, 2, 9, 10, 11, 12, 13, 7, 14, 15, 16, 17, 18, 19, 20, 21, 22, 23, 24, 25, 26, 27, 28, 29, 30, 31, 32, 33, 34, 35, 36, 37, 38, 39, 40, 41, 42, 43, 44, 45, 77, 78, 79, 80] (by decide +kernel) (by decide +kernel)
set_option maxRecDepth 20000 in
theorem gJ5_appendNull_278bc_J5_ensureCapacityInternal_d00df_u100J4 : GoodIn wsJ5_appendNull_278bc (va_wsU RJ5 100 RJ4 "java/lang/AbstractStringBuilder" ⟨"java/lang/AbstractStringBuilder", "ensureCapacityInternal", "(I)V"⟩ yJ5_ensureCapacityInternal_d00df wsJ5_ensureCapacityInternal_d00df) := goodIn_app (goodIn_of _ (by decide +kernel)) ggJ5_appendNull_278bc_J5_ensureCapacityInternal_d00df
set_option maxRecDepth 20000 in
theorem ggJ5_appendNull_278bc_J5_isLatin1_aae02 : GoodIn wsJ5_appendNull_278bc wsJ5_isLatin1_aae02 := goodIn_r _ [50, 51, 9, 77, 78, 79, 80] (by decide +kernel) (by decide +kernel)
set_option maxRecDepth 20000 in
theorem gJ5_appendNull_278bc_J5_isLatin1_aae02_u83J4 : GoodIn wsJ5_appendNull_278bc (va_wsU RJ5 83 RJ4 "java/lang/AbstractStringBuilder" ⟨"java/lang/AbstractStringBuilder", "isLatin1", "()Z"⟩ yJ5_isLatin1_aae02 wsJ5_isLatin1_aae02) := goodIn_app (goodIn_of _ (by decide +kernel)) ggJ5_appendNull_278bc_J5_isLatin1_aae02
set_option maxRecDepth 20000 in
theorem ggJ5_appendNull_278bc_J2_putCharsAt_cd4e5 : GoodIn wsJ5_appendNull_278bc wsJ2_putCharsAt_cd4e5 := goodIn_r _ [55, 56, 57, 58, 54, 59, 60, 61, 62, 63, 64, 65, 66, 67, 68, 69, 70, 71, 72, 73, 74, 75, 76] (by decide +kernel) (by decide +kernel)
set_option maxRecDepth 20000 in
theorem gJ5_appendNull_278bc_J2_putCharsAt_cd4e5 : GoodIn wsJ5_appendNull_278bc (va_wsS RJ5 226 yJ2_putCharsAt_cd4e5 wsJ2_putCharsAt_cd4e5) := goodIn_app (goodIn_of _ (by decide +kernel)) ggJ5_appendNull_278bc_J2_putCharsAt_cd4e5
theorem dJ5_appendNull_278bc_0 : decode cJ5_appendNull_278bc 0 = .ok (.aload_n 0, 1) := by decide +kernel
theorem dJ5_appendNull_278bc_1 : decode cJ5_appendNull_278bc 1 = .ok (.aload_n 0, 1) := by decide +kernel
theorem dJ5_appendNull_278bc_2 : decode cJ5_appendNull_278bc 2 = .ok (.getfield 79, 3) := by decide +kernel
theorem dJ5_appendNull_278bc_5 : decode cJ5_appendNull_278bc 5 = .ok (.iconst 4, 1) := by decide +kernel
theorem dJ5_appendNull_278bc_6 : decode cJ5_appendNull_278bc 6 = .ok (.iadd, 1) := by decide +kernel
theorem dJ5_appendNull_278bc_7 : decode cJ5_appendNull_278bc 7 = .ok (.invokevirtual 100, 3) := by decide +kernel
theorem dJ5_appendNull_278bc_10 : decode cJ5_appendNull_278bc 10 = .ok (.aload_n 0, 1) := by decide +kernel
theorem dJ5_appendNull_278bc_11 : decode cJ5_appendNull_278bc 11 = .ok (.getfield 79, 3) := by decide +kernel
theorem dJ5_appendNull_278bc_14 : decode cJ5_appendNull_278bc 14 = .ok (.istore_n 1, 1) := by decide +kernel
theorem dJ5_appendNull_278bc_15 : decode cJ5_appendNull_278bc 15 = .ok (.aload_n 0, 1) := by decide +kernel
theorem dJ5_appendNull_278bc_16 : decode cJ5_appendNull_278bc 16 = .ok (.getfield 15, 3) := by decide +kernel
theorem dJ5_appendNull_278bc_19 : decode cJ5_appendNull_278bc 19 = .ok (.astore_n 2, 1) := by decide +kernel
theorem dJ5_appendNull_278bc_20 : decode cJ5_appendNull_278bc 20 = .ok (.aload_n 0, 1) := by decide +kernel
theorem dJ5_appendNull_278bc_21 : decode cJ5_appendNull_278bc 21 = .ok (.invokevirtual 83, 3) := by decide +kernel
theorem dJ5_appendNull_278bc_24 : decode cJ5_appendNull_278bc 24 = .ok (.ifCond .eq 38, 3) := by decide +kernel
theorem dJ5_appendNull_278bc_27 : decode cJ5_appendNull_278bc 27 = .ok (.aload_n 2, 1) := by decide +kernel
theorem dJ5_appendNull_278bc_28 : decode cJ5_appendNull_278bc 28 = .ok (.iload_n 1, 1) := by decide +kernel
theorem dJ5_appendNull_278bc_29 : decode cJ5_appendNull_278bc 29 = .ok (.iinc 1 1, 3) := by decide +kernel
theorem dJ5_appendNull_278bc_32 : decode cJ5_appendNull_278bc 32 = .ok (.bipush 110, 2) := by decide +kernel
theorem dJ5_appendNull_278bc_34 : decode cJ5_appendNull_278bc 34 = .ok (.bastore, 1) := by decide +kernel
theorem dJ5_appendNull_278bc_35 : decode cJ5_appendNull_278bc 35 = .ok (.aload_n 2, 1) := by decide +kernel
theorem dJ5_appendNull_278bc_36 : decode cJ5_appendNull_278bc 36 = .ok (.iload_n 1, 1) := by decide +kernel
theorem dJ5_appendNull_278bc_37 : decode cJ5_appendNull_278bc 37 = .ok (.iinc 1 1, 3) := by decide +kernel
theorem dJ5_appendNull_278bc_40 : decode cJ5_appendNull_278bc 40 = .ok (.bipush 117, 2) := by decide +kernel
theorem dJ5_appendNull_278bc_42 : decode cJ5_appendNull_278bc 42 = .ok (.bastore, 1) := by decide +kernel
theorem dJ5_appendNull_278bc_43 : decode cJ5_appendNull_278bc 43 = .ok (.aload_n 2, 1) := by decide +kernel
theorem dJ5_appendNull_278bc_44 : decode cJ5_appendNull_278bc 44 = .ok (.iload_n 1, 1) := by decide +kernel
theorem dJ5_appendNull_278bc_45 : decode cJ5_appendNull_278bc 45 = .ok (.iinc 1 1, 3) := by decide +kernel
theorem dJ5_appendNull_278bc_48 : decode cJ5_appendNull_278bc 48 = .ok (.bipush 108, 2) := by decide +kernel
theorem dJ5_appendNull_278bc_50 : decode cJ5_appendNull_278bc 50 = .ok (.bastore, 1) := by decide +kernel
theorem dJ5_appendNull_278bc_51 : decode cJ5_appendNull_278bc 51 = .ok (.aload_n 2, 1) := by decide +kernel
theorem dJ5_appendNull_278bc_52 : decode cJ5_appendNull_278bc 52 = .ok (.iload_n 1, 1) := by decide +kernel
theorem dJ5_appendNull_278bc_53 : decode cJ5_appendNull_278bc 53 = .ok (.iinc 1 1, 3) := by decide +kernel
theorem dJ5_appendNull_278bc_56 : decode cJ5_appendNull_278bc 56 = .ok (.bipush 108, 2) := by decide +kernel
theorem dJ5_appendNull_278bc_58 : decode cJ5_appendNull_278bc 58 = .ok (.bastore, 1) := by decide +kernel
theorem dJ5_appendNull_278bc_59 : decode cJ5_appendNull_278bc 59 = .ok (.goto 17, 3) := by decide +kernel
theorem dJ5_appendNull_278bc_62 : decode cJ5_appendNull_278bc 62 = .ok (.aload_n 2, 1) := by decide +kernel
theorem dJ5_appendNull_278bc_63 : decode cJ5_appendNull_278bc 63 = .ok (.iload_n 1, 1) := by decide +kernel
theorem dJ5_appendNull_278bc_64 : decode cJ5_appendNull_278bc 64 = .ok (.bipush 110, 2) := by decide +kernel
theorem dJ5_appendNull_278bc_66 : decode cJ5_appendNull_278bc 66 = .ok (.bipush 117, 2) := by decide +kernel
theorem dJ5_appendNull_278bc_68 : decode cJ5_appendNull_278bc 68 = .ok (.bipush 108, 2) := by decide +kernel
theorem dJ5_appendNull_278bc_70 : decode cJ5_appendNull_278bc 70 = .ok (.bipush 108, 2) := by decide +kernel
theorem dJ5_appendNull_278bc_72 : decode cJ5_appendNull_278bc 72 = .ok (.invokestatic 226, 3) := by decide +kernel
theorem dJ5_appendNull_278bc_75 : decode cJ5_appendNull_278bc 75 = .ok (.istore_n 1, 1) := by decide +kernel
theorem dJ5_appendNull_278bc_76 : decode cJ5_appendNull_278bc 76 = .ok (.aload_n 0, 1) := by decide +kernel
theorem dJ5_appendNull_278bc_77 : decode cJ5_appendNull_278bc 77 = .ok (.iload_n 1, 1) := by decide +kernel
theorem dJ5_appendNull_278bc_78 : decode cJ5_appendNull_278bc 78 = .ok (.putfield 79, 3) := by decide +kernel
theorem dJ5_appendNull_278bc_81 : decode cJ5_appendNull_278bc 81 = .ok (.aload_n 0, 1) := by decide +kernel
theorem dJ5_appendNull_278bc_82 : decode cJ5_appendNull_278bc 82 = .ok (.areturn, 1) := by decide +kernel
set_option maxRecDepth 20000 in
theorem ggJ5_append_3fe6f_J5_ensureCapacityInternal_d00df : GoodIn wsJ5_append_3fe6f wsJ5_ensureCapacityInternal_d00df := goodIn_r _ [8, 2, 9, 10, 11, 12, 13, 7, 14, 15, 16, 17, 18, 19, 20, 21, 22, 23, 24, 25, 26, 27, 28, 29, 30, 31, 32, 33, 34, 35, 36, 37, 38, 39, 40, 41, 42, 43, 44, 45, 108, 109, 110, 111] (by decide +kernel) (by decide +kernel)
set_option maxRecDepth 20000 in
theorem gJ5_append_3fe6f_J5_ensureCapacityInternal_d00df_u100J4 : GoodIn wsJ5_append_3fe6f (va_wsU RJ5 100 RJ4 "java/lang/AbstractStringBuilder" ⟨"java/lang/AbstractStringBuilder", "ensureCapacityInternal", "(I)V"⟩ yJ5_ensureCapacityInternal_d00df wsJ5_ensureCapacityInternal_d00df) := goodIn_app (goodIn_of _ (by decide +kernel)) ggJ5_append_3fe6f_J5_ensureCapacityInternal_d00df
set_option maxRecDepth 20000 in
theorem ggJ5_append_3fe6f_J5_isLatin1_aae02 : GoodIn wsJ5_append_3fe6f wsJ5_isLatin1_aae02 := goodIn_r _ [50, 51, 9, 108, 109, 110, 111] (by decide +kernel) (by decide +kernel)
set_option maxRecDepth 20000 in
theorem gJ5_append_3fe6f_J5_isLatin1_aae02_u83J4 : GoodIn wsJ5_append_3fe6f (va_wsU RJ5 83 RJ4 "java/lang/AbstractStringBuilder" ⟨"java/lang/AbstractStringBuilder", "isLatin1", "()Z"⟩ yJ5_isLatin1_aae02 wsJ5_isLatin1_aae02) := goodIn_app (goodIn_of _ (by decide +kernel)) ggJ5_append_3fe6f_J5_isLatin1_aae02
set_option maxRecDepth 20000 in
theorem ggJ5_append_3fe6f_J1_canEncode_fc78d : GoodIn wsJ5_append_3fe6f wsJ1_canEncode_fc78d := goodIn_r _ [55] (by decide +kernel) (by decide +kernel)
set_option maxRecDepth 20000 in
theorem gJ5_append_3fe6f_J1_canEncode_fc78d : GoodIn wsJ5_append_3fe6f (va_wsS RJ5 191 yJ1_canEncode_fc78d wsJ1_canEncode_fc78d) := goodIn_app (goodIn_of _ (by decide +kernel)) ggJ5_append_3fe6f_J1_canEncode_fc78d
set_option maxRecDepth 20000 in
theorem ggJ5_append_3fe6f_J5_inflate_da8c8 : GoodIn wsJ5_append_3fe6f wsJ5_inflate_da8c8 := goodIn_r _ [60, 2, 1, 9, 46, 47, 48, 49, 7, 50, 51, 61, 62, 63, 64, 38, 65, 66, 67, 68, 69, 70, 54, 71, 72, 73, 74, 75, 76, 77, 78, 79, 80, 81, 82, 83, 84, 85, 86, 87, 88, 89, 90, 91, 92, 93, 94, 95, 108, 109, 110, 111] (by decide +kernel) (by decide +kernel)
set_option maxRecDepth 20000 in
theorem gJ5_append_3fe6f_J5_inflate_da8c8_u195J4 : GoodIn wsJ5_append_3fe6f (va_wsU RJ5 195 RJ4 "java/lang/AbstractStringBuilder" ⟨"java/lang/AbstractStringBuilder", "inflate", "()V"⟩ yJ5_inflate_da8c8 wsJ5_inflate_da8c8) := goodIn_app (goodIn_of _ (by decide +kernel)) ggJ5_append_3fe6f_J5_inflate_da8c8
set_option maxRecDepth 20000 in
theorem ggJ5_append_3fe6f_J2_putCharSB_b72d1 : GoodIn wsJ5_append_3fe6f wsJ2_putCharSB_b72d1 := goodIn_r _ [98, 99, 100, 63, 101, 78, 79, 80, 102, 103, 83, 104, 85, 105, 106, 88, 107, 90, 91, 92, 93, 94, 95] (by decide +kernel) (by decide +kernel)
set_option maxRecDepth 20000 in
theorem gJ5_append_3fe6f_J2_putCharSB_b72d1 : GoodIn wsJ5_append_3fe6f (va_wsS RJ5 197 yJ2_putCharSB_b72d1 wsJ2_putCharSB_b72d1) := goodIn_app (goodIn_of _ (by decide +kernel)) ggJ5_append_3fe6f_J2_putCharSB_b72d1
theorem dJ5_append_3fe6f_0 : decode cJ5_append_3fe6f 0 = .ok (.aload_n 0, 1) := by decide +kernel
theorem dJ5_append_3fe6f_1 : decode cJ5_append_3fe6f 1 = .ok (.aload_n 0, 1) := by decide +kernel
theorem dJ5_append_3fe6f_2 : decode cJ5_append_3fe6f 2 = .ok (.getfield 79, 3) := by decide +kernel
theorem dJ5_append_3fe6f_5 : decode cJ5_append_3fe6f 5 = .ok (.iconst 1, 1) := by decide +kernel
theorem dJ5_append_3fe6f_6 : decode cJ5_append_3fe6f 6 = .ok (.iadd, 1) := by decide +kernel
theorem dJ5_append_3fe6f_7 : decode cJ5_append_3fe6f 7 = .ok (.invokevirtual 100, 3) := by decide +kernel
theorem dJ5_append_3fe6f_10 : decode cJ5_append_3fe6f 10 = .ok (.aload_n 0, 1) := by decide +kernel
theorem dJ5_append_3fe6f_11 : decode cJ5_append_3fe6f 11 = .ok (.invokevirtual 83, 3) := by decide +kernel
theorem dJ5_append_3fe6f_14 : decode cJ5_append_3fe6f 14 = .ok (.ifCond .eq 31, 3) := by decide +kernel
theorem dJ5_append_3fe6f_17 : decode cJ5_append_3fe6f 17 = .ok (.iload_n 1, 1) := by decide +kernel
theorem dJ5_append_3fe6f_18 : decode cJ5_append_3fe6f 18 = .ok (.invokestatic 191, 3) := by decide +kernel
theorem dJ5_append_3fe6f_21 : decode cJ5_append_3fe6f 21 = .ok (.ifCond .eq 24, 3) := by decide +kernel
theorem dJ5_append_3fe6f_24 : decode cJ5_append_3fe6f 24 = .ok (.aload_n 0, 1) := by decide +kernel
theorem dJ5_append_3fe6f_25 : decode cJ5_append_3fe6f 25 = .ok (.getfield 15, 3) := by decide +kernel
theorem dJ5_append_3fe6f_28 : decode cJ5_append_3fe6f 28 = .ok (.aload_n 0, 1) := by decide +kernel
theorem dJ5_append_3fe6f_29 : decode cJ5_append_3fe6f 29 = .ok (.dup, 1) := by decide +kernel
theorem dJ5_append_3fe6f_30 : decode cJ5_append_3fe6f 30 = .ok (.getfield 79, 3) := by decide +kernel
theorem dJ5_append_3fe6f_33 : decode cJ5_append_3fe6f 33 = .ok (.dup_x1, 1) := by decide +kernel
theorem dJ5_append_3fe6f_34 : decode cJ5_append_3fe6f 34 = .ok (.iconst 1, 1) := by decide +kernel
theorem dJ5_append_3fe6f_35 : decode cJ5_append_3fe6f 35 = .ok (.iadd, 1) := by decide +kernel
theorem dJ5_append_3fe6f_36 : decode cJ5_append_3fe6f 36 = .ok (.putfield 79, 3) := by decide +kernel
theorem dJ5_append_3fe6f_39 : decode cJ5_append_3fe6f 39 = .ok (.iload_n 1, 1) := by decide +kernel
theorem dJ5_append_3fe6f_40 : decode cJ5_append_3fe6f 40 = .ok (.i2b, 1) := by decide +kernel
theorem dJ5_append_3fe6f_41 : decode cJ5_append_3fe6f 41 = .ok (.bastore, 1) := by decide +kernel
theorem dJ5_append_3fe6f_42 : decode cJ5_append_3fe6f 42 = .ok (.goto 33, 3) := by decide +kernel
theorem dJ5_append_3fe6f_45 : decode cJ5_append_3fe6f 45 = .ok (.aload_n 0, 1) := by decide +kernel
theorem dJ5_append_3fe6f_46 : decode cJ5_append_3fe6f 46 = .ok (.invokevirtual 83, 3) := by decide +kernel
theorem dJ5_append_3fe6f_49 : decode cJ5_append_3fe6f 49 = .ok (.ifCond .eq 7, 3) := by decide +kernel
theorem dJ5_append_3fe6f_52 : decode cJ5_append_3fe6f 52 = .ok (.aload_n 0, 1) := by decide +kernel
theorem dJ5_append_3fe6f_53 : decode cJ5_append_3fe6f 53 = .ok (.invokevirtual 195, 3) := by decide +kernel
theorem dJ5_append_3fe6f_56 : decode cJ5_append_3fe6f 56 = .ok (.aload_n 0, 1) := by decide +kernel
theorem dJ5_append_3fe6f_57 : decode cJ5_append_3fe6f 57 = .ok (.getfield 15, 3) := by decide +kernel
theorem dJ5_append_3fe6f_60 : decode cJ5_append_3fe6f 60 = .ok (.aload_n 0, 1) := by decide +kernel
theorem dJ5_append_3fe6f_61 : decode cJ5_append_3fe6f 61 = .ok (.dup, 1) := by decide +kernel
theorem dJ5_append_3fe6f_62 : decode cJ5_append_3fe6f 62 = .ok (.getfield 79, 3) := by decide +kernel
theorem dJ5_append_3fe6f_65 : decode cJ5_append_3fe6f 65 = .ok (.dup_x1, 1) := by decide +kernel
theorem dJ5_append_3fe6f_66 : decode cJ5_append_3fe6f 66 = .ok (.iconst 1, 1) := by decide +kernel
theorem dJ5_append_3fe6f_67 : decode cJ5_append_3fe6f 67 = .ok (.iadd, 1) := by decide +kernel
theorem dJ5_append_3fe6f_68 : decode cJ5_append_3fe6f 68 = .ok (.putfield 79, 3) := by decide +kernel
theorem dJ5_append_3fe6f_71 : decode cJ5_append_3fe6f 71 = .ok (.iload_n 1, 1) := by decide +kernel
theorem dJ5_append_3fe6f_72 : decode cJ5_append_3fe6f 72 = .ok (.invokestatic 197, 3) := by decide +kernel
theorem dJ5_append_3fe6f_75 : decode cJ5_append_3fe6f 75 = .ok (.aload_n 0, 1) := by decide +kernel
theorem dJ5_append_3fe6f_76 : decode cJ5_append_3fe6f 76 = .ok (.areturn, 1) := by decide +kernel
set_option maxRecDepth 20000 in
theorem ggJ5_append_c97b9_J6_stringSize_0f7a4 : GoodIn wsJ5_append_c97b9 wsJ6_stringSize_0f7a4 := goodIn_r _ [6] (by decide +kernel) (by decide +kernel)
set_option maxRecDepth 20000 in
theorem gJ5_append_c97b9_J6_stringSize_0f7a4 : GoodIn wsJ5_append_c97b9 (va_wsS RJ5 245 yJ6_stringSize_0f7a4 wsJ6_stringSize_0f7a4) := goodIn_app (goodIn_of _ (by decide +kernel)) ggJ5_append_c97b9_J6_stringSize_0f7a4
set_option maxRecDepth 20000 in
theorem ggJ5_append_c97b9_J5_ensureCapacityInternal_d00df : GoodIn wsJ5_append_c97b9 wsJ5_ensureCapacityInternal_d00df := goodIn_r _ [12, 2, 13, 14, 15, 16, 17, 11, 18, 19, 20, 21, 22, 23, 24, 25, 26, 27, 28, 29, 30, 31, 32, 33, 34, 35, 36, 37, 38, 39, 40, 41, 42, 43, 44, 45, 46, 47, 48, 49, 91, 92, 93, 94] (by decide +kernel) (by decide +kernel)
set_option maxRecDepth 20000 in
theorem gJ5_append_c97b9_J5_ensureCapacityInternal_d00df_u100J4 : GoodIn wsJ5_append_c97b9 (va_wsU RJ5 100 RJ4 "java/lang/AbstractStringBuilder" ⟨"java/lang/AbstractStringBuilder", "ensureCapacityInternal", "(I)V"⟩ yJ5_ensureCapacityInternal_d00df wsJ5_ensureCapacityInternal_d00df) := goodIn_app (goodIn_of _ (by decide +kernel)) ggJ5_append_c97b9_J5_ensureCapacityInternal_d00df
set_option maxRecDepth 20000 in
theorem ggJ5_append_c97b9_J5_isLatin1_aae02 : GoodIn wsJ5_append_c97b9 wsJ5_isLatin1_aae02 := goodIn_r _ [54, 55, 13, 91, 92, 93, 94] (by decide +kernel) (by decide +kernel)
set_option maxRecDepth 20000 in
theorem gJ5_append_c97b9_J5_isLatin1_aae02_u83J4 : GoodIn wsJ5_append_c97b9 (va_wsU RJ5 83 RJ4 "java/lang/AbstractStringBuilder" ⟨"java/lang/AbstractStringBuilder", "isLatin1", "()Z"⟩ yJ5_isLatin1_aae02 wsJ5_isLatin1_aae02) := goodIn_app (goodIn_of _ (by decide +kernel)) ggJ5_append_c97b9_J5_isLatin1_aae02
set_option maxRecDepth 20000 in
theorem ggJ5_append_c97b9_J6_getChars_ba4f3 : GoodIn wsJ5_append_c97b9 wsJ6_getChars_ba4f3 := goodIn_r _ [58, 59, 60] (by decide +kernel) (by decide +kernel)
set_option maxRecDepth 20000 in
theorem gJ5_append_c97b9_J6_getChars_ba4f3 : GoodIn wsJ5_append_c97b9 (va_wsS RJ5 248 yJ6_getChars_ba4f3 wsJ6_getChars_ba4f3) := goodIn_app (goodIn_of _ (by decide +kernel)) ggJ5_append_c97b9_J6_getChars_ba4f3
set_option maxRecDepth 20000 in
theorem ggJ5_append_c97b9_J2_getChars_46870 : GoodIn wsJ5_append_c97b9 wsJ2_getChars_46870 := goodIn_r _ [64, 65, 66, 67, 63, 68, 69, 70, 71, 72, 73, 74, 75, 76, 77, 78, 79, 80, 81, 82, 83, 84, 85, 86, 87, 88, 89, 90] (by decide +kernel) (by decide +kernel)
set_option maxRecDepth 20000 in
theorem gJ5_append_c97b9_J2_getChars_46870 : GoodIn wsJ5_append_c97b9 (va_wsS RJ5 251 yJ2_getChars_46870 wsJ2_getChars_46870) := goodIn_app (goodIn_of _ (by decide +kernel)) ggJ5_append_c97b9_J2_getChars_46870
theorem dJ5_append_c97b9_0 : decode cJ5_append_c97b9 0 = .ok (.aload_n 0, 1) := by decide +kernel
theorem dJ5_append_c97b9_1 : decode cJ5_append_c97b9 1 = .ok (.getfield 79, 3) := by decide +kernel
theorem dJ5_append_c97b9_4 : decode cJ5_append_c97b9 4 = .ok (.istore_n 2, 1) := by decide +kernel
theorem dJ5_append_c97b9_5 : decode cJ5_append_c97b9 5 = .ok (.iload_n 2, 1) := by decide +kernel
theorem dJ5_append_c97b9_6 : decode cJ5_append_c97b9 6 = .ok (.iload_n 1, 1) := by decide +kernel
theorem dJ5_append_c97b9_7 : decode cJ5_append_c97b9 7 = .ok (.invokestatic 245, 3) := by decide +kernel
theorem dJ5_append_c97b9_10 : decode cJ5_append_c97b9 10 = .ok (.iadd, 1) := by decide +kernel
theorem dJ5_append_c97b9_11 : decode cJ5_append_c97b9 11 = .ok (.istore_n 3, 1) := by decide +kernel
theorem dJ5_append_c97b9_12 : decode cJ5_append_c97b9 12 = .ok (.aload_n 0, 1) := by decide +kernel
theorem dJ5_append_c97b9_13 : decode cJ5_append_c97b9 13 = .ok (.iload_n 3, 1) := by decide +kernel
theorem dJ5_append_c97b9_14 : decode cJ5_append_c97b9 14 = .ok (.invokevirtual 100, 3) := by decide +kernel
theorem dJ5_append_c97b9_17 : decode cJ5_append_c97b9 17 = .ok (.aload_n 0, 1) := by decide +kernel
theorem dJ5_append_c97b9_18 : decode cJ5_append_c97b9 18 = .ok (.invokevirtual 83, 3) := by decide +kernel
theorem dJ5_append_c97b9_21 : decode cJ5_append_c97b9 21 = .ok (.ifCond .eq 16, 3) := by decide +kernel
theorem dJ5_append_c97b9_24 : decode cJ5_append_c97b9 24 = .ok (.iload_n 1, 1) := by decide +kernel
theorem dJ5_append_c97b9_25 : decode cJ5_append_c97b9 25 = .ok (.iload_n 3, 1) := by decide +kernel
theorem dJ5_append_c97b9_26 : decode cJ5_append_c97b9 26 = .ok (.aload_n 0, 1) := by decide +kernel
theorem dJ5_append_c97b9_27 : decode cJ5_append_c97b9 27 = .ok (.getfield 15, 3) := by decide +kernel
theorem dJ5_append_c97b9_30 : decode cJ5_append_c97b9 30 = .ok (.invokestatic 248, 3) := by decide +kernel
theorem dJ5_append_c97b9_33 : decode cJ5_append_c97b9 33 = .ok (.pop, 1) := by decide +kernel
theorem dJ5_append_c97b9_34 : decode cJ5_append_c97b9 34 = .ok (.goto 14, 3) := by decide +kernel
theorem dJ5_append_c97b9_37 : decode cJ5_append_c97b9 37 = .ok (.iload_n 1, 1) := by decide +kernel
theorem dJ5_append_c97b9_38 : decode cJ5_append_c97b9 38 = .ok (.iload_n 2, 1) := by decide +kernel
theorem dJ5_append_c97b9_39 : decode cJ5_append_c97b9 39 = .ok (.iload_n 3, 1) := by decide +kernel
theorem dJ5_append_c97b9_40 : decode cJ5_append_c97b9 40 = .ok (.aload_n 0, 1) := by decide +kernel
theorem dJ5_append_c97b9_41 : decode cJ5_append_c97b9 41 = .ok (.getfield 15, 3) := by decide +kernel
theorem dJ5_append_c97b9_44 : decode cJ5_append_c97b9 44 = .ok (.invokestatic 251, 3) := by decide +kernel
theorem dJ5_append_c97b9_47 : decode cJ5_append_c97b9 47 = .ok (.pop, 1) := by decide +kernel
theorem dJ5_append_c97b9_48 : decode cJ5_append_c97b9 48 = .ok (.aload_n 0, 1) := by decide +kernel
theorem dJ5_append_c97b9_49 : decode cJ5_append_c97b9 49 = .ok (.iload_n 3, 1) := by decide +kernel
theorem dJ5_append_c97b9_50 : decode cJ5_append_c97b9 50 = .ok (.putfield 79, 3) := by decide +kernel
theorem dJ5_append_c97b9_53 : decode cJ5_append_c97b9 53 = .ok (.aload_n 0, 1) := by decide +kernel
theorem dJ5_append_c97b9_54 : decode cJ5_append_c97b9 54 = .ok (.areturn, 1) := by decide +kernel
theorem dJ5_isLatin1_aae02_0 : decode cJ5_isLatin1_aae02 0 = .ok (.getstatic 18, 3) := by decide +kernel
theorem dJ5_isLatin1_aae02_3 : decode cJ5_isLatin1_aae02 3 = .ok (.ifCond .eq 14, 3) := by decide +kernel
theorem dJ5_isLatin1_aae02_6 : decode cJ5_isLatin1_aae02 6 = .ok (.aload_n 0, 1) := by decide +kernel
theorem dJ5_isLatin1_aae02_7 : decode cJ5_isLatin1_aae02 7 = .ok (.getfield 22, 3) := by decide +kernel
theorem dJ5_isLatin1_aae02_10 : decode cJ5_isLatin1_aae02 10 = .ok (.ifCond .ne 7, 3) := by decide +kernel
theorem dJ5_isLatin1_aae02_13 : decode cJ5_isLatin1_aae02 13 = .ok (.iconst 1, 1) := by decide +kernel
theorem dJ5_isLatin1_aae02_14 : decode cJ5_isLatin1_aae02 14 = .ok (.goto 4, 3) := by decide +kernel
theorem dJ5_isLatin1_aae02_17 : decode cJ5_isLatin1_aae02 17 = .ok (.iconst 0, 1) := by decide +kernel
theorem dJ5_isLatin1_aae02_18 : decode cJ5_isLatin1_aae02 18 = .ok (.ireturn, 1) := by decide +kernel
set_option maxRecDepth 20000 in
theorem ggJ5_inflateIfNeededFor_a7421_J0_coder_7d493 : GoodIn wsJ5_inflateIfNeededFor_a7421 wsJ0_coder_7d493 := goodIn_r _ [7, 8, 9] (by decide +kernel) (by decide +kernel)
set_option maxRecDepth 20000 in
theorem gJ5_inflateIfNeededFor_a7421_J0_coder_7d493 : GoodIn wsJ5_inflateIfNeededFor_a7421 (wsV RJ5 40 RJ0 yJ0_coder_7d493 wsJ0_coder_7d493) := goodIn_app (goodIn_of _ (by decide +kernel)) ggJ5_inflateIfNeededFor_a7421_J0_coder_7d493
set_option maxRecDepth 20000 in
theorem ggJ5_inflateIfNeededFor_a7421_J5_inflate_da8c8 : GoodIn wsJ5_inflateIfNeededFor_a7421 wsJ5_inflate_da8c8 := goodIn_r _ [15, 16, 17, 2, 18, 19, 20, 21, 14, 22, 1, 23, 24, 25, 26, 27, 28, 29, 30, 31, 32, 33, 34, 35, 36, 37, 38, 39, 40, 41, 42, 43, 44, 45, 46, 6, 47, 48, 49, 50, 51, 52, 53, 54, 55, 56, 57, 58, 59, 60, 61, 62] (by decide +kernel) (by decide +kernel)
set_option maxRecDepth 20000 in
theorem gJ5_inflateIfNeededFor_a7421_J5_inflate_da8c8_u195J4 : GoodIn wsJ5_inflateIfNeededFor_a7421 (va_wsU RJ5 195 RJ4 "java/lang/AbstractStringBuilder" ⟨"java/lang/AbstractStringBuilder", "inflate", "()V"⟩ yJ5_inflate_da8c8 wsJ5_inflate_da8c8) := goodIn_app (goodIn_of _ (by decide +kernel)) ggJ5_inflateIfNeededFor_a7421_J5_inflate_da8c8
theorem dJ5_inflateIfNeededFor_a7421_0 : decode cJ5_inflateIfNeededFor_a7421 0 = .ok (.getstatic 18, 3) := by decide +kernel
theorem dJ5_inflateIfNeededFor_a7421_3 : decode cJ5_inflateIfNeededFor_a7421 3 = .ok (.ifCond .eq 18, 3) := by decide +kernel
theorem dJ5_inflateIfNeededFor_a7421_6 : decode cJ5_inflateIfNeededFor_a7421 6 = .ok (.aload_n 0, 1) := by decide +kernel
theorem dJ5_inflateIfNeededFor_a7421_7 : decode cJ5_inflateIfNeededFor_a7421 7 = .ok (.getfield 22, 3) := by decide +kernel
theorem dJ5_inflateIfNeededFor_a7421_10 : decode cJ5_inflateIfNeededFor_a7421 10 = .ok (.aload_n 1, 1) := by decide +kernel
theorem dJ5_inflateIfNeededFor_a7421_11 : decode cJ5_inflateIfNeededFor_a7421 11 = .ok (.invokevirtual 40, 3) := by decide +kernel
theorem dJ5_inflateIfNeededFor_a7421_14 : decode cJ5_inflateIfNeededFor_a7421 14 = .ok (.if_icmp .eq 7, 3) := by decide +kernel
theorem dJ5_inflateIfNeededFor_a7421_17 : decode cJ5_inflateIfNeededFor_a7421 17 = .ok (.aload_n 0, 1) := by decide +kernel
theorem dJ5_inflateIfNeededFor_a7421_18 : decode cJ5_inflateIfNeededFor_a7421 18 = .ok (.invokevirtual 195, 3) := by decide +kernel
theorem dJ5_inflateIfNeededFor_a7421_21 : decode cJ5_inflateIfNeededFor_a7421 21 = .ok (.return_, 1) := by decide +kernel
set_option maxRecDepth 20000 in
theorem ggJ5_putStringAt_47b60_J5_inflateIfNeededFor_a7421 : GoodIn wsJ5_putStringAt_47b60 wsJ5_inflateIfNeededFor_a7421 := goodIn_r _ [8, 9, 2, 10, 11, 12, 13, 14, 15, 16, 17, 18, 19, 20, 7, 21, 1, 22, 23, 24, 25, 26, 27, 28, 29, 30, 31, 32, 33, 34, 35, 36, 37, 38, 39, 40, 41, 42, 43, 44, 45, 46, 47, 48, 49, 50, 51, 52, 53, 54, 55, 56, 57, 58, 59, 60, 61, 62, 63, 75, 76, 77, 78] (by decide +kernel) (by decide +kernel)
set_option maxRecDepth 20000 in
theorem gJ5_putStringAt_47b60_J5_inflateIfNeededFor_a7421_u397J4 : GoodIn wsJ5_putStringAt_47b60 (va_wsU RJ5 397 RJ4 "java/lang/AbstractStringBuilder" ⟨"java/lang/AbstractStringBuilder", "inflateIfNeededFor", "(Ljava/lang/String;)V"⟩ yJ5_inflateIfNeededFor_a7421 wsJ5_inflateIfNeededFor_a7421) := goodIn_app (goodIn_of _ (by decide +kernel)) ggJ5_putStringAt_47b60_J5_inflateIfNeededFor_a7421
set_option maxRecDepth 20000 in
theorem ggJ5_putStringAt_47b60_J0_getBytes_840e7 : GoodIn wsJ5_putStringAt_47b60 wsJ0_getBytes_840e7 := goodIn_r _ [67, 68, 69, 70, 71, 72, 73, 11, 12, 13, 14, 15, 16, 74, 38, 39, 40, 41, 42, 30, 43, 44, 45, 46, 47, 48, 49, 50, 51, 52, 53, 54, 55, 56, 57, 58, 59, 60, 61, 62, 63] (by decide +kernel) (by decide +kernel)
set_option maxRecDepth 20000 in
theorem gJ5_putStringAt_47b60_J0_getBytes_840e7 : GoodIn wsJ5_putStringAt_47b60 (wsV RJ5 399 RJ0 yJ0_getBytes_840e7 wsJ0_getBytes_840e7) := goodIn_app (goodIn_of _ (by decide +kernel)) ggJ5_putStringAt_47b60_J0_getBytes_840e7
theorem dJ5_putStringAt_47b60_0 : decode cJ5_putStringAt_47b60 0 = .ok (.aload_n 0, 1) := by decide +kernel
theorem dJ5_putStringAt_47b60_1 : decode cJ5_putStringAt_47b60 1 = .ok (.aload_n 2, 1) := by decide +kernel
theorem dJ5_putStringAt_47b60_2 : decode cJ5_putStringAt_47b60 2 = .ok (.invokevirtual 397, 3) := by decide +kernel
theorem dJ5_putStringAt_47b60_5 : decode cJ5_putStringAt_47b60 5 = .ok (.aload_n 2, 1) := by decide +kernel
theorem dJ5_putStringAt_47b60_6 : decode cJ5_putStringAt_47b60 6 = .ok (.aload_n 0, 1) := by decide +kernel
theorem dJ5_putStringAt_47b60_7 : decode cJ5_putStringAt_47b60 7 = .ok (.getfield 15, 3) := by decide +kernel
theorem dJ5_putStringAt_47b60_10 : decode cJ5_putStringAt_47b60 10 = .ok (.iload_n 1, 1) := by decide +kernel
theorem dJ5_putStringAt_47b60_11 : decode cJ5_putStringAt_47b60 11 = .ok (.aload_n 0, 1) := by decide +kernel
theorem dJ5_putStringAt_47b60_12 : decode cJ5_putStringAt_47b60 12 = .ok (.getfield 22, 3) := by decide +kernel
theorem dJ5_putStringAt_47b60_15 : decode cJ5_putStringAt_47b60 15 = .ok (.invokevirtual 399, 3) := by decide +kernel
theorem dJ5_putStringAt_47b60_18 : decode cJ5_putStringAt_47b60 18 = .ok (.return_, 1) := by decide +kernel
theorem dJ6_getChars_ba4f3_0 : decode cJ6_getChars_ba4f3 0 = .ok (.iload_n 1, 1) := by decide +kernel
theorem dJ6_getChars_ba4f3_1 : decode cJ6_getChars_ba4f3 1 = .ok (.istore 5, 2) := by decide +kernel
theorem dJ6_getChars_ba4f3_3 : decode cJ6_getChars_ba4f3 3 = .ok (.iload_n 0, 1) := by decide +kernel
theorem dJ6_getChars_ba4f3_4 : decode cJ6_getChars_ba4f3 4 = .ok (.ifCond .ge 7, 3) := by decide +kernel
theorem dJ6_getChars_ba4f3_7 : decode cJ6_getChars_ba4f3 7 = .ok (.iconst 1, 1) := by decide +kernel
theorem dJ6_getChars_ba4f3_8 : decode cJ6_getChars_ba4f3 8 = .ok (.goto 4, 3) := by decide +kernel
theorem dJ6_getChars_ba4f3_11 : decode cJ6_getChars_ba4f3 11 = .ok (.iconst 0, 1) := by decide +kernel
theorem dJ6_getChars_ba4f3_12 : decode cJ6_getChars_ba4f3 12 = .ok (.istore 6, 2) := by decide +kernel
theorem dJ6_getChars_ba4f3_14 : decode cJ6_getChars_ba4f3 14 = .ok (.iload 6, 2) := by decide +kernel
theorem dJ6_getChars_ba4f3_16 : decode cJ6_getChars_ba4f3 16 = .ok (.ifCond .ne 6, 3) := by decide +kernel
theorem dJ6_getChars_ba4f3_19 : decode cJ6_getChars_ba4f3 19 = .ok (.iload_n 0, 1) := by decide +kernel
theorem dJ6_getChars_ba4f3_20 : decode cJ6_getChars_ba4f3 20 = .ok (.ineg, 1) := by decide +kernel
theorem dJ6_getChars_ba4f3_21 : decode cJ6_getChars_ba4f3 21 = .ok (.istore_n 0, 1) := by decide +kernel
theorem dJ6_getChars_ba4f3_22 : decode cJ6_getChars_ba4f3 22 = .ok (.iload_n 0, 1) := by decide +kernel
theorem dJ6_getChars_ba4f3_23 : decode cJ6_getChars_ba4f3 23 = .ok (.bipush (-100), 2) := by decide +kernel
theorem dJ6_getChars_ba4f3_25 : decode cJ6_getChars_ba4f3 25 = .ok (.if_icmp .gt 47, 3) := by decide +kernel
theorem dJ6_getChars_ba4f3_28 : decode cJ6_getChars_ba4f3 28 = .ok (.iload_n 0, 1) := by decide +kernel
theorem dJ6_getChars_ba4f3_29 : decode cJ6_getChars_ba4f3 29 = .ok (.bipush 100, 2) := by decide +kernel
theorem dJ6_getChars_ba4f3_31 : decode cJ6_getChars_ba4f3 31 = .ok (.idiv, 1) := by decide +kernel
theorem dJ6_getChars_ba4f3_32 : decode cJ6_getChars_ba4f3 32 = .ok (.istore_n 3, 1) := by decide +kernel
theorem dJ6_getChars_ba4f3_33 : decode cJ6_getChars_ba4f3 33 = .ok (.iload_n 3, 1) := by decide +kernel
theorem dJ6_getChars_ba4f3_34 : decode cJ6_getChars_ba4f3 34 = .ok (.bipush 100, 2) := by decide +kernel
theorem dJ6_getChars_ba4f3_36 : decode cJ6_getChars_ba4f3 36 = .ok (.imul, 1) := by decide +kernel
theorem dJ6_getChars_ba4f3_37 : decode cJ6_getChars_ba4f3 37 = .ok (.iload_n 0, 1) := by decide +kernel
theorem dJ6_getChars_ba4f3_38 : decode cJ6_getChars_ba4f3 38 = .ok (.isub, 1) := by decide +kernel
theorem dJ6_getChars_ba4f3_39 : decode cJ6_getChars_ba4f3 39 = .ok (.istore 4, 2) := by decide +kernel
theorem dJ6_getChars_ba4f3_41 : decode cJ6_getChars_ba4f3 41 = .ok (.iload_n 3, 1) := by decide +kernel
theorem dJ6_getChars_ba4f3_42 : decode cJ6_getChars_ba4f3 42 = .ok (.istore_n 0, 1) := by decide +kernel
theorem dJ6_getChars_ba4f3_43 : decode cJ6_getChars_ba4f3 43 = .ok (.aload_n 2, 1) := by decide +kernel
theorem dJ6_getChars_ba4f3_44 : decode cJ6_getChars_ba4f3 44 = .ok (.iinc 5 (-1), 3) := by decide +kernel
theorem dJ6_getChars_ba4f3_47 : decode cJ6_getChars_ba4f3 47 = .ok (.iload 5, 2) := by decide +kernel
theorem dJ6_getChars_ba4f3_49 : decode cJ6_getChars_ba4f3 49 = .ok (.getstatic 83, 3) := by decide +kernel
theorem dJ6_getChars_ba4f3_52 : decode cJ6_getChars_ba4f3 52 = .ok (.iload 4, 2) := by decide +kernel
theorem dJ6_getChars_ba4f3_54 : decode cJ6_getChars_ba4f3 54 = .ok (.baload, 1) := by decide +kernel
theorem dJ6_getChars_ba4f3_55 : decode cJ6_getChars_ba4f3 55 = .ok (.bastore, 1) := by decide +kernel
theorem dJ6_getChars_ba4f3_56 : decode cJ6_getChars_ba4f3 56 = .ok (.aload_n 2, 1) := by decide +kernel
theorem dJ6_getChars_ba4f3_57 : decode cJ6_getChars_ba4f3 57 = .ok (.iinc 5 (-1), 3) := by decide +kernel
theorem dJ6_getChars_ba4f3_60 : decode cJ6_getChars_ba4f3 60 = .ok (.iload 5, 2) := by decide +kernel
theorem dJ6_getChars_ba4f3_62 : decode cJ6_getChars_ba4f3 62 = .ok (.getstatic 87, 3) := by decide +kernel
theorem dJ6_getChars_ba4f3_65 : decode cJ6_getChars_ba4f3 65 = .ok (.iload 4, 2) := by decide +kernel
theorem dJ6_getChars_ba4f3_67 : decode cJ6_getChars_ba4f3 67 = .ok (.baload, 1) := by decide +kernel
theorem dJ6_getChars_ba4f3_68 : decode cJ6_getChars_ba4f3 68 = .ok (.bastore, 1) := by decide +kernel
theorem dJ6_getChars_ba4f3_69 : decode cJ6_getChars_ba4f3 69 = .ok (.goto (-47), 3) := by decide +kernel
theorem dJ6_getChars_ba4f3_72 : decode cJ6_getChars_ba4f3 72 = .ok (.aload_n 2, 1) := by decide +kernel
theorem dJ6_getChars_ba4f3_73 : decode cJ6_getChars_ba4f3 73 = .ok (.iinc 5 (-1), 3) := by decide +kernel
theorem dJ6_getChars_ba4f3_76 : decode cJ6_getChars_ba4f3 76 = .ok (.iload 5, 2) := by decide +kernel
theorem dJ6_getChars_ba4f3_78 : decode cJ6_getChars_ba4f3 78 = .ok (.getstatic 83, 3) := by decide +kernel
theorem dJ6_getChars_ba4f3_81 : decode cJ6_getChars_ba4f3 81 = .ok (.iload_n 0, 1) := by decide +kernel
theorem dJ6_getChars_ba4f3_82 : decode cJ6_getChars_ba4f3 82 = .ok (.ineg, 1) := by decide +kernel
theorem dJ6_getChars_ba4f3_83 : decode cJ6_getChars_ba4f3 83 = .ok (.baload, 1) := by decide +kernel
theorem dJ6_getChars_ba4f3_84 : decode cJ6_getChars_ba4f3 84 = .ok (.bastore, 1) := by decide +kernel
theorem dJ6_getChars_ba4f3_85 : decode cJ6_getChars_ba4f3 85 = .ok (.iload_n 0, 1) := by decide +kernel
theorem dJ6_getChars_ba4f3_86 : decode cJ6_getChars_ba4f3 86 = .ok (.bipush (-9), 2) := by decide +kernel
theorem dJ6_getChars_ba4f3_88 : decode cJ6_getChars_ba4f3 88 = .ok (.if_icmp .ge 16, 3) := by decide +kernel
theorem dJ6_getChars_ba4f3_91 : decode cJ6_getChars_ba4f3 91 = .ok (.aload_n 2, 1) := by decide +kernel
theorem dJ6_getChars_ba4f3_92 : decode cJ6_getChars_ba4f3 92 = .ok (.iinc 5 (-1), 3) := by decide +kernel
theorem dJ6_getChars_ba4f3_95 : decode cJ6_getChars_ba4f3 95 = .ok (.iload 5, 2) := by decide +kernel
theorem dJ6_getChars_ba4f3_97 : decode cJ6_getChars_ba4f3 97 = .ok (.getstatic 87, 3) := by decide +kernel
theorem dJ6_getChars_ba4f3_100 : decode cJ6_getChars_ba4f3 100 = .ok (.iload_n 0, 1) := by decide +kernel
theorem dJ6_getChars_ba4f3_101 : decode cJ6_getChars_ba4f3 101 = .ok (.ineg, 1) := by decide +kernel
theorem dJ6_getChars_ba4f3_102 : decode cJ6_getChars_ba4f3 102 = .ok (.baload, 1) := by decide +kernel
theorem dJ6_getChars_ba4f3_103 : decode cJ6_getChars_ba4f3 103 = .ok (.bastore, 1) := by decide +kernel
theorem dJ6_getChars_ba4f3_104 : decode cJ6_getChars_ba4f3 104 = .ok (.iload 6, 2) := by decide +kernel
theorem dJ6_getChars_ba4f3_106 : decode cJ6_getChars_ba4f3 106 = .ok (.ifCond .eq 12, 3) := by decide +kernel
theorem dJ6_getChars_ba4f3_109 : decode cJ6_getChars_ba4f3 109 = .ok (.aload_n 2, 1) := by decide +kernel
theorem dJ6_getChars_ba4f3_110 : decode cJ6_getChars_ba4f3 110 = .ok (.iinc 5 (-1), 3) := by decide +kernel
theorem dJ6_getChars_ba4f3_113 : decode cJ6_getChars_ba4f3 113 = .ok (.iload 5, 2) := by decide +kernel
theorem dJ6_getChars_ba4f3_115 : decode cJ6_getChars_ba4f3 115 = .ok (.bipush 45, 2) := by decide +kernel
theorem dJ6_getChars_ba4f3_117 : decode cJ6_getChars_ba4f3 117 = .ok (.bastore, 1) := by decide +kernel
theorem dJ6_getChars_ba4f3_118 : decode cJ6_getChars_ba4f3 118 = .ok (.iload 5, 2) := by decide +kernel
theorem dJ6_getChars_ba4f3_120 : decode cJ6_getChars_ba4f3 120 = .ok (.ireturn, 1) := by decide +kernel
theorem dJ6_stringSize_0f7a4_0 : decode cJ6_stringSize_0f7a4 0 = .ok (.iconst 1, 1) := by decide +kernel
theorem dJ6_stringSize_0f7a4_1 : decode cJ6_stringSize_0f7a4 1 = .ok (.istore_n 1, 1) := by decide +kernel
theorem dJ6_stringSize_0f7a4_2 : decode cJ6_stringSize_0f7a4 2 = .ok (.iload_n 0, 1) := by decide +kernel
theorem dJ6_stringSize_0f7a4_3 : decode cJ6_stringSize_0f7a4 3 = .ok (.ifCond .lt 8, 3) := by decide +kernel
theorem dJ6_stringSize_0f7a4_6 : decode cJ6_stringSize_0f7a4 6 = .ok (.iconst 0, 1) := by decide +kernel
theorem dJ6_stringSize_0f7a4_7 : decode cJ6_stringSize_0f7a4 7 = .ok (.istore_n 1, 1) := by decide +kernel
theorem dJ6_stringSize_0f7a4_8 : decode cJ6_stringSize_0f7a4 8 = .ok (.iload_n 0, 1) := by decide +kernel
theorem dJ6_stringSize_0f7a4_9 : decode cJ6_stringSize_0f7a4 9 = .ok (.ineg, 1) := by decide +kernel
theorem dJ6_stringSize_0f7a4_10 : decode cJ6_stringSize_0f7a4 10 = .ok (.istore_n 0, 1) := by decide +kernel
theorem dJ6_stringSize_0f7a4_11 : decode cJ6_stringSize_0f7a4 11 = .ok (.bipush (-10), 2) := by decide +kernel
theorem dJ6_stringSize_0f7a4_13 : decode cJ6_stringSize_0f7a4 13 = .ok (.istore_n 2, 1) := by decide +kernel
theorem dJ6_stringSize_0f7a4_14 : decode cJ6_stringSize_0f7a4 14 = .ok (.iconst 1, 1) := by decide +kernel
theorem dJ6_stringSize_0f7a4_15 : decode cJ6_stringSize_0f7a4 15 = .ok (.istore_n 3, 1) := by decide +kernel
theorem dJ6_stringSize_0f7a4_16 : decode cJ6_stringSize_0f7a4 16 = .ok (.iload_n 3, 1) := by decide +kernel
theorem dJ6_stringSize_0f7a4_17 : decode cJ6_stringSize_0f7a4 17 = .ok (.bipush 10, 2) := by decide +kernel
theorem dJ6_stringSize_0f7a4_19 : decode cJ6_stringSize_0f7a4 19 = .ok (.if_icmp .ge 23, 3) := by decide +kernel
theorem dJ6_stringSize_0f7a4_22 : decode cJ6_stringSize_0f7a4 22 = .ok (.iload_n 0, 1) := by decide +kernel
theorem dJ6_stringSize_0f7a4_23 : decode cJ6_stringSize_0f7a4 23 = .ok (.iload_n 2, 1) := by decide +kernel
theorem dJ6_stringSize_0f7a4_24 : decode cJ6_stringSize_0f7a4 24 = .ok (.if_icmp .le 7, 3) := by decide +kernel
theorem dJ6_stringSize_0f7a4_27 : decode cJ6_stringSize_0f7a4 27 = .ok (.iload_n 3, 1) := by decide +kernel
theorem dJ6_stringSize_0f7a4_28 : decode cJ6_stringSize_0f7a4 28 = .ok (.iload_n 1, 1) := by decide +kernel
theorem dJ6_stringSize_0f7a4_29 : decode cJ6_stringSize_0f7a4 29 = .ok (.iadd, 1) := by decide +kernel
theorem dJ6_stringSize_0f7a4_30 : decode cJ6_stringSize_0f7a4 30 = .ok (.ireturn, 1) := by decide +kernel
theorem dJ6_stringSize_0f7a4_31 : decode cJ6_stringSize_0f7a4 31 = .ok (.bipush 10, 2) := by decide +kernel
theorem dJ6_stringSize_0f7a4_33 : decode cJ6_stringSize_0f7a4 33 = .ok (.iload_n 2, 1) := by decide +kernel
theorem dJ6_stringSize_0f7a4_34 : decode cJ6_stringSize_0f7a4 34 = .ok (.imul, 1) := by decide +kernel
theorem dJ6_stringSize_0f7a4_35 : decode cJ6_stringSize_0f7a4 35 = .ok (.istore_n 2, 1) := by decide +kernel
theorem dJ6_stringSize_0f7a4_36 : decode cJ6_stringSize_0f7a4 36 = .ok (.iinc 3 1, 3) := by decide +kernel
theorem dJ6_stringSize_0f7a4_39 : decode cJ6_stringSize_0f7a4 39 = .ok (.goto (-23), 3) := by decide +kernel
theorem dJ6_stringSize_0f7a4_42 : decode cJ6_stringSize_0f7a4 42 = .ok (.bipush 10, 2) := by decide +kernel
theorem dJ6_stringSize_0f7a4_44 : decode cJ6_stringSize_0f7a4 44 = .ok (.iload_n 1, 1) := by decide +kernel
theorem dJ6_stringSize_0f7a4_45 : decode cJ6_stringSize_0f7a4 45 = .ok (.iadd, 1) := by decide +kernel
theorem dJ6_stringSize_0f7a4_46 : decode cJ6_stringSize_0f7a4 46 = .ok (.ireturn, 1) := by decide +kernel
theorem dJ9_max_7cf53_0 : decode cJ9_max_7cf53 0 = .ok (.iload_n 0, 1) := by decide +kernel
theorem dJ9_max_7cf53_1 : decode cJ9_max_7cf53 1 = .ok (.iload_n 1, 1) := by decide +kernel
theorem dJ9_max_7cf53_2 : decode cJ9_max_7cf53 2 = .ok (.if_icmp .lt 7, 3) := by decide +kernel
theorem dJ9_max_7cf53_5 : decode cJ9_max_7cf53 5 = .ok (.iload_n 0, 1) := by decide +kernel
theorem dJ9_max_7cf53_6 : decode cJ9_max_7cf53 6 = .ok (.goto 4, 3) := by decide +kernel
theorem dJ9_max_7cf53_9 : decode cJ9_max_7cf53 9 = .ok (.iload_n 1, 1) := by decide +kernel
theorem dJ9_max_7cf53_10 : decode cJ9_max_7cf53 10 = .ok (.ireturn, 1) := by decide +kernel
theorem dJ9_min_7cf53_0 : decode cJ9_min_7cf53 0 = .ok (.iload_n 0, 1) := by decide +kernel
theorem dJ9_min_7cf53_1 : decode cJ9_min_7cf53 1 = .ok (.iload_n 1, 1) := by decide +kernel
theorem dJ9_min_7cf53_2 : decode cJ9_min_7cf53 2 = .ok (.if_icmp .gt 7, 3) := by decide +kernel
theorem dJ9_min_7cf53_5 : decode cJ9_min_7cf53 5 = .ok (.iload_n 0, 1) := by decide +kernel
theorem dJ9_min_7cf53_6 : decode cJ9_min_7cf53 6 = .ok (.goto 4, 3) := by decide +kernel
theorem dJ9_min_7cf53_9 : decode cJ9_min_7cf53 9 = .ok (.iload_n 1, 1) := by decide +kernel
theorem dJ9_min_7cf53_10 : decode cJ9_min_7cf53 10 = .ok (.ireturn, 1) := by decide +kernel
set_option maxRecDepth 20000 in
theorem ggJ0_length_8abf5_J0_coder_7d493 : GoodIn wsJ0_length_8abf5 wsJ0_coder_7d493 := goodIn_r _ [6, 7, 8] (by decide +kernel) (by decide +kernel)
set_option maxRecDepth 20000 in
theorem gJ0_length_8abf5_J0_coder_7d493 : GoodIn wsJ0_length_8abf5 (wsV RJ0 335 RJ0 yJ0_coder_7d493 wsJ0_coder_7d493) := goodIn_app (goodIn_of _ (by decide +kernel)) ggJ0_length_8abf5_J0_coder_7d493
theorem dJ0_length_8abf5_0 : decode cJ0_length_8abf5 0 = .ok (.aload_n 0, 1) := by decide +kernel
theorem dJ0_length_8abf5_1 : decode cJ0_length_8abf5 1 = .ok (.getfield 9, 3) := by decide +kernel
theorem dJ0_length_8abf5_4 : decode cJ0_length_8abf5 4 = .ok (.arraylength, 1) := by decide +kernel
theorem dJ0_length_8abf5_5 : decode cJ0_length_8abf5 5 = .ok (.aload_n 0, 1) := by decide +kernel
theorem dJ0_length_8abf5_6 : decode cJ0_length_8abf5 6 = .ok (.invokevirtual 335, 3) := by decide +kernel
theorem dJ0_length_8abf5_9 : decode cJ0_length_8abf5 9 = .ok (.ishr, 1) := by decide +kernel
theorem dJ0_length_8abf5_10 : decode cJ0_length_8abf5 10 = .ok (.ireturn, 1) := by decide +kernel
set_option maxRecDepth 20000 in
theorem ggJ0_getBytes_840e7_J0_coder_7d493 : GoodIn wsJ0_getBytes_840e7 wsJ0_coder_7d493 := goodIn_r _ [10, 11, 12] (by decide +kernel) (by decide +kernel)
set_option maxRecDepth 20000 in
theorem gJ0_getBytes_840e7_J0_coder_7d493 : GoodIn wsJ0_getBytes_840e7 (wsV RJ0 335 RJ0 yJ0_coder_7d493 wsJ0_coder_7d493) := goodIn_app (goodIn_of _ (by decide +kernel)) ggJ0_getBytes_840e7_J0_coder_7d493
set_option maxRecDepth 20000 in
theorem ggJ0_getBytes_840e7_J1_inflate_0e8fd : GoodIn wsJ0_getBytes_840e7 wsJ1_inflate_0e8fd := goodIn_r _ [16, 17, 18, 19, 20, 21, 22, 23, 24, 25, 26, 27, 28, 9, 29, 30, 31, 32, 33, 34, 35, 36, 37, 38, 39, 40] (by decide +kernel) (by decide +kernel)
set_option maxRecDepth 20000 in
theorem gJ0_getBytes_840e7_J1_inflate_0e8fd : GoodIn wsJ0_getBytes_840e7 (va_wsS RJ0 106 yJ1_inflate_0e8fd wsJ1_inflate_0e8fd) := goodIn_app (goodIn_of _ (by decide +kernel)) ggJ0_getBytes_840e7_J1_inflate_0e8fd
theorem dJ0_getBytes_840e7_0 : decode cJ0_getBytes_840e7 0 = .ok (.aload_n 0, 1) := by decide +kernel
theorem dJ0_getBytes_840e7_1 : decode cJ0_getBytes_840e7 1 = .ok (.invokevirtual 335, 3) := by decide +kernel
theorem dJ0_getBytes_840e7_4 : decode cJ0_getBytes_840e7 4 = .ok (.iload_n 3, 1) := by decide +kernel
theorem dJ0_getBytes_840e7_5 : decode cJ0_getBytes_840e7 5 = .ok (.if_icmp .ne 23, 3) := by decide +kernel
theorem dJ0_getBytes_840e7_8 : decode cJ0_getBytes_840e7 8 = .ok (.aload_n 0, 1) := by decide +kernel
theorem dJ0_getBytes_840e7_9 : decode cJ0_getBytes_840e7 9 = .ok (.getfield 9, 3) := by decide +kernel
theorem dJ0_getBytes_840e7_12 : decode cJ0_getBytes_840e7 12 = .ok (.iconst 0, 1) := by decide +kernel
theorem dJ0_getBytes_840e7_13 : decode cJ0_getBytes_840e7 13 = .ok (.aload_n 1, 1) := by decide +kernel
theorem dJ0_getBytes_840e7_14 : decode cJ0_getBytes_840e7 14 = .ok (.iload_n 2, 1) := by decide +kernel
theorem dJ0_getBytes_840e7_15 : decode cJ0_getBytes_840e7 15 = .ok (.iload_n 3, 1) := by decide +kernel
theorem dJ0_getBytes_840e7_16 : decode cJ0_getBytes_840e7 16 = .ok (.ishl, 1) := by decide +kernel
theorem dJ0_getBytes_840e7_17 : decode cJ0_getBytes_840e7 17 = .ok (.aload_n 0, 1) := by decide +kernel
theorem dJ0_getBytes_840e7_18 : decode cJ0_getBytes_840e7 18 = .ok (.getfield 9, 3) := by decide +kernel
theorem dJ0_getBytes_840e7_21 : decode cJ0_getBytes_840e7 21 = .ok (.arraylength, 1) := by decide +kernel
theorem dJ0_getBytes_840e7_22 : decode cJ0_getBytes_840e7 22 = .ok (.invokestatic 212, 3) := by decide +kernel
theorem dJ0_getBytes_840e7_25 : decode cJ0_getBytes_840e7 25 = .ok (.goto 18, 3) := by decide +kernel
theorem dJ0_getBytes_840e7_28 : decode cJ0_getBytes_840e7 28 = .ok (.aload_n 0, 1) := by decide +kernel
theorem dJ0_getBytes_840e7_29 : decode cJ0_getBytes_840e7 29 = .ok (.getfield 9, 3) := by decide +kernel
theorem dJ0_getBytes_840e7_32 : decode cJ0_getBytes_840e7 32 = .ok (.iconst 0, 1) := by decide +kernel
theorem dJ0_getBytes_840e7_33 : decode cJ0_getBytes_840e7 33 = .ok (.aload_n 1, 1) := by decide +kernel
theorem dJ0_getBytes_840e7_34 : decode cJ0_getBytes_840e7 34 = .ok (.iload_n 2, 1) := by decide +kernel
theorem dJ0_getBytes_840e7_35 : decode cJ0_getBytes_840e7 35 = .ok (.aload_n 0, 1) := by decide +kernel
theorem dJ0_getBytes_840e7_36 : decode cJ0_getBytes_840e7 36 = .ok (.getfield 9, 3) := by decide +kernel
theorem dJ0_getBytes_840e7_39 : decode cJ0_getBytes_840e7 39 = .ok (.arraylength, 1) := by decide +kernel
theorem dJ0_getBytes_840e7_40 : decode cJ0_getBytes_840e7 40 = .ok (.invokestatic 106, 3) := by decide +kernel
theorem dJ0_getBytes_840e7_43 : decode cJ0_getBytes_840e7 43 = .ok (.return_, 1) := by decide +kernel
theorem dJ0_coder_7d493_0 : decode cJ0_coder_7d493 0 = .ok (.getstatic 38, 3) := by decide +kernel
theorem dJ0_coder_7d493_3 : decode cJ0_coder_7d493 3 = .ok (.ifCond .eq 10, 3) := by decide +kernel
theorem dJ0_coder_7d493_6 : decode cJ0_coder_7d493 6 = .ok (.aload_n 0, 1) := by decide +kernel
theorem dJ0_coder_7d493_7 : decode cJ0_coder_7d493 7 = .ok (.getfield 15, 3) := by decide +kernel
theorem dJ0_coder_7d493_10 : decode cJ0_coder_7d493 10 = .ok (.goto 4, 3) := by decide +kernel
theorem dJ0_coder_7d493_13 : decode cJ0_coder_7d493 13 = .ok (.iconst 1, 1) := by decide +kernel
theorem dJ0_coder_7d493_14 : decode cJ0_coder_7d493 14 = .ok (.ireturn, 1) := by decide +kernel
set_option maxRecDepth 20000 in
theorem ggJ0_checkIndex_df160_J3_checkIndex_8e157 : GoodIn wsJ0_checkIndex_df160 wsJ3_checkIndex_8e157 := goodIn_r _ [5] (by decide +kernel) (by decide +kernel)
set_option maxRecDepth 20000 in
theorem gJ0_checkIndex_df160_J3_checkIndex_8e157 : GoodIn wsJ0_checkIndex_df160 (va_wsS RJ0 1059 yJ3_checkIndex_8e157 wsJ3_checkIndex_8e157) := goodIn_app (goodIn_of _ (by decide +kernel)) ggJ0_checkIndex_df160_J3_checkIndex_8e157
theorem dJ0_checkIndex_df160_0 : decode cJ0_checkIndex_df160 0 = .ok (.iload_n 0, 1) := by decide +kernel
theorem dJ0_checkIndex_df160_1 : decode cJ0_checkIndex_df160 1 = .ok (.iload_n 1, 1) := by decide +kernel
theorem dJ0_checkIndex_df160_2 : decode cJ0_checkIndex_df160 2 = .ok (.getstatic 1053, 3) := by decide +kernel
theorem dJ0_checkIndex_df160_5 : decode cJ0_checkIndex_df160 5 = .ok (.invokestatic 1059, 3) := by decide +kernel
theorem dJ0_checkIndex_df160_8 : decode cJ0_checkIndex_df160 8 = .ok (.pop, 1) := by decide +kernel
theorem dJ0_checkIndex_df160_9 : decode cJ0_checkIndex_df160 9 = .ok (.return_, 1) := by decide +kernel
set_option maxRecDepth 20000 in
theorem ggJ0_checkBoundsOffCount_cabcc_J3_checkFromIndexSize_8c36e : GoodIn wsJ0_checkBoundsOffCount_cabcc wsJ3_checkFromIndexSize_8c36e := goodIn_r _ [5] (by decide +kernel) (by decide +kernel)
set_option maxRecDepth 20000 in
theorem gJ0_checkBoundsOffCount_cabcc_J3_checkFromIndexSize_8c36e : GoodIn wsJ0_checkBoundsOffCount_cabcc (va_wsS RJ0 1065 yJ3_checkFromIndexSize_8c36e wsJ3_checkFromIndexSize_8c36e) := goodIn_app (goodIn_of _ (by decide +kernel)) ggJ0_checkBoundsOffCount_cabcc_J3_checkFromIndexSize_8c36e
theorem dJ0_checkBoundsOffCount_cabcc_0 : decode cJ0_checkBoundsOffCount_cabcc 0 = .ok (.iload_n 0, 1) := by decide +kernel
theorem dJ0_checkBoundsOffCount_cabcc_1 : decode cJ0_checkBoundsOffCount_cabcc 1 = .ok (.iload_n 1, 1) := by decide +kernel
theorem dJ0_checkBoundsOffCount_cabcc_2 : decode cJ0_checkBoundsOffCount_cabcc 2 = .ok (.iload_n 2, 1) := by decide +kernel
theorem dJ0_checkBoundsOffCount_cabcc_3 : decode cJ0_checkBoundsOffCount_cabcc 3 = .ok (.getstatic 1053, 3) := by decide +kernel
theorem dJ0_checkBoundsOffCount_cabcc_6 : decode cJ0_checkBoundsOffCount_cabcc 6 = .ok (.invokestatic 1065, 3) := by decide +kernel
theorem dJ0_checkBoundsOffCount_cabcc_9 : decode cJ0_checkBoundsOffCount_cabcc 9 = .ok (.ireturn, 1) := by decide +kernel
set_option maxRecDepth 20000 in
theorem ggJ0_checkBoundsBeginEnd_23922_J3_checkFromToIndex_8c36e : GoodIn wsJ0_checkBoundsBeginEnd_23922 wsJ3_checkFromToIndex_8c36e := goodIn_r _ [5] (by decide +kernel) (by decide +kernel)
set_option maxRecDepth 20000 in
theorem gJ0_checkBoundsBeginEnd_23922_J3_checkFromToIndex_8c36e : GoodIn wsJ0_checkBoundsBeginEnd_23922 (va_wsS RJ0 1062 yJ3_checkFromToIndex_8c36e wsJ3_checkFromToIndex_8c36e) := goodIn_app (goodIn_of _ (by decide +kernel)) ggJ0_checkBoundsBeginEnd_23922_J3_checkFromToIndex_8c36e
theorem dJ0_checkBoundsBeginEnd_23922_0 : decode cJ0_checkBoundsBeginEnd_23922 0 = .ok (.iload_n 0, 1) := by decide +kernel
theorem dJ0_checkBoundsBeginEnd_23922_1 : decode cJ0_checkBoundsBeginEnd_23922 1 = .ok (.iload_n 1, 1) := by decide +kernel
theorem dJ0_checkBoundsBeginEnd_23922_2 : decode cJ0_checkBoundsBeginEnd_23922 2 = .ok (.iload_n 2, 1) := by decide +kernel
theorem dJ0_checkBoundsBeginEnd_23922_3 : decode cJ0_checkBoundsBeginEnd_23922 3 = .ok (.getstatic 1053, 3) := by decide +kernel
theorem dJ0_checkBoundsBeginEnd_23922_6 : decode cJ0_checkBoundsBeginEnd_23922 6 = .ok (.invokestatic 1062, 3) := by decide +kernel
theorem dJ0_checkBoundsBeginEnd_23922_9 : decode cJ0_checkBoundsBeginEnd_23922 9 = .ok (.pop, 1) := by decide +kernel
theorem dJ0_checkBoundsBeginEnd_23922_10 : decode cJ0_checkBoundsBeginEnd_23922 10 = .ok (.return_, 1) := by decide +kernel
set_option maxRecDepth 20000 in
theorem ggJ4_init_da8c8_J5_init_d00df : GoodIn wsJ4_init_da8c8 wsJ5_init_d00df := goodIn_r _ [4, 5, 6, 7, 8, 9, 10, 11, 12, 13, 14, 15, 16, 17, 18, 19, 20, 21, 22, 23] (by decide +kernel) (by decide +kernel)
set_option maxRecDepth 20000 in
theorem gJ4_init_da8c8_J5_init_d00df : GoodIn wsJ4_init_da8c8 (wsJ5_init_d00df) := ggJ4_init_da8c8_J5_init_d00df
theorem dJ4_init_da8c8_0 : decode cJ4_init_da8c8 0 = .ok (.aload_n 0, 1) := by decide +kernel
theorem dJ4_init_da8c8_1 : decode cJ4_init_da8c8 1 = .ok (.bipush 16, 2) := by decide +kernel
theorem dJ4_init_da8c8_3 : decode cJ4_init_da8c8 3 = .ok (.invokespecial 1, 3) := by decide +kernel
theorem dJ4_init_da8c8_6 : decode cJ4_init_da8c8 6 = .ok (.return_, 1) := by decide +kernel
set_option maxRecDepth 20000 in
theorem ggJ4_append_15ec4_J5_append_cf1ce : GoodIn wsJ4_append_15ec4 wsJ5_append_cf1ce := goodIn_r _ [6, 7, 8, 9, 10, 11, 5, 12, 13, 14, 15, 16, 17, 18, 19, 20, 21, 22, 23, 24, 25, 26, 27, 28, 29, 30, 31, 32, 33, 34, 35, 36, 37, 38, 39, 40, 41, 42, 43, 44, 45, 46, 47, 48, 49, 50, 51, 52, 53, 54, 55, 56, 57, 58, 59, 60, 61, 62, 63, 64, 65, 66, 67, 68, 69, 70, 71, 72, 73, 74, 75, 76, 77, 78, 79, 80, 81, 82, 83, 84, 85, 86, 87, 88, 89, 90, 91, 92, 93, 94, 95, 96, 97, 98, 99, 100, 101, 102, 103, 104, 105, 106, 107, 108, 109, 110, 111, 112, 113, 114, 115, 116, 117, 118, 119, 120, 121, 122, 123, 124, 125, 126, 127, 128, 129, 130, 131, 132, 133, 134, 135, 136, 137, 138, 139, 140, 141, 142, 143, 144, 145, 146] (by decide +kernel) (by decide +kernel)
set_option maxRecDepth 20000 in
theorem gJ4_append_15ec4_J5_append_cf1ce_s29 : GoodIn wsJ4_append_15ec4 (va_wsSU RJ4 29 yJ5_append_cf1ce wsJ5_append_cf1ce) := goodIn_app (goodIn_of _ (by decide +kernel)) ggJ4_append_15ec4_J5_append_cf1ce
theorem dJ4_append_15ec4_0 : decode cJ4_append_15ec4 0 = .ok (.aload_n 0, 1) := by decide +kernel
theorem dJ4_append_15ec4_1 : decode cJ4_append_15ec4 1 = .ok (.aload_n 1, 1) := by decide +kernel
theorem dJ4_append_15ec4_2 : decode cJ4_append_15ec4 2 = .ok (.invokespecial 29, 3) := by decide +kernel
theorem dJ4_append_15ec4_5 : decode cJ4_append_15ec4 5 = .ok (.pop, 1) := by decide +kernel
theorem dJ4_append_15ec4_6 : decode cJ4_append_15ec4 6 = .ok (.aload_n 0, 1) := by decide +kernel
theorem dJ4_append_15ec4_7 : decode cJ4_append_15ec4 7 = .ok (.areturn, 1) := by decide +kernel
set_option maxRecDepth 20000 in
theorem ggJ4_append_cf468_J5_append_3fe6f : GoodIn wsJ4_append_cf468 wsJ5_append_3fe6f := goodIn_r _ [6, 7, 8, 9, 10, 11, 12, 5, 13, 14, 15, 16, 17, 18, 19, 20, 21, 22, 23, 24, 25, 26, 27, 28, 29, 30, 31, 32, 33, 34, 35, 36, 37, 38, 39, 40, 41, 42, 43, 44, 45, 46, 47, 48, 49, 50, 51, 52, 53, 54, 55, 56, 57, 58, 59, 60, 61, 62, 63, 64, 65, 66, 67, 68, 69, 70, 71, 72, 73, 74, 75, 76, 77, 78, 79, 80, 81, 82, 83, 84, 85, 86, 87, 88, 89, 90, 91, 92, 93, 94, 95, 96, 97, 98, 99, 100, 101, 102, 103, 104, 105, 106, 107, 108, 109, 110, 111, 112, 113, 114, 115, 116] (by decide +kernel) (by decide +kernel)
set_option maxRecDepth 20000 in
theorem gJ4_append_cf468_J5_append_3fe6f_s50 : GoodIn wsJ4_append_cf468 (va_wsSU RJ4 50 yJ5_append_3fe6f wsJ5_append_3fe6f) := goodIn_app (goodIn_of _ (by decide +kernel)) ggJ4_append_cf468_J5_append_3fe6f
theorem dJ4_append_cf468_0 : decode cJ4_append_cf468 0 = .ok (.aload_n 0, 1) := by decide +kernel
theorem dJ4_append_cf468_1 : decode cJ4_append_cf468 1 = .ok (.iload_n 1, 1) := by decide +kernel
theorem dJ4_append_cf468_2 : decode cJ4_append_cf468 2 = .ok (.invokespecial 50, 3) := by decide +kernel
theorem dJ4_append_cf468_5 : decode cJ4_append_cf468 5 = .ok (.pop, 1) := by decide +kernel
theorem dJ4_append_cf468_6 : decode cJ4_append_cf468 6 = .ok (.aload_n 0, 1) := by decide +kernel
theorem dJ4_append_cf468_7 : decode cJ4_append_cf468 7 = .ok (.areturn, 1) := by decide +kernel
set_option maxRecDepth 20000 in
theorem ggJ4_append_bf812_J5_append_c97b9 : GoodIn wsJ4_append_bf812 wsJ5_append_c97b9 := goodIn_r _ [6, 7, 8, 9, 10, 11, 12, 13, 14, 15, 16, 5, 17, 18, 19, 20, 21, 22, 23, 24, 25, 26, 27, 28, 29, 30, 31, 32, 33, 34, 35, 36, 37, 38, 39, 40, 41, 42, 43, 44, 45, 46, 47, 48, 49, 50, 51, 52, 53, 54, 55, 56, 57, 58, 59, 60, 61, 62, 63, 64, 65, 66, 67, 68, 69, 70, 71, 72, 73, 74, 75, 76, 77, 78, 79, 80, 81, 82, 83, 84, 85, 86, 87, 88, 89, 90, 91, 92, 93, 94, 95, 96, 97, 98, 99] (by decide +kernel) (by decide +kernel)
set_option maxRecDepth 20000 in
theorem gJ4_append_bf812_J5_append_c97b9_s53 : GoodIn wsJ4_append_bf812 (va_wsSU RJ4 53 yJ5_append_c97b9 wsJ5_append_c97b9) := goodIn_app (goodIn_of _ (by decide +kernel)) ggJ4_append_bf812_J5_append_c97b9
theorem dJ4_append_bf812_0 : decode cJ4_append_bf812 0 = .ok (.aload_n 0, 1) := by decide +kernel
theorem dJ4_append_bf812_1 : decode cJ4_append_bf812 1 = .ok (.iload_n 1, 1) := by decide +kernel
theorem dJ4_append_bf812_2 : decode cJ4_append_bf812 2 = .ok (.invokespecial 53, 3) := by decide +kernel
theorem dJ4_append_bf812_5 : decode cJ4_append_bf812 5 = .ok (.pop, 1) := by decide +kernel
theorem dJ4_append_bf812_6 : decode cJ4_append_bf812 6 = .ok (.aload_n 0, 1) := by decide +kernel
theorem dJ4_append_bf812_7 : decode cJ4_append_bf812 7 = .ok (.areturn, 1) := by decide +kernel
set_option maxRecDepth 20000 in
theorem ggJ4_charAt_5068e_J5_charAt_5068e : GoodIn wsJ4_charAt_5068e wsJ5_charAt_5068e := goodIn_r _ [6, 7, 8, 9, 10, 11, 12, 13, 14, 15, 16, 17, 18, 19, 20, 21, 22, 23, 24, 25, 26, 27, 28, 29, 30, 31, 32, 33, 34, 35, 36] (by decide +kernel) (by decide +kernel)
set_option maxRecDepth 20000 in
theorem gJ4_charAt_5068e_J5_charAt_5068e_s329 : GoodIn wsJ4_charAt_5068e (va_wsSU RJ4 329 yJ5_charAt_5068e wsJ5_charAt_5068e) := goodIn_app (goodIn_of _ (by decide +kernel)) ggJ4_charAt_5068e_J5_charAt_5068e
theorem dJ4_charAt_5068e_0 : decode cJ4_charAt_5068e 0 = .ok (.aload_n 0, 1) := by decide +kernel
theorem dJ4_charAt_5068e_1 : decode cJ4_charAt_5068e 1 = .ok (.iload_n 1, 1) := by decide +kernel
theorem dJ4_charAt_5068e_2 : decode cJ4_charAt_5068e 2 = .ok (.invokespecial 329, 3) := by decide +kernel
theorem dJ4_charAt_5068e_5 : decode cJ4_charAt_5068e 5 = .ok (.ireturn, 1) := by decide +kernel
set_option maxRecDepth 20000 in
theorem ggJ4_length_8abf5_J5_length_8abf5 : GoodIn wsJ4_length_8abf5 wsJ5_length_8abf5 := goodIn_r _ [6, 7, 8, 9, 10, 11] (by decide +kernel) (by decide +kernel)
set_option maxRecDepth 20000 in
theorem gJ4_length_8abf5_J5_length_8abf5_s343 : GoodIn wsJ4_length_8abf5 (va_wsSU RJ4 343 yJ5_length_8abf5 wsJ5_length_8abf5) := goodIn_app (goodIn_of _ (by decide +kernel)) ggJ4_length_8abf5_J5_length_8abf5
theorem dJ4_length_8abf5_0 : decode cJ4_length_8abf5 0 = .ok (.aload_n 0, 1) := by decide +kernel
theorem dJ4_length_8abf5_1 : decode cJ4_length_8abf5 1 = .ok (.invokespecial 343, 3) := by decide +kernel
theorem dJ4_length_8abf5_4 : decode cJ4_length_8abf5 4 = .ok (.ireturn, 1) := by decide +kernel
theorem dJ1_canEncode_fc78d_0 : decode cJ1_canEncode_fc78d 0 = .ok (.iload_n 0, 1) := by decide +kernel
theorem dJ1_canEncode_fc78d_1 : decode cJ1_canEncode_fc78d 1 = .ok (.sipush 255, 3) := by decide +kernel
theorem dJ1_canEncode_fc78d_4 : decode cJ1_canEncode_fc78d 4 = .ok (.if_icmp .gt 7, 3) := by decide +kernel
theorem dJ1_canEncode_fc78d_7 : decode cJ1_canEncode_fc78d 7 = .ok (.iconst 1, 1) := by decide +kernel
theorem dJ1_canEncode_fc78d_8 : decode cJ1_canEncode_fc78d 8 = .ok (.goto 4, 3) := by decide +kernel
theorem dJ1_canEncode_fc78d_11 : decode cJ1_canEncode_fc78d 11 = .ok (.iconst 0, 1) := by decide +kernel
theorem dJ1_canEncode_fc78d_12 : decode cJ1_canEncode_fc78d 12 = .ok (.ireturn, 1) := by decide +kernel
set_option maxRecDepth 20000 in
theorem ggJ1_inflate_0e8fd_J2_inflate_0e8fd : GoodIn wsJ1_inflate_0e8fd wsJ2_inflate_0e8fd := goodIn_r _ [4, 5, 6, 3, 7, 8, 9, 10, 11, 12, 13, 14, 15, 16, 17, 18, 19, 20, 21, 22, 23, 24, 25] (by decide +kernel) (by decide +kernel)
set_option maxRecDepth 20000 in
theorem gJ1_inflate_0e8fd_J2_inflate_0e8fd : GoodIn wsJ1_inflate_0e8fd (va_wsS RJ1 240 yJ2_inflate_0e8fd wsJ2_inflate_0e8fd) := goodIn_app (goodIn_of _ (by decide +kernel)) ggJ1_inflate_0e8fd_J2_inflate_0e8fd
theorem dJ1_inflate_0e8fd_0 : decode cJ1_inflate_0e8fd 0 = .ok (.aload_n 0, 1) := by decide +kernel
theorem dJ1_inflate_0e8fd_1 : decode cJ1_inflate_0e8fd 1 = .ok (.iload_n 1, 1) := by decide +kernel
theorem dJ1_inflate_0e8fd_2 : decode cJ1_inflate_0e8fd 2 = .ok (.aload_n 2, 1) := by decide +kernel
theorem dJ1_inflate_0e8fd_3 : decode cJ1_inflate_0e8fd 3 = .ok (.iload_n 3, 1) := by decide +kernel
theorem dJ1_inflate_0e8fd_4 : decode cJ1_inflate_0e8fd 4 = .ok (.iload 4, 2) := by decide +kernel
theorem dJ1_inflate_0e8fd_6 : decode cJ1_inflate_0e8fd 6 = .ok (.invokestatic 240, 3) := by decide +kernel
theorem dJ1_inflate_0e8fd_9 : decode cJ1_inflate_0e8fd 9 = .ok (.return_, 1) := by decide +kernel
set_option maxRecDepth 20000 in
theorem ggJ2_newBytesFor_77867_J2_newBytesLength_0f7a4 : GoodIn wsJ2_newBytesFor_77867 wsJ2_newBytesLength_0f7a4 := goodIn_r _ [5, 6] (by decide +kernel) (by decide +kernel)
set_option maxRecDepth 20000 in
theorem gJ2_newBytesFor_77867_J2_newBytesLength_0f7a4 : GoodIn wsJ2_newBytesFor_77867 (va_wsS RJ2 11 yJ2_newBytesLength_0f7a4 wsJ2_newBytesLength_0f7a4) := goodIn_app (goodIn_of _ (by decide +kernel)) ggJ2_newBytesFor_77867_J2_newBytesLength_0f7a4
theorem dJ2_newBytesFor_77867_0 : decode cJ2_newBytesFor_77867 0 = .ok (.iload_n 0, 1) := by decide +kernel
theorem dJ2_newBytesFor_77867_1 : decode cJ2_newBytesFor_77867 1 = .ok (.invokestatic 11, 3) := by decide +kernel
theorem dJ2_newBytesFor_77867_4 : decode cJ2_newBytesFor_77867 4 = .ok (.newarray .byte, 2) := by decide +kernel
theorem dJ2_newBytesFor_77867_6 : decode cJ2_newBytesFor_77867 6 = .ok (.areturn, 1) := by decide +kernel
theorem dJ2_newBytesLength_0f7a4_0 : decode cJ2_newBytesLength_0f7a4 0 = .ok (.iload_n 0, 1) := by decide +kernel
theorem dJ2_newBytesLength_0f7a4_1 : decode cJ2_newBytesLength_0f7a4 1 = .ok (.ifCond .ge 11, 3) := by decide +kernel
theorem dJ2_newBytesLength_0f7a4_4 : decode cJ2_newBytesLength_0f7a4 4 = .ok (.new 17, 3) := by decide +kernel
theorem dJ2_newBytesLength_0f7a4_7 : decode cJ2_newBytesLength_0f7a4 7 = .ok (.dup, 1) := by decide +kernel
theorem dJ2_newBytesLength_0f7a4_8 : decode cJ2_newBytesLength_0f7a4 8 = .ok (.invokespecial 19, 3) := by decide +kernel
theorem dJ2_newBytesLength_0f7a4_11 : decode cJ2_newBytesLength_0f7a4 11 = .ok (.athrow, 1) := by decide +kernel
theorem dJ2_newBytesLength_0f7a4_12 : decode cJ2_newBytesLength_0f7a4 12 = .ok (.iload_n 0, 1) := by decide +kernel
theorem dJ2_newBytesLength_0f7a4_13 : decode cJ2_newBytesLength_0f7a4 13 = .ok (.ldc 20, 2) := by decide +kernel
theorem dJ2_newBytesLength_0f7a4_15 : decode cJ2_newBytesLength_0f7a4 15 = .ok (.if_icmp .lt 40, 3) := by decide +kernel
theorem dJ2_newBytesLength_0f7a4_18 : decode cJ2_newBytesLength_0f7a4 18 = .ok (.new 21, 3) := by decide +kernel
theorem dJ2_newBytesLength_0f7a4_21 : decode cJ2_newBytesLength_0f7a4 21 = .ok (.dup, 1) := by decide +kernel
theorem dJ2_newBytesLength_0f7a4_22 : decode cJ2_newBytesLength_0f7a4 22 = .ok (.new 23, 3) := by decide +kernel
theorem dJ2_newBytesLength_0f7a4_25 : decode cJ2_newBytesLength_0f7a4 25 = .ok (.dup, 1) := by decide +kernel
theorem dJ2_newBytesLength_0f7a4_26 : decode cJ2_newBytesLength_0f7a4 26 = .ok (.invokespecial 25, 3) := by decide +kernel
theorem dJ2_newBytesLength_0f7a4_29 : decode cJ2_newBytesLength_0f7a4 29 = .ok (.ldc 26, 2) := by decide +kernel
theorem dJ2_newBytesLength_0f7a4_31 : decode cJ2_newBytesLength_0f7a4 31 = .ok (.invokevirtual 28, 3) := by decide +kernel
theorem dJ2_newBytesLength_0f7a4_34 : decode cJ2_newBytesLength_0f7a4 34 = .ok (.iload_n 0, 1) := by decide +kernel
theorem dJ2_newBytesLength_0f7a4_35 : decode cJ2_newBytesLength_0f7a4 35 = .ok (.invokevirtual 32, 3) := by decide +kernel
theorem dJ2_newBytesLength_0f7a4_38 : decode cJ2_newBytesLength_0f7a4 38 = .ok (.ldc 35, 2) := by decide +kernel
theorem dJ2_newBytesLength_0f7a4_40 : decode cJ2_newBytesLength_0f7a4 40 = .ok (.invokevirtual 28, 3) := by decide +kernel
theorem dJ2_newBytesLength_0f7a4_43 : decode cJ2_newBytesLength_0f7a4 43 = .ok (.ldc 20, 2) := by decide +kernel
theorem dJ2_newBytesLength_0f7a4_45 : decode cJ2_newBytesLength_0f7a4 45 = .ok (.invokevirtual 32, 3) := by decide +kernel
theorem dJ2_newBytesLength_0f7a4_48 : decode cJ2_newBytesLength_0f7a4 48 = .ok (.invokevirtual 37, 3) := by decide +kernel
theorem dJ2_newBytesLength_0f7a4_51 : decode cJ2_newBytesLength_0f7a4 51 = .ok (.invokespecial 41, 3) := by decide +kernel
theorem dJ2_newBytesLength_0f7a4_54 : decode cJ2_newBytesLength_0f7a4 54 = .ok (.athrow, 1) := by decide +kernel
theorem dJ2_newBytesLength_0f7a4_55 : decode cJ2_newBytesLength_0f7a4 55 = .ok (.iload_n 0, 1) := by decide +kernel
theorem dJ2_newBytesLength_0f7a4_56 : decode cJ2_newBytesLength_0f7a4 56 = .ok (.iconst 1, 1) := by decide +kernel
theorem dJ2_newBytesLength_0f7a4_57 : decode cJ2_newBytesLength_0f7a4 57 = .ok (.ishl, 1) := by decide +kernel
theorem dJ2_newBytesLength_0f7a4_58 : decode cJ2_newBytesLength_0f7a4 58 = .ok (.ireturn, 1) := by decide +kernel
set_option maxRecDepth 20000 in
theorem ggJ2_putChar_b72d1_J2_length_9d52b : GoodIn wsJ2_putChar_b72d1 wsJ2_length_9d52b := goodIn_r _ [7] (by decide +kernel) (by decide +kernel)
set_option maxRecDepth 20000 in
theorem gJ2_putChar_b72d1_J2_length_9d52b : GoodIn wsJ2_putChar_b72d1 (va_wsS RJ2 48 yJ2_length_9d52b wsJ2_length_9d52b) := goodIn_app (goodIn_of _ (by decide +kernel)) ggJ2_putChar_b72d1_J2_length_9d52b
theorem dJ2_putChar_b72d1_0 : decode cJ2_putChar_b72d1 0 = .ok (.getstatic 44, 3) := by decide +kernel
theorem dJ2_putChar_b72d1_3 : decode cJ2_putChar_b72d1 3 = .ok (.ifCond .ne 25, 3) := by decide +kernel
theorem dJ2_putChar_b72d1_6 : decode cJ2_putChar_b72d1 6 = .ok (.iload_n 1, 1) := by decide +kernel
theorem dJ2_putChar_b72d1_7 : decode cJ2_putChar_b72d1 7 = .ok (.ifCond .lt 11, 3) := by decide +kernel
theorem dJ2_putChar_b72d1_10 : decode cJ2_putChar_b72d1 10 = .ok (.iload_n 1, 1) := by decide +kernel
theorem dJ2_putChar_b72d1_11 : decode cJ2_putChar_b72d1 11 = .ok (.aload_n 0, 1) := by decide +kernel
theorem dJ2_putChar_b72d1_12 : decode cJ2_putChar_b72d1 12 = .ok (.invokestatic 48, 3) := by decide +kernel
theorem dJ2_putChar_b72d1_15 : decode cJ2_putChar_b72d1 15 = .ok (.if_icmp .lt 13, 3) := by decide +kernel
theorem dJ2_putChar_b72d1_18 : decode cJ2_putChar_b72d1 18 = .ok (.new 52, 3) := by decide +kernel
theorem dJ2_putChar_b72d1_21 : decode cJ2_putChar_b72d1 21 = .ok (.dup, 1) := by decide +kernel
theorem dJ2_putChar_b72d1_22 : decode cJ2_putChar_b72d1 22 = .ok (.ldc 54, 2) := by decide +kernel
theorem dJ2_putChar_b72d1_24 : decode cJ2_putChar_b72d1 24 = .ok (.invokespecial 56, 3) := by decide +kernel
theorem dJ2_putChar_b72d1_27 : decode cJ2_putChar_b72d1 27 = .ok (.athrow, 1) := by decide +kernel
theorem dJ2_putChar_b72d1_28 : decode cJ2_putChar_b72d1 28 = .ok (.iload_n 1, 1) := by decide +kernel
theorem dJ2_putChar_b72d1_29 : decode cJ2_putChar_b72d1 29 = .ok (.iconst 1, 1) := by decide +kernel
theorem dJ2_putChar_b72d1_30 : decode cJ2_putChar_b72d1 30 = .ok (.ishl, 1) := by decide +kernel
theorem dJ2_putChar_b72d1_31 : decode cJ2_putChar_b72d1 31 = .ok (.istore_n 1, 1) := by decide +kernel
theorem dJ2_putChar_b72d1_32 : decode cJ2_putChar_b72d1 32 = .ok (.aload_n 0, 1) := by decide +kernel
theorem dJ2_putChar_b72d1_33 : decode cJ2_putChar_b72d1 33 = .ok (.iload_n 1, 1) := by decide +kernel
theorem dJ2_putChar_b72d1_34 : decode cJ2_putChar_b72d1 34 = .ok (.iinc 1 1, 3) := by decide +kernel
theorem dJ2_putChar_b72d1_37 : decode cJ2_putChar_b72d1 37 = .ok (.iload_n 2, 1) := by decide +kernel
theorem dJ2_putChar_b72d1_38 : decode cJ2_putChar_b72d1 38 = .ok (.getstatic 59, 3) := by decide +kernel
theorem dJ2_putChar_b72d1_41 : decode cJ2_putChar_b72d1 41 = .ok (.ishr, 1) := by decide +kernel
theorem dJ2_putChar_b72d1_42 : decode cJ2_putChar_b72d1 42 = .ok (.i2b, 1) := by decide +kernel
theorem dJ2_putChar_b72d1_43 : decode cJ2_putChar_b72d1 43 = .ok (.bastore, 1) := by decide +kernel
theorem dJ2_putChar_b72d1_44 : decode cJ2_putChar_b72d1 44 = .ok (.aload_n 0, 1) := by decide +kernel
theorem dJ2_putChar_b72d1_45 : decode cJ2_putChar_b72d1 45 = .ok (.iload_n 1, 1) := by decide +kernel
theorem dJ2_putChar_b72d1_46 : decode cJ2_putChar_b72d1 46 = .ok (.iload_n 2, 1) := by decide +kernel
theorem dJ2_putChar_b72d1_47 : decode cJ2_putChar_b72d1 47 = .ok (.getstatic 63, 3) := by decide +kernel
theorem dJ2_putChar_b72d1_50 : decode cJ2_putChar_b72d1 50 = .ok (.ishr, 1) := by decide +kernel
theorem dJ2_putChar_b72d1_51 : decode cJ2_putChar_b72d1 51 = .ok (.i2b, 1) := by decide +kernel
theorem dJ2_putChar_b72d1_52 : decode cJ2_putChar_b72d1 52 = .ok (.bastore, 1) := by decide +kernel
theorem dJ2_putChar_b72d1_53 : decode cJ2_putChar_b72d1 53 = .ok (.return_, 1) := by decide +kernel
set_option maxRecDepth 20000 in
theorem ggJ2_getChar_3b067_J2_length_9d52b : GoodIn wsJ2_getChar_3b067 wsJ2_length_9d52b := goodIn_r _ [7] (by decide +kernel) (by decide +kernel)
set_option maxRecDepth 20000 in
theorem gJ2_getChar_3b067_J2_length_9d52b : GoodIn wsJ2_getChar_3b067 (va_wsS RJ2 48 yJ2_length_9d52b wsJ2_length_9d52b) := goodIn_app (goodIn_of _ (by decide +kernel)) ggJ2_getChar_3b067_J2_length_9d52b
theorem dJ2_getChar_3b067_0 : decode cJ2_getChar_3b067 0 = .ok (.getstatic 44, 3) := by decide +kernel
theorem dJ2_getChar_3b067_3 : decode cJ2_getChar_3b067 3 = .ok (.ifCond .ne 25, 3) := by decide +kernel
theorem dJ2_getChar_3b067_6 : decode cJ2_getChar_3b067 6 = .ok (.iload_n 1, 1) := by decide +kernel
theorem dJ2_getChar_3b067_7 : decode cJ2_getChar_3b067 7 = .ok (.ifCond .lt 11, 3) := by decide +kernel
theorem dJ2_getChar_3b067_10 : decode cJ2_getChar_3b067 10 = .ok (.iload_n 1, 1) := by decide +kernel
theorem dJ2_getChar_3b067_11 : decode cJ2_getChar_3b067 11 = .ok (.aload_n 0, 1) := by decide +kernel
theorem dJ2_getChar_3b067_12 : decode cJ2_getChar_3b067 12 = .ok (.invokestatic 48, 3) := by decide +kernel
theorem dJ2_getChar_3b067_15 : decode cJ2_getChar_3b067 15 = .ok (.if_icmp .lt 13, 3) := by decide +kernel
theorem dJ2_getChar_3b067_18 : decode cJ2_getChar_3b067 18 = .ok (.new 52, 3) := by decide +kernel
theorem dJ2_getChar_3b067_21 : decode cJ2_getChar_3b067 21 = .ok (.dup, 1) := by decide +kernel
theorem dJ2_getChar_3b067_22 : decode cJ2_getChar_3b067 22 = .ok (.ldc 54, 2) := by decide +kernel
theorem dJ2_getChar_3b067_24 : decode cJ2_getChar_3b067 24 = .ok (.invokespecial 56, 3) := by decide +kernel
theorem dJ2_getChar_3b067_27 : decode cJ2_getChar_3b067 27 = .ok (.athrow, 1) := by decide +kernel
theorem dJ2_getChar_3b067_28 : decode cJ2_getChar_3b067 28 = .ok (.iload_n 1, 1) := by decide +kernel
theorem dJ2_getChar_3b067_29 : decode cJ2_getChar_3b067 29 = .ok (.iconst 1, 1) := by decide +kernel
theorem dJ2_getChar_3b067_30 : decode cJ2_getChar_3b067 30 = .ok (.ishl, 1) := by decide +kernel
theorem dJ2_getChar_3b067_31 : decode cJ2_getChar_3b067 31 = .ok (.istore_n 1, 1) := by decide +kernel
theorem dJ2_getChar_3b067_32 : decode cJ2_getChar_3b067 32 = .ok (.aload_n 0, 1) := by decide +kernel
theorem dJ2_getChar_3b067_33 : decode cJ2_getChar_3b067 33 = .ok (.iload_n 1, 1) := by decide +kernel
theorem dJ2_getChar_3b067_34 : decode cJ2_getChar_3b067 34 = .ok (.iinc 1 1, 3) := by decide +kernel
theorem dJ2_getChar_3b067_37 : decode cJ2_getChar_3b067 37 = .ok (.baload, 1) := by decide +kernel
theorem dJ2_getChar_3b067_38 : decode cJ2_getChar_3b067 38 = .ok (.sipush 255, 3) := by decide +kernel
theorem dJ2_getChar_3b067_41 : decode cJ2_getChar_3b067 41 = .ok (.iand, 1) := by decide +kernel
theorem dJ2_getChar_3b067_42 : decode cJ2_getChar_3b067 42 = .ok (.getstatic 59, 3) := by decide +kernel
theorem dJ2_getChar_3b067_45 : decode cJ2_getChar_3b067 45 = .ok (.ishl, 1) := by decide +kernel
theorem dJ2_getChar_3b067_46 : decode cJ2_getChar_3b067 46 = .ok (.aload_n 0, 1) := by decide +kernel
theorem dJ2_getChar_3b067_47 : decode cJ2_getChar_3b067 47 = .ok (.iload_n 1, 1) := by decide +kernel
theorem dJ2_getChar_3b067_48 : decode cJ2_getChar_3b067 48 = .ok (.baload, 1) := by decide +kernel
theorem dJ2_getChar_3b067_49 : decode cJ2_getChar_3b067 49 = .ok (.sipush 255, 3) := by decide +kernel
theorem dJ2_getChar_3b067_52 : decode cJ2_getChar_3b067 52 = .ok (.iand, 1) := by decide +kernel
theorem dJ2_getChar_3b067_53 : decode cJ2_getChar_3b067 53 = .ok (.getstatic 63, 3) := by decide +kernel
theorem dJ2_getChar_3b067_56 : decode cJ2_getChar_3b067 56 = .ok (.ishl, 1) := by decide +kernel
theorem dJ2_getChar_3b067_57 : decode cJ2_getChar_3b067 57 = .ok (.ior, 1) := by decide +kernel
theorem dJ2_getChar_3b067_58 : decode cJ2_getChar_3b067 58 = .ok (.i2c, 1) := by decide +kernel
theorem dJ2_getChar_3b067_59 : decode cJ2_getChar_3b067 59 = .ok (.ireturn, 1) := by decide +kernel
theorem dJ2_length_9d52b_0 : decode cJ2_length_9d52b 0 = .ok (.aload_n 0, 1) := by decide +kernel
theorem dJ2_length_9d52b_1 : decode cJ2_length_9d52b 1 = .ok (.arraylength, 1) := by decide +kernel
theorem dJ2_length_9d52b_2 : decode cJ2_length_9d52b 2 = .ok (.iconst 1, 1) := by decide +kernel
theorem dJ2_length_9d52b_3 : decode cJ2_length_9d52b 3 = .ok (.ishr, 1) := by decide +kernel
theorem dJ2_length_9d52b_4 : decode cJ2_length_9d52b 4 = .ok (.ireturn, 1) := by decide +kernel
set_option maxRecDepth 20000 in
theorem ggJ2_putCharSB_b72d1_J2_checkIndex_2214a : GoodIn wsJ2_putCharSB_b72d1 wsJ2_checkIndex_2214a := goodIn_r _ [4, 5, 6, 3, 7, 8, 9, 10, 11, 12, 13, 14, 15, 16] (by decide +kernel) (by decide +kernel)
set_option maxRecDepth 20000 in
theorem gJ2_putCharSB_b72d1_J2_checkIndex_2214a : GoodIn wsJ2_putCharSB_b72d1 (va_wsS RJ2 67 yJ2_checkIndex_2214a wsJ2_checkIndex_2214a) := goodIn_app (goodIn_of _ (by decide +kernel)) ggJ2_putCharSB_b72d1_J2_checkIndex_2214a
set_option maxRecDepth 20000 in
theorem ggJ2_putCharSB_b72d1_J2_putChar_b72d1 : GoodIn wsJ2_putCharSB_b72d1 wsJ2_putChar_b72d1 := goodIn_r _ [19, 20, 21, 22, 5, 6, 3, 7] (by decide +kernel) (by decide +kernel)
set_option maxRecDepth 20000 in
theorem gJ2_putCharSB_b72d1_J2_putChar_b72d1 : GoodIn wsJ2_putCharSB_b72d1 (va_wsS RJ2 111 yJ2_putChar_b72d1 wsJ2_putChar_b72d1) := goodIn_app (goodIn_of _ (by decide +kernel)) ggJ2_putCharSB_b72d1_J2_putChar_b72d1
theorem dJ2_putCharSB_b72d1_0 : decode cJ2_putCharSB_b72d1 0 = .ok (.iload_n 1, 1) := by decide +kernel
theorem dJ2_putCharSB_b72d1_1 : decode cJ2_putCharSB_b72d1 1 = .ok (.aload_n 0, 1) := by decide +kernel
theorem dJ2_putCharSB_b72d1_2 : decode cJ2_putCharSB_b72d1 2 = .ok (.invokestatic 67, 3) := by decide +kernel
theorem dJ2_putCharSB_b72d1_5 : decode cJ2_putCharSB_b72d1 5 = .ok (.aload_n 0, 1) := by decide +kernel
theorem dJ2_putCharSB_b72d1_6 : decode cJ2_putCharSB_b72d1 6 = .ok (.iload_n 1, 1) := by decide +kernel
theorem dJ2_putCharSB_b72d1_7 : decode cJ2_putCharSB_b72d1 7 = .ok (.iload_n 2, 1) := by decide +kernel
theorem dJ2_putCharSB_b72d1_8 : decode cJ2_putCharSB_b72d1 8 = .ok (.invokestatic 111, 3) := by decide +kernel
theorem dJ2_putCharSB_b72d1_11 : decode cJ2_putCharSB_b72d1 11 = .ok (.return_, 1) := by decide +kernel
set_option maxRecDepth 20000 in
theorem ggJ2_getChars_46870_J2_checkBoundsBeginEnd_d044e : GoodIn wsJ2_getChars_46870 wsJ2_checkBoundsBeginEnd_d044e := goodIn_r _ [5, 6, 7, 4, 8, 9, 10, 11, 12, 13, 14, 15, 16, 17] (by decide +kernel) (by decide +kernel)
set_option maxRecDepth 20000 in
theorem gJ2_getChars_46870_J2_checkBoundsBeginEnd_d044e : GoodIn wsJ2_getChars_46870 (va_wsS RJ2 96 yJ2_checkBoundsBeginEnd_d044e wsJ2_checkBoundsBeginEnd_d044e) := goodIn_app (goodIn_of _ (by decide +kernel)) ggJ2_getChars_46870_J2_checkBoundsBeginEnd_d044e
set_option maxRecDepth 20000 in
theorem ggJ2_getChars_46870_J2_getChars_ba4f3 : GoodIn wsJ2_getChars_46870 wsJ2_getChars_ba4f3 := goodIn_r _ [20, 21, 22, 23, 24, 4, 25, 1, 26, 27, 6, 7, 8] (by decide +kernel) (by decide +kernel)
set_option maxRecDepth 20000 in
theorem gJ2_getChars_46870_J2_getChars_ba4f3 : GoodIn wsJ2_getChars_46870 (va_wsS RJ2 393 yJ2_getChars_ba4f3 wsJ2_getChars_ba4f3) := goodIn_app (goodIn_of _ (by decide +kernel)) ggJ2_getChars_46870_J2_getChars_ba4f3
theorem dJ2_getChars_46870_0 : decode cJ2_getChars_46870 0 = .ok (.iload_n 1, 1) := by decide +kernel
theorem dJ2_getChars_46870_1 : decode cJ2_getChars_46870 1 = .ok (.iload_n 2, 1) := by decide +kernel
theorem dJ2_getChars_46870_2 : decode cJ2_getChars_46870 2 = .ok (.aload_n 3, 1) := by decide +kernel
theorem dJ2_getChars_46870_3 : decode cJ2_getChars_46870 3 = .ok (.invokestatic 96, 3) := by decide +kernel
theorem dJ2_getChars_46870_6 : decode cJ2_getChars_46870 6 = .ok (.iload_n 0, 1) := by decide +kernel
theorem dJ2_getChars_46870_7 : decode cJ2_getChars_46870 7 = .ok (.iload_n 2, 1) := by decide +kernel
theorem dJ2_getChars_46870_8 : decode cJ2_getChars_46870 8 = .ok (.aload_n 3, 1) := by decide +kernel
theorem dJ2_getChars_46870_9 : decode cJ2_getChars_46870 9 = .ok (.invokestatic 393, 3) := by decide +kernel
theorem dJ2_getChars_46870_12 : decode cJ2_getChars_46870 12 = .ok (.istore 4, 2) := by decide +kernel
theorem dJ2_getChars_46870_14 : decode cJ2_getChars_46870 14 = .ok (.getstatic 44, 3) := by decide +kernel
theorem dJ2_getChars_46870_17 : decode cJ2_getChars_46870 17 = .ok (.ifCond .ne 17, 3) := by decide +kernel
theorem dJ2_getChars_46870_20 : decode cJ2_getChars_46870 20 = .ok (.iload_n 1, 1) := by decide +kernel
theorem dJ2_getChars_46870_21 : decode cJ2_getChars_46870 21 = .ok (.iload 4, 2) := by decide +kernel
theorem dJ2_getChars_46870_23 : decode cJ2_getChars_46870 23 = .ok (.if_icmp .eq 11, 3) := by decide +kernel
theorem dJ2_getChars_46870_26 : decode cJ2_getChars_46870 26 = .ok (.new 52, 3) := by decide +kernel
theorem dJ2_getChars_46870_29 : decode cJ2_getChars_46870 29 = .ok (.dup, 1) := by decide +kernel
theorem dJ2_getChars_46870_30 : decode cJ2_getChars_46870 30 = .ok (.invokespecial 66, 3) := by decide +kernel
theorem dJ2_getChars_46870_33 : decode cJ2_getChars_46870 33 = .ok (.athrow, 1) := by decide +kernel
theorem dJ2_getChars_46870_34 : decode cJ2_getChars_46870 34 = .ok (.iload 4, 2) := by decide +kernel
theorem dJ2_getChars_46870_36 : decode cJ2_getChars_46870 36 = .ok (.ireturn, 1) := by decide +kernel
set_option maxRecDepth 20000 in
theorem ggJ2_putCharsAt_cd4e5_J2_checkBoundsBeginEnd_d044e : GoodIn wsJ2_putCharsAt_cd4e5 wsJ2_checkBoundsBeginEnd_d044e := goodIn_r _ [5, 6, 7, 4, 8, 9, 10, 11, 12, 13, 14, 15, 16, 17] (by decide +kernel) (by decide +kernel)
set_option maxRecDepth 20000 in
theorem gJ2_putCharsAt_cd4e5_J2_checkBoundsBeginEnd_d044e : GoodIn wsJ2_putCharsAt_cd4e5 (va_wsS RJ2 96 yJ2_checkBoundsBeginEnd_d044e wsJ2_checkBoundsBeginEnd_d044e) := goodIn_app (goodIn_of _ (by decide +kernel)) ggJ2_putCharsAt_cd4e5_J2_checkBoundsBeginEnd_d044e
set_option maxRecDepth 20000 in
theorem ggJ2_putCharsAt_cd4e5_J2_putChar_b72d1 : GoodIn wsJ2_putCharsAt_cd4e5 wsJ2_putChar_b72d1 := goodIn_r _ [20, 1, 21, 22, 6, 7, 4, 8] (by decide +kernel) (by decide +kernel)
set_option maxRecDepth 20000 in
theorem gJ2_putCharsAt_cd4e5_J2_putChar_b72d1 : GoodIn wsJ2_putCharsAt_cd4e5 (va_wsS RJ2 111 yJ2_putChar_b72d1 wsJ2_putChar_b72d1) := goodIn_app (goodIn_of _ (by decide +kernel)) ggJ2_putCharsAt_cd4e5_J2_putChar_b72d1
theorem dJ2_putCharsAt_cd4e5_0 : decode cJ2_putCharsAt_cd4e5 0 = .ok (.iload_n 1, 1) := by decide +kernel
theorem dJ2_putCharsAt_cd4e5_1 : decode cJ2_putCharsAt_cd4e5 1 = .ok (.iconst 4, 1) := by decide +kernel
theorem dJ2_putCharsAt_cd4e5_2 : decode cJ2_putCharsAt_cd4e5 2 = .ok (.iadd, 1) := by decide +kernel
theorem dJ2_putCharsAt_cd4e5_3 : decode cJ2_putCharsAt_cd4e5 3 = .ok (.istore 6, 2) := by decide +kernel
theorem dJ2_putCharsAt_cd4e5_5 : decode cJ2_putCharsAt_cd4e5 5 = .ok (.iload_n 1, 1) := by decide +kernel
theorem dJ2_putCharsAt_cd4e5_6 : decode cJ2_putCharsAt_cd4e5 6 = .ok (.iload 6, 2) := by decide +kernel
theorem dJ2_putCharsAt_cd4e5_8 : decode cJ2_putCharsAt_cd4e5 8 = .ok (.aload_n 0, 1) := by decide +kernel
theorem dJ2_putCharsAt_cd4e5_9 : decode cJ2_putCharsAt_cd4e5 9 = .ok (.invokestatic 96, 3) := by decide +kernel
theorem dJ2_putCharsAt_cd4e5_12 : decode cJ2_putCharsAt_cd4e5 12 = .ok (.aload_n 0, 1) := by decide +kernel
theorem dJ2_putCharsAt_cd4e5_13 : decode cJ2_putCharsAt_cd4e5 13 = .ok (.iload_n 1, 1) := by decide +kernel
theorem dJ2_putCharsAt_cd4e5_14 : decode cJ2_putCharsAt_cd4e5 14 = .ok (.iinc 1 1, 3) := by decide +kernel
theorem dJ2_putCharsAt_cd4e5_17 : decode cJ2_putCharsAt_cd4e5 17 = .ok (.iload_n 2, 1) := by decide +kernel
theorem dJ2_putCharsAt_cd4e5_18 : decode cJ2_putCharsAt_cd4e5 18 = .ok (.invokestatic 111, 3) := by decide +kernel
theorem dJ2_putCharsAt_cd4e5_21 : decode cJ2_putCharsAt_cd4e5 21 = .ok (.aload_n 0, 1) := by decide +kernel
theorem dJ2_putCharsAt_cd4e5_22 : decode cJ2_putCharsAt_cd4e5 22 = .ok (.iload_n 1, 1) := by decide +kernel
theorem dJ2_putCharsAt_cd4e5_23 : decode cJ2_putCharsAt_cd4e5 23 = .ok (.iinc 1 1, 3) := by decide +kernel
theorem dJ2_putCharsAt_cd4e5_26 : decode cJ2_putCharsAt_cd4e5 26 = .ok (.iload_n 3, 1) := by decide +kernel
theorem dJ2_putCharsAt_cd4e5_27 : decode cJ2_putCharsAt_cd4e5 27 = .ok (.invokestatic 111, 3) := by decide +kernel
theorem dJ2_putCharsAt_cd4e5_30 : decode cJ2_putCharsAt_cd4e5 30 = .ok (.aload_n 0, 1) := by decide +kernel
theorem dJ2_putCharsAt_cd4e5_31 : decode cJ2_putCharsAt_cd4e5 31 = .ok (.iload_n 1, 1) := by decide +kernel
theorem dJ2_putCharsAt_cd4e5_32 : decode cJ2_putCharsAt_cd4e5 32 = .ok (.iinc 1 1, 3) := by decide +kernel
