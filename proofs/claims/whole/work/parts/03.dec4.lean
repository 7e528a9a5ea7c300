theorem dX6_takesE_132 : decode cX6_takesE 132 = .ok (.dup, 1) := by decide +kernel
theorem dX6_takesE_133 : decode cX6_takesE 133 = .ok (.getfield 225, 3) := by decide +kernel
theorem dX6_takesE_136 : decode cX6_takesE 136 = .ok (.iconst 1, 1) := by decide +kernel
theorem dX6_takesE_137 : decode cX6_takesE 137 = .ok (.iadd, 1) := by decide +kernel
theorem dX6_takesE_138 : decode cX6_takesE 138 = .ok (.putfield 225, 3) := by decide +kernel
theorem dX6_takesE_141 : decode cX6_takesE 141 = .ok (.iinc 1 1, 3) := by decide +kernel
theorem dX6_takesE_144 : decode cX6_takesE 144 = .ok (.aload_n 0, 1) := by decide +kernel
theorem dX6_takesE_145 : decode cX6_takesE 145 = .ok (.getfield 44, 3) := by decide +kernel
theorem dX6_takesE_148 : decode cX6_takesE 148 = .ok (.iload_n 1, 1) := by decide +kernel
theorem dX6_takesE_149 : decode cX6_takesE 149 = .ok (.iconst 0, 1) := by decide +kernel
theorem dX6_takesE_150 : decode cX6_takesE 150 = .ok (.bastore, 1) := by decide +kernel
theorem dX6_takesE_151 : decode cX6_takesE 151 = .ok (.aload_n 0, 1) := by decide +kernel
theorem dX6_takesE_152 : decode cX6_takesE 152 = .ok (.invokevirtual 222, 3) := by decide +kernel
theorem dX6_takesE_155 : decode cX6_takesE 155 = .ok (.goto 17, 3) := by decide +kernel
theorem dX6_takesE_158 : decode cX6_takesE 158 = .ok (.aload_n 0, 1) := by decide +kernel
theorem dX6_takesE_159 : decode cX6_takesE 159 = .ok (.invokevirtual 243, 3) := by decide +kernel
theorem dX6_takesE_162 : decode cX6_takesE 162 = .ok (.ifCond .eq 8, 3) := by decide +kernel
theorem dX6_takesE_165 : decode cX6_takesE 165 = .ok (.iconst 0, 1) := by decide +kernel
theorem dX6_takesE_166 : decode cX6_takesE 166 = .ok (.istore_n 3, 1) := by decide +kernel
theorem dX6_takesE_167 : decode cX6_takesE 167 = .ok (.goto 5, 3) := by decide +kernel
theorem dX6_takesE_170 : decode cX6_takesE 170 = .ok (.iconst 0, 1) := by decide +kernel
theorem dX6_takesE_171 : decode cX6_takesE 171 = .ok (.ireturn, 1) := by decide +kernel
theorem dX6_takesE_172 : decode cX6_takesE 172 = .ok (.aload_n 0, 1) := by decide +kernel
theorem dX6_takesE_173 : decode cX6_takesE 173 = .ok (.invokevirtual 247, 3) := by decide +kernel
theorem dX6_takesE_176 : decode cX6_takesE 176 = .ok (.istore_n 2, 1) := by decide +kernel
theorem dX6_takesE_177 : decode cX6_takesE 177 = .ok (.goto (-149), 3) := by decide +kernel
theorem dX6_takesE_180 : decode cX6_takesE 180 = .ok (.aload_n 0, 1) := by decide +kernel
theorem dX6_takesE_181 : decode cX6_takesE 181 = .ok (.getfield 207, 3) := by decide +kernel
theorem dX6_takesE_184 : decode cX6_takesE 184 = .ok (.iconst 3, 1) := by decide +kernel
theorem dX6_takesE_185 : decode cX6_takesE 185 = .ok (.if_icmp .ne 52, 3) := by decide +kernel
theorem dX6_takesE_188 : decode cX6_takesE 188 = .ok (.aload_n 0, 1) := by decide +kernel
theorem dX6_takesE_189 : decode cX6_takesE 189 = .ok (.getfield 213, 3) := by decide +kernel
theorem dX6_takesE_192 : decode cX6_takesE 192 = .ok (.bipush 41, 2) := by decide +kernel
theorem dX6_takesE_194 : decode cX6_takesE 194 = .ok (.if_icmp .ne 43, 3) := by decide +kernel
theorem dX6_takesE_197 : decode cX6_takesE 197 = .ok (.iload_n 1, 1) := by decide +kernel
theorem dX6_takesE_198 : decode cX6_takesE 198 = .ok (.ifCond .le 39, 3) := by decide +kernel
theorem dX6_takesE_201 : decode cX6_takesE 201 = .ok (.aload_n 0, 1) := by decide +kernel
theorem dX6_takesE_202 : decode cX6_takesE 202 = .ok (.iconst 0, 1) := by decide +kernel
theorem dX6_takesE_203 : decode cX6_takesE 203 = .ok (.invokevirtual 240, 3) := by decide +kernel
theorem dX6_takesE_206 : decode cX6_takesE 206 = .ok (.aload_n 0, 1) := by decide +kernel
theorem dX6_takesE_207 : decode cX6_takesE 207 = .ok (.dup, 1) := by decide +kernel
theorem dX6_takesE_208 : decode cX6_takesE 208 = .ok (.getfield 225, 3) := by decide +kernel
theorem dX6_takesE_211 : decode cX6_takesE 211 = .ok (.iconst 1, 1) := by decide +kernel
theorem dX6_takesE_212 : decode cX6_takesE 212 = .ok (.isub, 1) := by decide +kernel
theorem dX6_takesE_213 : decode cX6_takesE 213 = .ok (.putfield 225, 3) := by decide +kernel
theorem dX6_takesE_216 : decode cX6_takesE 216 = .ok (.iinc 1 (-1), 3) := by decide +kernel
theorem dX6_takesE_219 : decode cX6_takesE 219 = .ok (.aload_n 0, 1) := by decide +kernel
theorem dX6_takesE_220 : decode cX6_takesE 220 = .ok (.bipush 6, 2) := by decide +kernel
theorem dX6_takesE_222 : decode cX6_takesE 222 = .ok (.invokevirtual 240, 3) := by decide +kernel
theorem dX6_takesE_225 : decode cX6_takesE 225 = .ok (.aload_n 0, 1) := by decide +kernel
theorem dX6_takesE_226 : decode cX6_takesE 226 = .ok (.invokevirtual 247, 3) := by decide +kernel
theorem dX6_takesE_229 : decode cX6_takesE 229 = .ok (.istore_n 2, 1) := by decide +kernel
theorem dX6_takesE_230 : decode cX6_takesE 230 = .ok (.aload_n 0, 1) := by decide +kernel
theorem dX6_takesE_231 : decode cX6_takesE 231 = .ok (.invokevirtual 222, 3) := by decide +kernel
theorem dX6_takesE_234 : decode cX6_takesE 234 = .ok (.goto (-206), 3) := by decide +kernel
theorem dX6_takesE_237 : decode cX6_takesE 237 = .ok (.aload_n 0, 1) := by decide +kernel
theorem dX6_takesE_238 : decode cX6_takesE 238 = .ok (.invokevirtual 250, 3) := by decide +kernel
theorem dX6_takesE_241 : decode cX6_takesE 241 = .ok (.istore 4, 2) := by decide +kernel
theorem dX6_takesE_243 : decode cX6_takesE 243 = .ok (.iload 4, 2) := by decide +kernel
theorem dX6_takesE_245 : decode cX6_takesE 245 = .ok (.ifCond .eq 21, 3) := by decide +kernel
theorem dX6_takesE_248 : decode cX6_takesE 248 = .ok (.iload 4, 2) := by decide +kernel
theorem dX6_takesE_250 : decode cX6_takesE 250 = .ok (.invokestatic 228, 3) := by decide +kernel
theorem dX6_takesE_253 : decode cX6_takesE 253 = .ok (.iconst 3, 1) := by decide +kernel
theorem dX6_takesE_254 : decode cX6_takesE 254 = .ok (.if_icmp .ne 14, 3) := by decide +kernel
theorem dX6_takesE_257 : decode cX6_takesE 257 = .ok (.aload_n 0, 1) := by decide +kernel
theorem dX6_takesE_258 : decode cX6_takesE 258 = .ok (.getfield 44, 3) := by decide +kernel
theorem dX6_takesE_261 : decode cX6_takesE 261 = .ok (.iload_n 1, 1) := by decide +kernel
theorem dX6_takesE_262 : decode cX6_takesE 262 = .ok (.baload, 1) := by decide +kernel
theorem dX6_takesE_263 : decode cX6_takesE 263 = .ok (.ifCond .eq 5, 3) := by decide +kernel
theorem dX6_takesE_266 : decode cX6_takesE 266 = .ok (.iconst 0, 1) := by decide +kernel
theorem dX6_takesE_267 : decode cX6_takesE 267 = .ok (.ireturn, 1) := by decide +kernel
theorem dX6_takesE_268 : decode cX6_takesE 268 = .ok (.aload_n 0, 1) := by decide +kernel
theorem dX6_takesE_269 : decode cX6_takesE 269 = .ok (.getfield 44, 3) := by decide +kernel
theorem dX6_takesE_272 : decode cX6_takesE 272 = .ok (.iload_n 1, 1) := by decide +kernel
theorem dX6_takesE_273 : decode cX6_takesE 273 = .ok (.iload 4, 2) := by decide +kernel
theorem dX6_takesE_275 : decode cX6_takesE 275 = .ok (.invokestatic 228, 3) := by decide +kernel
theorem dX6_takesE_278 : decode cX6_takesE 278 = .ok (.iconst 3, 1) := by decide +kernel
theorem dX6_takesE_279 : decode cX6_takesE 279 = .ok (.if_icmp .eq 21, 3) := by decide +kernel
theorem dX6_takesE_282 : decode cX6_takesE 282 = .ok (.iload 4, 2) := by decide +kernel
theorem dX6_takesE_284 : decode cX6_takesE 284 = .ok (.invokestatic 228, 3) := by decide +kernel
theorem dX6_takesE_287 : decode cX6_takesE 287 = .ok (.iconst 3, 1) := by decide +kernel
theorem dX6_takesE_288 : decode cX6_takesE 288 = .ok (.if_icmp .le 16, 3) := by decide +kernel
theorem dX6_takesE_291 : decode cX6_takesE 291 = .ok (.aload_n 0, 1) := by decide +kernel
theorem dX6_takesE_292 : decode cX6_takesE 292 = .ok (.getfield 44, 3) := by decide +kernel
theorem dX6_takesE_295 : decode cX6_takesE 295 = .ok (.iload_n 1, 1) := by decide +kernel
theorem dX6_takesE_296 : decode cX6_takesE 296 = .ok (.baload, 1) := by decide +kernel
theorem dX6_takesE_297 : decode cX6_takesE 297 = .ok (.ifCond .eq 7, 3) := by decide +kernel
theorem dX6_takesE_300 : decode cX6_takesE 300 = .ok (.iconst 1, 1) := by decide +kernel
theorem dX6_takesE_301 : decode cX6_takesE 301 = .ok (.goto 4, 3) := by decide +kernel
theorem dX6_takesE_304 : decode cX6_takesE 304 = .ok (.iconst 0, 1) := by decide +kernel
theorem dX6_takesE_305 : decode cX6_takesE 305 = .ok (.bastore, 1) := by decide +kernel
theorem dX6_takesE_306 : decode cX6_takesE 306 = .ok (.aload_n 0, 1) := by decide +kernel
theorem dX6_takesE_307 : decode cX6_takesE 307 = .ok (.iload 4, 2) := by decide +kernel
theorem dX6_takesE_309 : decode cX6_takesE 309 = .ok (.invokestatic 228, 3) := by decide +kernel
theorem dX6_takesE_312 : decode cX6_takesE 312 = .ok (.invokevirtual 240, 3) := by decide +kernel
theorem dX6_takesE_315 : decode cX6_takesE 315 = .ok (.aload_n 0, 1) := by decide +kernel
theorem dX6_takesE_316 : decode cX6_takesE 316 = .ok (.getfield 41, 3) := by decide +kernel
theorem dX6_takesE_319 : decode cX6_takesE 319 = .ok (.aload_n 0, 1) := by decide +kernel
theorem dX6_takesE_320 : decode cX6_takesE 320 = .ok (.getfield 225, 3) := by decide +kernel
theorem dX6_takesE_323 : decode cX6_takesE 323 = .ok (.iload 4, 2) := by decide +kernel
theorem dX6_takesE_325 : decode cX6_takesE 325 = .ok (.iastore, 1) := by decide +kernel
theorem dX6_takesE_326 : decode cX6_takesE 326 = .ok (.aload_n 0, 1) := by decide +kernel
theorem dX6_takesE_327 : decode cX6_takesE 327 = .ok (.dup, 1) := by decide +kernel
theorem dX6_takesE_328 : decode cX6_takesE 328 = .ok (.getfield 225, 3) := by decide +kernel
theorem dX6_takesE_331 : decode cX6_takesE 331 = .ok (.iconst 1, 1) := by decide +kernel
theorem dX6_takesE_332 : decode cX6_takesE 332 = .ok (.iadd, 1) := by decide +kernel
theorem dX6_takesE_333 : decode cX6_takesE 333 = .ok (.putfield 225, 3) := by decide +kernel
theorem dX6_takesE_336 : decode cX6_takesE 336 = .ok (.iconst 1, 1) := by decide +kernel
theorem dX6_takesE_337 : decode cX6_takesE 337 = .ok (.istore_n 3, 1) := by decide +kernel
theorem dX6_takesE_338 : decode cX6_takesE 338 = .ok (.aload_n 0, 1) := by decide +kernel
theorem dX6_takesE_339 : decode cX6_takesE 339 = .ok (.invokevirtual 222, 3) := by decide +kernel
theorem dX6_takesE_342 : decode cX6_takesE 342 = .ok (.goto (-314), 3) := by decide +kernel
theorem dX6_takesE_345 : decode cX6_takesE 345 = .ok (.aload_n 0, 1) := by decide +kernel
theorem dX6_takesE_346 : decode cX6_takesE 346 = .ok (.iconst 0, 1) := by decide +kernel
theorem dX6_takesE_347 : decode cX6_takesE 347 = .ok (.invokevirtual 240, 3) := by decide +kernel
theorem dX6_takesE_350 : decode cX6_takesE 350 = .ok (.iload_n 1, 1) := by decide +kernel
theorem dX6_takesE_351 : decode cX6_takesE 351 = .ok (.ifCond .ne 7, 3) := by decide +kernel
theorem dX6_takesE_354 : decode cX6_takesE 354 = .ok (.iconst 1, 1) := by decide +kernel
theorem dX6_takesE_355 : decode cX6_takesE 355 = .ok (.goto 4, 3) := by decide +kernel
theorem dX6_takesE_358 : decode cX6_takesE 358 = .ok (.iconst 0, 1) := by decide +kernel
theorem dX6_takesE_359 : decode cX6_takesE 359 = .ok (.ireturn, 1) := by decide +kernel
theorem dX6_notsOpen_0 : decode cX6_notsOpen 0 = .ok (.iconst 0, 1) := by decide +kernel
theorem dX6_notsOpen_1 : decode cX6_notsOpen 1 = .ok (.istore_n 1, 1) := by decide +kernel
theorem dX6_notsOpen_2 : decode cX6_notsOpen 2 = .ok (.iconst 0, 1) := by decide +kernel
theorem dX6_notsOpen_3 : decode cX6_notsOpen 3 = .ok (.istore_n 2, 1) := by decide +kernel
theorem dX6_notsOpen_4 : decode cX6_notsOpen 4 = .ok (.iload_n 2, 1) := by decide +kernel
theorem dX6_notsOpen_5 : decode cX6_notsOpen 5 = .ok (.aload_n 0, 1) := by decide +kernel
theorem dX6_notsOpen_6 : decode cX6_notsOpen 6 = .ok (.getfield 225, 3) := by decide +kernel
theorem dX6_notsOpen_9 : decode cX6_notsOpen 9 = .ok (.if_icmp .ge 28, 3) := by decide +kernel
theorem dX6_notsOpen_12 : decode cX6_notsOpen 12 = .ok (.iload_n 1, 1) := by decide +kernel
theorem dX6_notsOpen_13 : decode cX6_notsOpen 13 = .ok (.aload_n 0, 1) := by decide +kernel
theorem dX6_notsOpen_14 : decode cX6_notsOpen 14 = .ok (.getfield 41, 3) := by decide +kernel
theorem dX6_notsOpen_17 : decode cX6_notsOpen 17 = .ok (.iload_n 2, 1) := by decide +kernel
theorem dX6_notsOpen_18 : decode cX6_notsOpen 18 = .ok (.iaload, 1) := by decide +kernel
theorem dX6_notsOpen_19 : decode cX6_notsOpen 19 = .ok (.bipush (-10), 2) := by decide +kernel
theorem dX6_notsOpen_21 : decode cX6_notsOpen 21 = .ok (.if_icmp .ne 7, 3) := by decide +kernel
theorem dX6_notsOpen_24 : decode cX6_notsOpen 24 = .ok (.iconst 1, 1) := by decide +kernel
theorem dX6_notsOpen_25 : decode cX6_notsOpen 25 = .ok (.goto 4, 3) := by decide +kernel
theorem dX6_notsOpen_28 : decode cX6_notsOpen 28 = .ok (.iconst 0, 1) := by decide +kernel
theorem dX6_notsOpen_29 : decode cX6_notsOpen 29 = .ok (.iadd, 1) := by decide +kernel
theorem dX6_notsOpen_30 : decode cX6_notsOpen 30 = .ok (.istore_n 1, 1) := by decide +kernel
theorem dX6_notsOpen_31 : decode cX6_notsOpen 31 = .ok (.iinc 2 1, 3) := by decide +kernel
theorem dX6_notsOpen_34 : decode cX6_notsOpen 34 = .ok (.goto (-30), 3) := by decide +kernel
theorem dX6_notsOpen_37 : decode cX6_notsOpen 37 = .ok (.iload_n 1, 1) := by decide +kernel
theorem dX6_notsOpen_38 : decode cX6_notsOpen 38 = .ok (.ireturn, 1) := by decide +kernel
theorem dX6_text_0 : decode cX6_text 0 = .ok (.aload_n 0, 1) := by decide +kernel
theorem dX6_text_1 : decode cX6_text 1 = .ok (.iconst 0, 1) := by decide +kernel
theorem dX6_text_2 : decode cX6_text 2 = .ok (.putfield 198, 3) := by decide +kernel
theorem dX6_text_5 : decode cX6_text 5 = .ok (.aload_n 0, 1) := by decide +kernel
theorem dX6_text_6 : decode cX6_text 6 = .ok (.iconst (-1), 1) := by decide +kernel
theorem dX6_text_7 : decode cX6_text 7 = .ok (.putfield 204, 3) := by decide +kernel
theorem dX6_text_10 : decode cX6_text 10 = .ok (.aload_n 0, 1) := by decide +kernel
theorem dX6_text_11 : decode cX6_text 11 = .ok (.invokevirtual 222, 3) := by decide +kernel
theorem dX6_text_14 : decode cX6_text 14 = .ok (.aload_n 0, 1) := by decide +kernel
theorem dX6_text_15 : decode cX6_text 15 = .ok (.invokevirtual 253, 3) := by decide +kernel
theorem dX6_text_18 : decode cX6_text 18 = .ok (.ifCond .eq 14, 3) := by decide +kernel
theorem dX6_text_21 : decode cX6_text 21 = .ok (.aload_n 0, 1) := by decide +kernel
theorem dX6_text_22 : decode cX6_text 22 = .ok (.invokevirtual 256, 3) := by decide +kernel
theorem dX6_text_25 : decode cX6_text 25 = .ok (.ifCond .eq 7, 3) := by decide +kernel
theorem dX6_text_28 : decode cX6_text 28 = .ok (.iconst 1, 1) := by decide +kernel
theorem dX6_text_29 : decode cX6_text 29 = .ok (.goto 4, 3) := by decide +kernel
theorem dX6_text_32 : decode cX6_text 32 = .ok (.iconst 0, 1) := by decide +kernel
theorem dX6_text_33 : decode cX6_text 33 = .ok (.istore_n 1, 1) := by decide +kernel
theorem dX6_text_34 : decode cX6_text 34 = .ok (.aload_n 0, 1) := by decide +kernel
theorem dX6_text_35 : decode cX6_text 35 = .ok (.iconst 0, 1) := by decide +kernel
theorem dX6_text_36 : decode cX6_text 36 = .ok (.putfield 194, 3) := by decide +kernel
theorem dX6_text_39 : decode cX6_text 39 = .ok (.iload_n 1, 1) := by decide +kernel
theorem dX6_text_40 : decode cX6_text 40 = .ok (.ifCond .ne 11, 3) := by decide +kernel
theorem dX6_text_43 : decode cX6_text 43 = .ok (.bipush (-100), 2) := by decide +kernel
theorem dX6_text_45 : decode cX6_text 45 = .ok (.aload_n 0, 1) := by decide +kernel
theorem dX6_text_46 : decode cX6_text 46 = .ok (.getfield 201, 3) := by decide +kernel
theorem dX6_text_49 : decode cX6_text 49 = .ok (.isub, 1) := by decide +kernel
theorem dX6_text_50 : decode cX6_text 50 = .ok (.ireturn, 1) := by decide +kernel
theorem dX6_text_51 : decode cX6_text 51 = .ok (.aload_n 0, 1) := by decide +kernel
theorem dX6_text_52 : decode cX6_text 52 = .ok (.getfield 9, 3) := by decide +kernel
theorem dX6_text_55 : decode cX6_text 55 = .ok (.bipush 7, 2) := by decide +kernel
theorem dX6_text_57 : decode cX6_text 57 = .ok (.iaload, 1) := by decide +kernel
theorem dX6_text_58 : decode cX6_text 58 = .ok (.bipush 14, 2) := by decide +kernel
theorem dX6_text_60 : decode cX6_text 60 = .ok (.if_icmp .ne 6, 3) := by decide +kernel
theorem dX6_text_63 : decode cX6_text 63 = .ok (.ldc 91, 2) := by decide +kernel
theorem dX6_text_65 : decode cX6_text 65 = .ok (.ireturn, 1) := by decide +kernel
theorem dX6_text_66 : decode cX6_text 66 = .ok (.aload_n 0, 1) := by decide +kernel
theorem dX6_text_67 : decode cX6_text 67 = .ok (.getfield 9, 3) := by decide +kernel
theorem dX6_text_70 : decode cX6_text 70 = .ok (.bipush 7, 2) := by decide +kernel
theorem dX6_text_72 : decode cX6_text 72 = .ok (.iaload, 1) := by decide +kernel
theorem dX6_text_73 : decode cX6_text 73 = .ok (.istore_n 2, 1) := by decide +kernel
theorem dX6_text_74 : decode cX6_text 74 = .ok (.aload_n 0, 1) := by decide +kernel
theorem dX6_text_75 : decode cX6_text 75 = .ok (.getfield 9, 3) := by decide +kernel
theorem dX6_text_78 : decode cX6_text 78 = .ok (.bipush 40, 2) := by decide +kernel
theorem dX6_text_80 : decode cX6_text 80 = .ok (.iconst 2, 1) := by decide +kernel
theorem dX6_text_81 : decode cX6_text 81 = .ok (.iload_n 2, 1) := by decide +kernel
theorem dX6_text_82 : decode cX6_text 82 = .ok (.imul, 1) := by decide +kernel
theorem dX6_text_83 : decode cX6_text 83 = .ok (.iadd, 1) := by decide +kernel
theorem dX6_text_84 : decode cX6_text 84 = .ok (.sipush 1000, 3) := by decide +kernel
theorem dX6_text_87 : decode cX6_text 87 = .ok (.aload_n 0, 1) := by decide +kernel
theorem dX6_text_88 : decode cX6_text 88 = .ok (.getfield 219, 3) := by decide +kernel
theorem dX6_text_91 : decode cX6_text 91 = .ok (.imul, 1) := by decide +kernel
theorem dX6_text_92 : decode cX6_text 92 = .ok (.aload_n 0, 1) := by decide +kernel
theorem dX6_text_93 : decode cX6_text 93 = .ok (.getfield 231, 3) := by decide +kernel
theorem dX6_text_96 : decode cX6_text 96 = .ok (.iadd, 1) := by decide +kernel
theorem dX6_text_97 : decode cX6_text 97 = .ok (.iastore, 1) := by decide +kernel
theorem dX6_text_98 : decode cX6_text 98 = .ok (.aload_n 0, 1) := by decide +kernel
theorem dX6_text_99 : decode cX6_text 99 = .ok (.getfield 9, 3) := by decide +kernel
theorem dX6_text_102 : decode cX6_text 102 = .ok (.bipush 40, 2) := by decide +kernel
theorem dX6_text_104 : decode cX6_text 104 = .ok (.iconst 2, 1) := by decide +kernel
theorem dX6_text_105 : decode cX6_text 105 = .ok (.iload_n 2, 1) := by decide +kernel
theorem dX6_text_106 : decode cX6_text 106 = .ok (.imul, 1) := by decide +kernel
theorem dX6_text_107 : decode cX6_text 107 = .ok (.iadd, 1) := by decide +kernel
theorem dX6_text_108 : decode cX6_text 108 = .ok (.iconst 1, 1) := by decide +kernel
theorem dX6_text_109 : decode cX6_text 109 = .ok (.iadd, 1) := by decide +kernel
theorem dX6_text_110 : decode cX6_text 110 = .ok (.aload_n 0, 1) := by decide +kernel
theorem dX6_text_111 : decode cX6_text 111 = .ok (.getfield 237, 3) := by decide +kernel
theorem dX6_text_114 : decode cX6_text 114 = .ok (.iastore, 1) := by decide +kernel
theorem dX6_text_115 : decode cX6_text 115 = .ok (.iconst 0, 1) := by decide +kernel
theorem dX6_text_116 : decode cX6_text 116 = .ok (.istore_n 3, 1) := by decide +kernel
theorem dX6_text_117 : decode cX6_text 117 = .ok (.iload_n 3, 1) := by decide +kernel
theorem dX6_text_118 : decode cX6_text 118 = .ok (.aload_n 0, 1) := by decide +kernel
theorem dX6_text_119 : decode cX6_text 119 = .ok (.getfield 231, 3) := by decide +kernel
theorem dX6_text_122 : decode cX6_text 122 = .ok (.if_icmp .ge 29, 3) := by decide +kernel
theorem dX6_text_125 : decode cX6_text 125 = .ok (.aload_n 0, 1) := by decide +kernel
theorem dX6_text_126 : decode cX6_text 126 = .ok (.getfield 9, 3) := by decide +kernel
theorem dX6_text_129 : decode cX6_text 129 = .ok (.bipush 68, 2) := by decide +kernel
theorem dX6_text_131 : decode cX6_text 131 = .ok (.bipush 96, 2) := by decide +kernel
theorem dX6_text_133 : decode cX6_text 133 = .ok (.iload_n 2, 1) := by decide +kernel
theorem dX6_text_134 : decode cX6_text 134 = .ok (.imul, 1) := by decide +kernel
theorem dX6_text_135 : decode cX6_text 135 = .ok (.iadd, 1) := by decide +kernel
theorem dX6_text_136 : decode cX6_text 136 = .ok (.iload_n 3, 1) := by decide +kernel
theorem dX6_text_137 : decode cX6_text 137 = .ok (.iadd, 1) := by decide +kernel
theorem dX6_text_138 : decode cX6_text 138 = .ok (.aload_n 0, 1) := by decide +kernel
theorem dX6_text_139 : decode cX6_text 139 = .ok (.getfield 38, 3) := by decide +kernel
theorem dX6_text_142 : decode cX6_text 142 = .ok (.iload_n 3, 1) := by decide +kernel
theorem dX6_text_143 : decode cX6_text 143 = .ok (.iaload, 1) := by decide +kernel
theorem dX6_text_144 : decode cX6_text 144 = .ok (.iastore, 1) := by decide +kernel
theorem dX6_text_145 : decode cX6_text 145 = .ok (.iinc 3 1, 3) := by decide +kernel
theorem dX6_text_148 : decode cX6_text 148 = .ok (.goto (-31), 3) := by decide +kernel
theorem dX6_text_151 : decode cX6_text 151 = .ok (.aload_n 0, 1) := by decide +kernel
theorem dX6_text_152 : decode cX6_text 152 = .ok (.getfield 9, 3) := by decide +kernel
theorem dX6_text_155 : decode cX6_text 155 = .ok (.bipush 7, 2) := by decide +kernel
theorem dX6_text_157 : decode cX6_text 157 = .ok (.dup2, 1) := by decide +kernel
theorem dX6_text_158 : decode cX6_text 158 = .ok (.iaload, 1) := by decide +kernel
theorem dX6_text_159 : decode cX6_text 159 = .ok (.iconst 1, 1) := by decide +kernel
theorem dX6_text_160 : decode cX6_text 160 = .ok (.iadd, 1) := by decide +kernel
theorem dX6_text_161 : decode cX6_text 161 = .ok (.iastore, 1) := by decide +kernel
theorem dX6_text_162 : decode cX6_text 162 = .ok (.iload_n 2, 1) := by decide +kernel
theorem dX6_text_163 : decode cX6_text 163 = .ok (.ireturn, 1) := by decide +kernel
theorem dX6_textTold_0 : decode cX6_textTold 0 = .ok (.iload_n 1, 1) := by decide +kernel
theorem dX6_textTold_1 : decode cX6_textTold 1 = .ok (.iconst 0, 1) := by decide +kernel
theorem dX6_textTold_2 : decode cX6_textTold 2 = .ok (.aload_n 0, 1) := by decide +kernel
theorem dX6_textTold_3 : decode cX6_textTold 3 = .ok (.getfield 9, 3) := by decide +kernel
theorem dX6_textTold_6 : decode cX6_textTold 6 = .ok (.bipush 7, 2) := by decide +kernel
theorem dX6_textTold_8 : decode cX6_textTold 8 = .ok (.iaload, 1) := by decide +kernel
theorem dX6_textTold_9 : decode cX6_textTold 9 = .ok (.iconst 1, 1) := by decide +kernel
theorem dX6_textTold_10 : decode cX6_textTold 10 = .ok (.isub, 1) := by decide +kernel
theorem dX6_textTold_11 : decode cX6_textTold 11 = .ok (.invokestatic 82, 3) := by decide +kernel
theorem dX6_textTold_14 : decode cX6_textTold 14 = .ok (.ifCond .eq 12, 3) := by decide +kernel
theorem dX6_textTold_17 : decode cX6_textTold 17 = .ok (.iload_n 2, 1) := by decide +kernel
theorem dX6_textTold_18 : decode cX6_textTold 18 = .ok (.iconst 0, 1) := by decide +kernel
theorem dX6_textTold_19 : decode cX6_textTold 19 = .ok (.iconst 1, 1) := by decide +kernel
theorem dX6_textTold_20 : decode cX6_textTold 20 = .ok (.invokestatic 82, 3) := by decide +kernel
theorem dX6_textTold_23 : decode cX6_textTold 23 = .ok (.ifCond .ne 6, 3) := by decide +kernel
theorem dX6_textTold_26 : decode cX6_textTold 26 = .ok (.ldc 90, 2) := by decide +kernel
theorem dX6_textTold_28 : decode cX6_textTold 28 = .ok (.ireturn, 1) := by decide +kernel
theorem dX6_textTold_29 : decode cX6_textTold 29 = .ok (.iload_n 2, 1) := by decide +kernel
theorem dX6_textTold_30 : decode cX6_textTold 30 = .ok (.ifCond .ne 21, 3) := by decide +kernel
theorem dX6_textTold_33 : decode cX6_textTold 33 = .ok (.aload_n 0, 1) := by decide +kernel
theorem dX6_textTold_34 : decode cX6_textTold 34 = .ok (.getfield 9, 3) := by decide +kernel
theorem dX6_textTold_37 : decode cX6_textTold 37 = .ok (.bipush 40, 2) := by decide +kernel
theorem dX6_textTold_39 : decode cX6_textTold 39 = .ok (.iconst 2, 1) := by decide +kernel
theorem dX6_textTold_40 : decode cX6_textTold 40 = .ok (.iload_n 1, 1) := by decide +kernel
theorem dX6_textTold_41 : decode cX6_textTold 41 = .ok (.imul, 1) := by decide +kernel
theorem dX6_textTold_42 : decode cX6_textTold 42 = .ok (.iadd, 1) := by decide +kernel
theorem dX6_textTold_43 : decode cX6_textTold 43 = .ok (.iaload, 1) := by decide +kernel
theorem dX6_textTold_44 : decode cX6_textTold 44 = .ok (.sipush 1000, 3) := by decide +kernel
theorem dX6_textTold_47 : decode cX6_textTold 47 = .ok (.idiv, 1) := by decide +kernel
theorem dX6_textTold_48 : decode cX6_textTold 48 = .ok (.goto 16, 3) := by decide +kernel
theorem dX6_textTold_51 : decode cX6_textTold 51 = .ok (.aload_n 0, 1) := by decide +kernel
theorem dX6_textTold_52 : decode cX6_textTold 52 = .ok (.getfield 9, 3) := by decide +kernel
theorem dX6_textTold_55 : decode cX6_textTold 55 = .ok (.bipush 40, 2) := by decide +kernel
theorem dX6_textTold_57 : decode cX6_textTold 57 = .ok (.iconst 2, 1) := by decide +kernel
theorem dX6_textTold_58 : decode cX6_textTold 58 = .ok (.iload_n 1, 1) := by decide +kernel
theorem dX6_textTold_59 : decode cX6_textTold 59 = .ok (.imul, 1) := by decide +kernel
theorem dX6_textTold_60 : decode cX6_textTold 60 = .ok (.iadd, 1) := by decide +kernel
theorem dX6_textTold_61 : decode cX6_textTold 61 = .ok (.iconst 1, 1) := by decide +kernel
theorem dX6_textTold_62 : decode cX6_textTold 62 = .ok (.iadd, 1) := by decide +kernel
theorem dX6_textTold_63 : decode cX6_textTold 63 = .ok (.iaload, 1) := by decide +kernel
theorem dX6_textTold_64 : decode cX6_textTold 64 = .ok (.ireturn, 1) := by decide +kernel
theorem dX6_counts_0 : decode cX6_counts 0 = .ok (.aload_n 0, 1) := by decide +kernel
theorem dX6_counts_1 : decode cX6_counts 1 = .ok (.getfield 9, 3) := by decide +kernel
theorem dX6_counts_4 : decode cX6_counts 4 = .ok (.bipush 7, 2) := by decide +kernel
theorem dX6_counts_6 : decode cX6_counts 6 = .ok (.iaload, 1) := by decide +kernel
theorem dX6_counts_7 : decode cX6_counts 7 = .ok (.iconst 1, 1) := by decide +kernel
theorem dX6_counts_8 : decode cX6_counts 8 = .ok (.isub, 1) := by decide +kernel
theorem dX6_counts_9 : decode cX6_counts 9 = .ok (.istore_n 2, 1) := by decide +kernel
theorem dX6_counts_10 : decode cX6_counts 10 = .ok (.iload_n 2, 1) := by decide +kernel
theorem dX6_counts_11 : decode cX6_counts 11 = .ok (.ifCond .lt 30, 3) := by decide +kernel
theorem dX6_counts_14 : decode cX6_counts 14 = .ok (.aload_n 0, 1) := by decide +kernel
theorem dX6_counts_15 : decode cX6_counts 15 = .ok (.getfield 9, 3) := by decide +kernel
theorem dX6_counts_18 : decode cX6_counts 18 = .ok (.bipush 40, 2) := by decide +kernel
theorem dX6_counts_20 : decode cX6_counts 20 = .ok (.iconst 2, 1) := by decide +kernel
theorem dX6_counts_21 : decode cX6_counts 21 = .ok (.iload_n 2, 1) := by decide +kernel
theorem dX6_counts_22 : decode cX6_counts 22 = .ok (.imul, 1) := by decide +kernel
theorem dX6_counts_23 : decode cX6_counts 23 = .ok (.iadd, 1) := by decide +kernel
theorem dX6_counts_24 : decode cX6_counts 24 = .ok (.iaload, 1) := by decide +kernel
theorem dX6_counts_25 : decode cX6_counts 25 = .ok (.sipush 1000, 3) := by decide +kernel
theorem dX6_counts_28 : decode cX6_counts 28 = .ok (.idiv, 1) := by decide +kernel
theorem dX6_counts_29 : decode cX6_counts 29 = .ok (.iload_n 1, 1) := by decide +kernel
theorem dX6_counts_30 : decode cX6_counts 30 = .ok (.if_icmp .ne 5, 3) := by decide +kernel
theorem dX6_counts_33 : decode cX6_counts 33 = .ok (.iload_n 2, 1) := by decide +kernel
theorem dX6_counts_34 : decode cX6_counts 34 = .ok (.ireturn, 1) := by decide +kernel
theorem dX6_counts_35 : decode cX6_counts 35 = .ok (.iinc 2 (-1), 3) := by decide +kernel
theorem dX6_counts_38 : decode cX6_counts 38 = .ok (.goto (-28), 3) := by decide +kernel
theorem dX6_counts_41 : decode cX6_counts 41 = .ok (.iconst (-1), 1) := by decide +kernel
theorem dX6_counts_42 : decode cX6_counts 42 = .ok (.ireturn, 1) := by decide +kernel
theorem dX6_why_0 : decode cX6_why 0 = .ok (.iload_n 1, 1) := by decide +kernel
theorem dX6_why_1 : decode cX6_why 1 = .ok (.iconst 0, 1) := by decide +kernel
theorem dX6_why_2 : decode cX6_why 2 = .ok (.iconst 2, 1) := by decide +kernel
theorem dX6_why_3 : decode cX6_why 3 = .ok (.invokestatic 82, 3) := by decide +kernel
theorem dX6_why_6 : decode cX6_why 6 = .ok (.ifCond .ne 6, 3) := by decide +kernel
theorem dX6_why_9 : decode cX6_why 9 = .ok (.ldc 90, 2) := by decide +kernel
theorem dX6_why_11 : decode cX6_why 11 = .ok (.ireturn, 1) := by decide +kernel
theorem dX6_why_12 : decode cX6_why 12 = .ok (.aload_n 0, 1) := by decide +kernel
theorem dX6_why_13 : decode cX6_why 13 = .ok (.iload_n 1, 1) := by decide +kernel
theorem dX6_why_14 : decode cX6_why 14 = .ok (.invokevirtual 112, 3) := by decide +kernel
theorem dX6_why_17 : decode cX6_why 17 = .ok (.istore_n 2, 1) := by decide +kernel
theorem dX6_why_18 : decode cX6_why 18 = .ok (.iload_n 2, 1) := by decide +kernel
theorem dX6_why_19 : decode cX6_why 19 = .ok (.ifCond .ge 8, 3) := by decide +kernel
theorem dX6_why_22 : decode cX6_why 22 = .ok (.ldc 81, 2) := by decide +kernel
theorem dX6_why_24 : decode cX6_why 24 = .ok (.goto 4, 3) := by decide +kernel
theorem dX6_why_27 : decode cX6_why 27 = .ok (.iload_n 2, 1) := by decide +kernel
theorem dX6_why_28 : decode cX6_why 28 = .ok (.ireturn, 1) := by decide +kernel
theorem dX6_two_0 : decode cX6_two 0 = .ok (.iload_n 0, 1) := by decide +kernel
theorem dX6_two_1 : decode cX6_two 1 = .ok (.tableswitch 120 (-8) (-1) #[116, 112, 108, 97, 86, 75, 61, 47], 47) := by decide +kernel
theorem dX6_two_48 : decode cX6_two 48 = .ok (.iload_n 1, 1) := by decide +kernel
theorem dX6_two_49 : decode cX6_two 49 = .ok (.ifCond .ne 7, 3) := by decide +kernel
theorem dX6_two_52 : decode cX6_two 52 = .ok (.iload_n 2, 1) := by decide +kernel
theorem dX6_two_53 : decode cX6_two 53 = .ok (.ifCond .eq 7, 3) := by decide +kernel
theorem dX6_two_56 : decode cX6_two 56 = .ok (.iconst 1, 1) := by decide +kernel
theorem dX6_two_57 : decode cX6_two 57 = .ok (.goto 4, 3) := by decide +kernel
theorem dX6_two_60 : decode cX6_two 60 = .ok (.iconst 0, 1) := by decide +kernel
theorem dX6_two_61 : decode cX6_two 61 = .ok (.ireturn, 1) := by decide +kernel
theorem dX6_two_62 : decode cX6_two 62 = .ok (.iload_n 1, 1) := by decide +kernel
theorem dX6_two_63 : decode cX6_two 63 = .ok (.ifCond .eq 11, 3) := by decide +kernel
theorem dX6_two_66 : decode cX6_two 66 = .ok (.iload_n 2, 1) := by decide +kernel
theorem dX6_two_67 : decode cX6_two 67 = .ok (.ifCond .eq 7, 3) := by decide +kernel
theorem dX6_two_70 : decode cX6_two 70 = .ok (.iconst 1, 1) := by decide +kernel
theorem dX6_two_71 : decode cX6_two 71 = .ok (.goto 4, 3) := by decide +kernel
theorem dX6_two_74 : decode cX6_two 74 = .ok (.iconst 0, 1) := by decide +kernel
theorem dX6_two_75 : decode cX6_two 75 = .ok (.ireturn, 1) := by decide +kernel
theorem dX6_two_76 : decode cX6_two 76 = .ok (.iload_n 1, 1) := by decide +kernel
theorem dX6_two_77 : decode cX6_two 77 = .ok (.iload_n 2, 1) := by decide +kernel
theorem dX6_two_78 : decode cX6_two 78 = .ok (.if_icmp .ge 7, 3) := by decide +kernel
theorem dX6_two_81 : decode cX6_two 81 = .ok (.iconst 1, 1) := by decide +kernel
theorem dX6_two_82 : decode cX6_two 82 = .ok (.goto 4, 3) := by decide +kernel
theorem dX6_two_85 : decode cX6_two 85 = .ok (.iconst 0, 1) := by decide +kernel
theorem dX6_two_86 : decode cX6_two 86 = .ok (.ireturn, 1) := by decide +kernel
theorem dX6_two_87 : decode cX6_two 87 = .ok (.iload_n 1, 1) := by decide +kernel
theorem dX6_two_88 : decode cX6_two 88 = .ok (.iload_n 2, 1) := by decide +kernel
theorem dX6_two_89 : decode cX6_two 89 = .ok (.if_icmp .ne 7, 3) := by decide +kernel
theorem dX6_two_92 : decode cX6_two 92 = .ok (.iconst 1, 1) := by decide +kernel
theorem dX6_two_93 : decode cX6_two 93 = .ok (.goto 4, 3) := by decide +kernel
theorem dX6_two_96 : decode cX6_two 96 = .ok (.iconst 0, 1) := by decide +kernel
theorem dX6_two_97 : decode cX6_two 97 = .ok (.ireturn, 1) := by decide +kernel
theorem dX6_two_98 : decode cX6_two 98 = .ok (.iload_n 1, 1) := by decide +kernel
theorem dX6_two_99 : decode cX6_two 99 = .ok (.iload_n 2, 1) := by decide +kernel
theorem dX6_two_100 : decode cX6_two 100 = .ok (.if_icmp .le 7, 3) := by decide +kernel
theorem dX6_two_103 : decode cX6_two 103 = .ok (.iconst 1, 1) := by decide +kernel
theorem dX6_two_104 : decode cX6_two 104 = .ok (.goto 4, 3) := by decide +kernel
theorem dX6_two_107 : decode cX6_two 107 = .ok (.iconst 0, 1) := by decide +kernel
theorem dX6_two_108 : decode cX6_two 108 = .ok (.ireturn, 1) := by decide +kernel
theorem dX6_two_109 : decode cX6_two 109 = .ok (.iload_n 1, 1) := by decide +kernel
theorem dX6_two_110 : decode cX6_two 110 = .ok (.iload_n 2, 1) := by decide +kernel
theorem dX6_two_111 : decode cX6_two 111 = .ok (.iadd, 1) := by decide +kernel
theorem dX6_two_112 : decode cX6_two 112 = .ok (.ireturn, 1) := by decide +kernel
theorem dX6_two_113 : decode cX6_two 113 = .ok (.iload_n 1, 1) := by decide +kernel
theorem dX6_two_114 : decode cX6_two 114 = .ok (.iload_n 2, 1) := by decide +kernel
theorem dX6_two_115 : decode cX6_two 115 = .ok (.isub, 1) := by decide +kernel
theorem dX6_two_116 : decode cX6_two 116 = .ok (.ireturn, 1) := by decide +kernel
theorem dX6_two_117 : decode cX6_two 117 = .ok (.iload_n 1, 1) := by decide +kernel
theorem dX6_two_118 : decode cX6_two 118 = .ok (.iload_n 2, 1) := by decide +kernel
theorem dX6_two_119 : decode cX6_two 119 = .ok (.imul, 1) := by decide +kernel
theorem dX6_two_120 : decode cX6_two 120 = .ok (.ireturn, 1) := by decide +kernel
theorem dX6_two_121 : decode cX6_two 121 = .ok (.iload_n 2, 1) := by decide +kernel
theorem dX6_two_122 : decode cX6_two 122 = .ok (.ifCond .ne 7, 3) := by decide +kernel
theorem dX6_two_125 : decode cX6_two 125 = .ok (.iconst 0, 1) := by decide +kernel
theorem dX6_two_126 : decode cX6_two 126 = .ok (.goto 6, 3) := by decide +kernel
theorem dX6_two_129 : decode cX6_two 129 = .ok (.iload_n 1, 1) := by decide +kernel
theorem dX6_two_130 : decode cX6_two 130 = .ok (.iload_n 2, 1) := by decide +kernel
theorem dX6_two_131 : decode cX6_two 131 = .ok (.idiv, 1) := by decide +kernel
theorem dX6_two_132 : decode cX6_two 132 = .ok (.ireturn, 1) := by decide +kernel
theorem dX6_worksOut_0 : decode cX6_worksOut 0 = .ok (.iconst 0, 1) := by decide +kernel
theorem dX6_worksOut_1 : decode cX6_worksOut 1 = .ok (.istore_n 2, 1) := by decide +kernel
theorem dX6_worksOut_2 : decode cX6_worksOut 2 = .ok (.aload_n 0, 1) := by decide +kernel
theorem dX6_worksOut_3 : decode cX6_worksOut 3 = .ok (.getfield 9, 3) := by decide +kernel
theorem dX6_worksOut_6 : decode cX6_worksOut 6 = .ok (.bipush 40, 2) := by decide +kernel
theorem dX6_worksOut_8 : decode cX6_worksOut 8 = .ok (.iconst 2, 1) := by decide +kernel
theorem dX6_worksOut_9 : decode cX6_worksOut 9 = .ok (.iload_n 1, 1) := by decide +kernel
theorem dX6_worksOut_10 : decode cX6_worksOut 10 = .ok (.imul, 1) := by decide +kernel
theorem dX6_worksOut_11 : decode cX6_worksOut 11 = .ok (.iadd, 1) := by decide +kernel
theorem dX6_worksOut_12 : decode cX6_worksOut 12 = .ok (.iaload, 1) := by decide +kernel
theorem dX6_worksOut_13 : decode cX6_worksOut 13 = .ok (.sipush 1000, 3) := by decide +kernel
theorem dX6_worksOut_16 : decode cX6_worksOut 16 = .ok (.irem, 1) := by decide +kernel
theorem dX6_worksOut_17 : decode cX6_worksOut 17 = .ok (.istore_n 3, 1) := by decide +kernel
theorem dX6_worksOut_18 : decode cX6_worksOut 18 = .ok (.iconst 0, 1) := by decide +kernel
theorem dX6_worksOut_19 : decode cX6_worksOut 19 = .ok (.istore 4, 2) := by decide +kernel
theorem dX6_worksOut_21 : decode cX6_worksOut 21 = .ok (.iload 4, 2) := by decide +kernel
theorem dX6_worksOut_23 : decode cX6_worksOut 23 = .ok (.iload_n 3, 1) := by decide +kernel
theorem dX6_worksOut_24 : decode cX6_worksOut 24 = .ok (.if_icmp .ge 131, 3) := by decide +kernel
theorem dX6_worksOut_27 : decode cX6_worksOut 27 = .ok (.aload_n 0, 1) := by decide +kernel
theorem dX6_worksOut_28 : decode cX6_worksOut 28 = .ok (.getfield 9, 3) := by decide +kernel
theorem dX6_worksOut_31 : decode cX6_worksOut 31 = .ok (.bipush 68, 2) := by decide +kernel
theorem dX6_worksOut_33 : decode cX6_worksOut 33 = .ok (.bipush 96, 2) := by decide +kernel
theorem dX6_worksOut_35 : decode cX6_worksOut 35 = .ok (.iload_n 1, 1) := by decide +kernel
theorem dX6_worksOut_36 : decode cX6_worksOut 36 = .ok (.imul, 1) := by decide +kernel
theorem dX6_worksOut_37 : decode cX6_worksOut 37 = .ok (.iadd, 1) := by decide +kernel
theorem dX6_worksOut_38 : decode cX6_worksOut 38 = .ok (.iload 4, 2) := by decide +kernel
theorem dX6_worksOut_40 : decode cX6_worksOut 40 = .ok (.iadd, 1) := by decide +kernel
theorem dX6_worksOut_41 : decode cX6_worksOut 41 = .ok (.iaload, 1) := by decide +kernel
theorem dX6_worksOut_42 : decode cX6_worksOut 42 = .ok (.istore 5, 2) := by decide +kernel
theorem dX6_worksOut_44 : decode cX6_worksOut 44 = .ok (.iload 5, 2) := by decide +kernel
theorem dX6_worksOut_46 : decode cX6_worksOut 46 = .ok (.ifCond .lt 39, 3) := by decide +kernel
theorem dX6_worksOut_49 : decode cX6_worksOut 49 = .ok (.aload_n 0, 1) := by decide +kernel
theorem dX6_worksOut_50 : decode cX6_worksOut 50 = .ok (.getfield 48, 3) := by decide +kernel
theorem dX6_worksOut_53 : decode cX6_worksOut 53 = .ok (.iload_n 2, 1) := by decide +kernel
theorem dX6_worksOut_54 : decode cX6_worksOut 54 = .ok (.iload 5, 2) := by decide +kernel
theorem dX6_worksOut_56 : decode cX6_worksOut 56 = .ok (.sipush 10000, 3) := by decide +kernel
theorem dX6_worksOut_59 : decode cX6_worksOut 59 = .ok (.if_icmp .ge 8, 3) := by decide +kernel
theorem dX6_worksOut_62 : decode cX6_worksOut 62 = .ok (.iload 5, 2) := by decide +kernel
theorem dX6_worksOut_64 : decode cX6_worksOut 64 = .ok (.goto 14, 3) := by decide +kernel
theorem dX6_worksOut_67 : decode cX6_worksOut 67 = .ok (.aload_n 0, 1) := by decide +kernel
theorem dX6_worksOut_68 : decode cX6_worksOut 68 = .ok (.getfield 51, 3) := by decide +kernel
theorem dX6_worksOut_71 : decode cX6_worksOut 71 = .ok (.iload 5, 2) := by decide +kernel
theorem dX6_worksOut_73 : decode cX6_worksOut 73 = .ok (.sipush 10000, 3) := by decide +kernel
theorem dX6_worksOut_76 : decode cX6_worksOut 76 = .ok (.isub, 1) := by decide +kernel
theorem dX6_worksOut_77 : decode cX6_worksOut 77 = .ok (.iaload, 1) := by decide +kernel
theorem dX6_worksOut_78 : decode cX6_worksOut 78 = .ok (.iastore, 1) := by decide +kernel
theorem dX6_worksOut_79 : decode cX6_worksOut 79 = .ok (.iinc 2 1, 3) := by decide +kernel
theorem dX6_worksOut_82 : decode cX6_worksOut 82 = .ok (.goto 67, 3) := by decide +kernel
theorem dX6_worksOut_85 : decode cX6_worksOut 85 = .ok (.iload 5, 2) := by decide +kernel
theorem dX6_worksOut_87 : decode cX6_worksOut 87 = .ok (.bipush (-10), 2) := by decide +kernel
theorem dX6_worksOut_89 : decode cX6_worksOut 89 = .ok (.if_icmp .ne 30, 3) := by decide +kernel
theorem dX6_worksOut_92 : decode cX6_worksOut 92 = .ok (.aload_n 0, 1) := by decide +kernel
theorem dX6_worksOut_93 : decode cX6_worksOut 93 = .ok (.getfield 48, 3) := by decide +kernel
theorem dX6_worksOut_96 : decode cX6_worksOut 96 = .ok (.iload_n 2, 1) := by decide +kernel
theorem dX6_worksOut_97 : decode cX6_worksOut 97 = .ok (.iconst 1, 1) := by decide +kernel
theorem dX6_worksOut_98 : decode cX6_worksOut 98 = .ok (.isub, 1) := by decide +kernel
theorem dX6_worksOut_99 : decode cX6_worksOut 99 = .ok (.aload_n 0, 1) := by decide +kernel
theorem dX6_worksOut_100 : decode cX6_worksOut 100 = .ok (.getfield 48, 3) := by decide +kernel
theorem dX6_worksOut_103 : decode cX6_worksOut 103 = .ok (.iload_n 2, 1) := by decide +kernel
theorem dX6_worksOut_104 : decode cX6_worksOut 104 = .ok (.iconst 1, 1) := by decide +kernel
theorem dX6_worksOut_105 : decode cX6_worksOut 105 = .ok (.isub, 1) := by decide +kernel
theorem dX6_worksOut_106 : decode cX6_worksOut 106 = .ok (.iaload, 1) := by decide +kernel
theorem dX6_worksOut_107 : decode cX6_worksOut 107 = .ok (.ifCond .ne 7, 3) := by decide +kernel
theorem dX6_worksOut_110 : decode cX6_worksOut 110 = .ok (.iconst 1, 1) := by decide +kernel
theorem dX6_worksOut_111 : decode cX6_worksOut 111 = .ok (.goto 4, 3) := by decide +kernel
theorem dX6_worksOut_114 : decode cX6_worksOut 114 = .ok (.iconst 0, 1) := by decide +kernel
theorem dX6_worksOut_115 : decode cX6_worksOut 115 = .ok (.iastore, 1) := by decide +kernel
theorem dX6_worksOut_116 : decode cX6_worksOut 116 = .ok (.goto 33, 3) := by decide +kernel
theorem dX6_worksOut_119 : decode cX6_worksOut 119 = .ok (.iinc 2 (-1), 3) := by decide +kernel
theorem dX6_worksOut_122 : decode cX6_worksOut 122 = .ok (.aload_n 0, 1) := by decide +kernel
theorem dX6_worksOut_123 : decode cX6_worksOut 123 = .ok (.getfield 48, 3) := by decide +kernel
theorem dX6_worksOut_126 : decode cX6_worksOut 126 = .ok (.iload_n 2, 1) := by decide +kernel
theorem dX6_worksOut_127 : decode cX6_worksOut 127 = .ok (.iconst 1, 1) := by decide +kernel
theorem dX6_worksOut_128 : decode cX6_worksOut 128 = .ok (.isub, 1) := by decide +kernel
theorem dX6_worksOut_129 : decode cX6_worksOut 129 = .ok (.iload 5, 2) := by decide +kernel
theorem dX6_worksOut_131 : decode cX6_worksOut 131 = .ok (.aload_n 0, 1) := by decide +kernel
theorem dX6_worksOut_132 : decode cX6_worksOut 132 = .ok (.getfield 48, 3) := by decide +kernel
theorem dX6_worksOut_135 : decode cX6_worksOut 135 = .ok (.iload_n 2, 1) := by decide +kernel
theorem dX6_worksOut_136 : decode cX6_worksOut 136 = .ok (.iconst 1, 1) := by decide +kernel
theorem dX6_worksOut_137 : decode cX6_worksOut 137 = .ok (.isub, 1) := by decide +kernel
theorem dX6_worksOut_138 : decode cX6_worksOut 138 = .ok (.iaload, 1) := by decide +kernel
theorem dX6_worksOut_139 : decode cX6_worksOut 139 = .ok (.aload_n 0, 1) := by decide +kernel
theorem dX6_worksOut_140 : decode cX6_worksOut 140 = .ok (.getfield 48, 3) := by decide +kernel
theorem dX6_worksOut_143 : decode cX6_worksOut 143 = .ok (.iload_n 2, 1) := by decide +kernel
theorem dX6_worksOut_144 : decode cX6_worksOut 144 = .ok (.iaload, 1) := by decide +kernel
theorem dX6_worksOut_145 : decode cX6_worksOut 145 = .ok (.invokestatic 259, 3) := by decide +kernel
theorem dX6_worksOut_148 : decode cX6_worksOut 148 = .ok (.iastore, 1) := by decide +kernel
theorem dX6_worksOut_149 : decode cX6_worksOut 149 = .ok (.iinc 4 1, 3) := by decide +kernel
theorem dX6_worksOut_152 : decode cX6_worksOut 152 = .ok (.goto (-131), 3) := by decide +kernel
theorem dX6_worksOut_155 : decode cX6_worksOut 155 = .ok (.aload_n 0, 1) := by decide +kernel
theorem dX6_worksOut_156 : decode cX6_worksOut 156 = .ok (.getfield 48, 3) := by decide +kernel
theorem dX6_worksOut_159 : decode cX6_worksOut 159 = .ok (.iconst 0, 1) := by decide +kernel
theorem dX6_worksOut_160 : decode cX6_worksOut 160 = .ok (.iaload, 1) := by decide +kernel
theorem dX6_worksOut_161 : decode cX6_worksOut 161 = .ok (.ireturn, 1) := by decide +kernel
theorem dX6_isSheet_0 : decode cX6_isSheet 0 = .ok (.iload_n 0, 1) := by decide +kernel
theorem dX6_isSheet_1 : decode cX6_isSheet 1 = .ok (.iconst 0, 1) := by decide +kernel
theorem dX6_isSheet_2 : decode cX6_isSheet 2 = .ok (.iconst 3, 1) := by decide +kernel
theorem dX6_isSheet_3 : decode cX6_isSheet 3 = .ok (.invokestatic 82, 3) := by decide +kernel
theorem dX6_isSheet_6 : decode cX6_isSheet 6 = .ok (.ireturn, 1) := by decide +kernel
theorem dX6_isSlot_0 : decode cX6_isSlot 0 = .ok (.iload_n 0, 1) := by decide +kernel
theorem dX6_isSlot_1 : decode cX6_isSlot 1 = .ok (.iconst 0, 1) := by decide +kernel
theorem dX6_isSlot_2 : decode cX6_isSlot 2 = .ok (.iconst 4, 1) := by decide +kernel
theorem dX6_isSlot_3 : decode cX6_isSlot 3 = .ok (.invokestatic 82, 3) := by decide +kernel
theorem dX6_isSlot_6 : decode cX6_isSlot 6 = .ok (.ireturn, 1) := by decide +kernel
theorem dX6_sheet_0 : decode cX6_sheet 0 = .ok (.iload_n 1, 1) := by decide +kernel
theorem dX6_sheet_1 : decode cX6_sheet 1 = .ok (.invokestatic 177, 3) := by decide +kernel
theorem dX6_sheet_4 : decode cX6_sheet 4 = .ok (.ifCond .eq 22, 3) := by decide +kernel
theorem dX6_sheet_7 : decode cX6_sheet 7 = .ok (.iload_n 2, 1) := by decide +kernel
theorem dX6_sheet_8 : decode cX6_sheet 8 = .ok (.iconst (-1), 1) := by decide +kernel
theorem dX6_sheet_9 : decode cX6_sheet 9 = .ok (.iconst 1, 1) := by decide +kernel
theorem dX6_sheet_10 : decode cX6_sheet 10 = .ok (.invokestatic 82, 3) := by decide +kernel
theorem dX6_sheet_13 : decode cX6_sheet 13 = .ok (.ifCond .eq 13, 3) := by decide +kernel
theorem dX6_sheet_16 : decode cX6_sheet 16 = .ok (.iload_n 2, 1) := by decide +kernel
theorem dX6_sheet_17 : decode cX6_sheet 17 = .ok (.ifCond .lt 12, 3) := by decide +kernel
theorem dX6_sheet_20 : decode cX6_sheet 20 = .ok (.iload_n 3, 1) := by decide +kernel
theorem dX6_sheet_21 : decode cX6_sheet 21 = .ok (.bipush 24, 2) := by decide +kernel
theorem dX6_sheet_23 : decode cX6_sheet 23 = .ok (.if_icmp .le 6, 3) := by decide +kernel
theorem dX6_sheet_26 : decode cX6_sheet 26 = .ok (.ldc 90, 2) := by decide +kernel
theorem dX6_sheet_28 : decode cX6_sheet 28 = .ok (.ireturn, 1) := by decide +kernel
theorem dX6_sheet_29 : decode cX6_sheet 29 = .ok (.iload_n 2, 1) := by decide +kernel
theorem dX6_sheet_30 : decode cX6_sheet 30 = .ok (.ifCond .lt 11, 3) := by decide +kernel
theorem dX6_sheet_33 : decode cX6_sheet 33 = .ok (.iload_n 3, 1) := by decide +kernel
theorem dX6_sheet_34 : decode cX6_sheet 34 = .ok (.ifCond .ge 7, 3) := by decide +kernel
theorem dX6_sheet_37 : decode cX6_sheet 37 = .ok (.ldc_w 262, 3) := by decide +kernel
theorem dX6_sheet_40 : decode cX6_sheet 40 = .ok (.ireturn, 1) := by decide +kernel
theorem dX6_sheet_41 : decode cX6_sheet 41 = .ok (.aload_n 0, 1) := by decide +kernel
theorem dX6_sheet_42 : decode cX6_sheet 42 = .ok (.getfield 54, 3) := by decide +kernel
theorem dX6_sheet_45 : decode cX6_sheet 45 = .ok (.iload_n 1, 1) := by decide +kernel
theorem dX6_sheet_46 : decode cX6_sheet 46 = .ok (.iload_n 2, 1) := by decide +kernel
theorem dX6_sheet_47 : decode cX6_sheet 47 = .ok (.iastore, 1) := by decide +kernel
theorem dX6_sheet_48 : decode cX6_sheet 48 = .ok (.aload_n 0, 1) := by decide +kernel
theorem dX6_sheet_49 : decode cX6_sheet 49 = .ok (.getfield 57, 3) := by decide +kernel
theorem dX6_sheet_52 : decode cX6_sheet 52 = .ok (.iload_n 1, 1) := by decide +kernel
theorem dX6_sheet_53 : decode cX6_sheet 53 = .ok (.iload_n 2, 1) := by decide +kernel
theorem dX6_sheet_54 : decode cX6_sheet 54 = .ok (.ifCond .ge 7, 3) := by decide +kernel
theorem dX6_sheet_57 : decode cX6_sheet 57 = .ok (.iconst 0, 1) := by decide +kernel
theorem dX6_sheet_58 : decode cX6_sheet 58 = .ok (.goto 4, 3) := by decide +kernel
theorem dX6_sheet_61 : decode cX6_sheet 61 = .ok (.iload_n 3, 1) := by decide +kernel
theorem dX6_sheet_62 : decode cX6_sheet 62 = .ok (.iastore, 1) := by decide +kernel
theorem dX6_sheet_63 : decode cX6_sheet 63 = .ok (.iconst 0, 1) := by decide +kernel
theorem dX6_sheet_64 : decode cX6_sheet 64 = .ok (.istore 4, 2) := by decide +kernel
theorem dX6_sheet_66 : decode cX6_sheet 66 = .ok (.iload 4, 2) := by decide +kernel
theorem dX6_sheet_68 : decode cX6_sheet 68 = .ok (.bipush 24, 2) := by decide +kernel
theorem dX6_sheet_70 : decode cX6_sheet 70 = .ok (.if_icmp .ge 22, 3) := by decide +kernel
theorem dX6_sheet_73 : decode cX6_sheet 73 = .ok (.aload_n 0, 1) := by decide +kernel
theorem dX6_sheet_74 : decode cX6_sheet 74 = .ok (.getfield 60, 3) := by decide +kernel
theorem dX6_sheet_77 : decode cX6_sheet 77 = .ok (.bipush 24, 2) := by decide +kernel
theorem dX6_sheet_79 : decode cX6_sheet 79 = .ok (.iload_n 1, 1) := by decide +kernel
theorem dX6_sheet_80 : decode cX6_sheet 80 = .ok (.imul, 1) := by decide +kernel
theorem dX6_sheet_81 : decode cX6_sheet 81 = .ok (.iload 4, 2) := by decide +kernel
theorem dX6_sheet_83 : decode cX6_sheet 83 = .ok (.iadd, 1) := by decide +kernel
theorem dX6_sheet_84 : decode cX6_sheet 84 = .ok (.iconst 0, 1) := by decide +kernel
theorem dX6_sheet_85 : decode cX6_sheet 85 = .ok (.iastore, 1) := by decide +kernel
theorem dX6_sheet_86 : decode cX6_sheet 86 = .ok (.iinc 4 1, 3) := by decide +kernel
theorem dX6_sheet_89 : decode cX6_sheet 89 = .ok (.goto (-23), 3) := by decide +kernel
theorem dX6_sheet_92 : decode cX6_sheet 92 = .ok (.aload_n 0, 1) := by decide +kernel
theorem dX6_sheet_93 : decode cX6_sheet 93 = .ok (.getfield 57, 3) := by decide +kernel
theorem dX6_sheet_96 : decode cX6_sheet 96 = .ok (.iload_n 1, 1) := by decide +kernel
theorem dX6_sheet_97 : decode cX6_sheet 97 = .ok (.iaload, 1) := by decide +kernel
theorem dX6_sheet_98 : decode cX6_sheet 98 = .ok (.ireturn, 1) := by decide +kernel
theorem dX6_mark_0 : decode cX6_mark 0 = .ok (.iload_n 1, 1) := by decide +kernel
theorem dX6_mark_1 : decode cX6_mark 1 = .ok (.invokestatic 177, 3) := by decide +kernel
theorem dX6_mark_4 : decode cX6_mark 4 = .ok (.ifCond .ne 6, 3) := by decide +kernel
theorem dX6_mark_7 : decode cX6_mark 7 = .ok (.ldc 90, 2) := by decide +kernel
theorem dX6_mark_9 : decode cX6_mark 9 = .ok (.ireturn, 1) := by decide +kernel
theorem dX6_mark_10 : decode cX6_mark 10 = .ok (.aload_n 0, 1) := by decide +kernel
theorem dX6_mark_11 : decode cX6_mark 11 = .ok (.getfield 54, 3) := by decide +kernel
theorem dX6_mark_14 : decode cX6_mark 14 = .ok (.iload_n 1, 1) := by decide +kernel
theorem dX6_mark_15 : decode cX6_mark 15 = .ok (.iaload, 1) := by decide +kernel
theorem dX6_mark_16 : decode cX6_mark 16 = .ok (.ifCond .ge 6, 3) := by decide +kernel
theorem dX6_mark_19 : decode cX6_mark 19 = .ok (.ldc 180, 2) := by decide +kernel
theorem dX6_mark_21 : decode cX6_mark 21 = .ok (.ireturn, 1) := by decide +kernel
theorem dX6_mark_22 : decode cX6_mark 22 = .ok (.iload_n 2, 1) := by decide +kernel
theorem dX6_mark_23 : decode cX6_mark 23 = .ok (.iconst 0, 1) := by decide +kernel
theorem dX6_mark_24 : decode cX6_mark 24 = .ok (.aload_n 0, 1) := by decide +kernel
theorem dX6_mark_25 : decode cX6_mark 25 = .ok (.getfield 57, 3) := by decide +kernel
theorem dX6_mark_28 : decode cX6_mark 28 = .ok (.iload_n 1, 1) := by decide +kernel
theorem dX6_mark_29 : decode cX6_mark 29 = .ok (.iaload, 1) := by decide +kernel
theorem dX6_mark_30 : decode cX6_mark 30 = .ok (.iconst 1, 1) := by decide +kernel
theorem dX6_mark_31 : decode cX6_mark 31 = .ok (.isub, 1) := by decide +kernel
theorem dX6_mark_32 : decode cX6_mark 32 = .ok (.invokestatic 82, 3) := by decide +kernel
theorem dX6_mark_35 : decode cX6_mark 35 = .ok (.ifCond .ne 7, 3) := by decide +kernel
theorem dX6_mark_38 : decode cX6_mark 38 = .ok (.ldc_w 263, 3) := by decide +kernel
theorem dX6_mark_41 : decode cX6_mark 41 = .ok (.ireturn, 1) := by decide +kernel
theorem dX6_mark_42 : decode cX6_mark 42 = .ok (.aload_n 0, 1) := by decide +kernel
theorem dX6_mark_43 : decode cX6_mark 43 = .ok (.getfield 54, 3) := by decide +kernel
theorem dX6_mark_46 : decode cX6_mark 46 = .ok (.iload_n 1, 1) := by decide +kernel
theorem dX6_mark_47 : decode cX6_mark 47 = .ok (.iaload, 1) := by decide +kernel
theorem dX6_mark_48 : decode cX6_mark 48 = .ok (.ifCond .ne 12, 3) := by decide +kernel
theorem dX6_mark_51 : decode cX6_mark 51 = .ok (.iload_n 3, 1) := by decide +kernel
theorem dX6_mark_52 : decode cX6_mark 52 = .ok (.ldc 81, 2) := by decide +kernel
theorem dX6_mark_54 : decode cX6_mark 54 = .ok (.if_icmp .ne 6, 3) := by decide +kernel
theorem dX6_mark_57 : decode cX6_mark 57 = .ok (.ldc 147, 2) := by decide +kernel
theorem dX6_mark_59 : decode cX6_mark 59 = .ok (.ireturn, 1) := by decide +kernel
theorem dX6_mark_60 : decode cX6_mark 60 = .ok (.aload_n 0, 1) := by decide +kernel
theorem dX6_mark_61 : decode cX6_mark 61 = .ok (.getfield 54, 3) := by decide +kernel
theorem dX6_mark_64 : decode cX6_mark 64 = .ok (.iload_n 1, 1) := by decide +kernel
theorem dX6_mark_65 : decode cX6_mark 65 = .ok (.iaload, 1) := by decide +kernel
theorem dX6_mark_66 : decode cX6_mark 66 = .ok (.iconst 1, 1) := by decide +kernel
theorem dX6_mark_67 : decode cX6_mark 67 = .ok (.if_icmp .ne 24, 3) := by decide +kernel
theorem dX6_mark_70 : decode cX6_mark 70 = .ok (.iload_n 3, 1) := by decide +kernel
theorem dX6_mark_71 : decode cX6_mark 71 = .ok (.ldc 81, 2) := by decide +kernel
theorem dX6_mark_73 : decode cX6_mark 73 = .ok (.if_icmp .eq 18, 3) := by decide +kernel
theorem dX6_mark_76 : decode cX6_mark 76 = .ok (.iload_n 3, 1) := by decide +kernel
theorem dX6_mark_77 : decode cX6_mark 77 = .ok (.ldc_w 264, 3) := by decide +kernel
theorem dX6_mark_80 : decode cX6_mark 80 = .ok (.ldc 100, 2) := by decide +kernel
theorem dX6_mark_82 : decode cX6_mark 82 = .ok (.invokestatic 82, 3) := by decide +kernel
theorem dX6_mark_85 : decode cX6_mark 85 = .ok (.ifCond .ne 6, 3) := by decide +kernel
theorem dX6_mark_88 : decode cX6_mark 88 = .ok (.ldc 90, 2) := by decide +kernel
theorem dX6_mark_90 : decode cX6_mark 90 = .ok (.ireturn, 1) := by decide +kernel
theorem dX6_mark_91 : decode cX6_mark 91 = .ok (.aload_n 0, 1) := by decide +kernel
theorem dX6_mark_92 : decode cX6_mark 92 = .ok (.getfield 60, 3) := by decide +kernel
theorem dX6_mark_95 : decode cX6_mark 95 = .ok (.bipush 24, 2) := by decide +kernel
theorem dX6_mark_97 : decode cX6_mark 97 = .ok (.iload_n 1, 1) := by decide +kernel
theorem dX6_mark_98 : decode cX6_mark 98 = .ok (.imul, 1) := by decide +kernel
theorem dX6_mark_99 : decode cX6_mark 99 = .ok (.iload_n 2, 1) := by decide +kernel
theorem dX6_mark_100 : decode cX6_mark 100 = .ok (.iadd, 1) := by decide +kernel
theorem dX6_mark_101 : decode cX6_mark 101 = .ok (.aload_n 0, 1) := by decide +kernel
theorem dX6_mark_102 : decode cX6_mark 102 = .ok (.getfield 54, 3) := by decide +kernel
theorem dX6_mark_105 : decode cX6_mark 105 = .ok (.iload_n 1, 1) := by decide +kernel
theorem dX6_mark_106 : decode cX6_mark 106 = .ok (.iaload, 1) := by decide +kernel
theorem dX6_mark_107 : decode cX6_mark 107 = .ok (.ifCond .ne 8, 3) := by decide +kernel
theorem dX6_mark_110 : decode cX6_mark 110 = .ok (.iload_n 3, 1) := by decide +kernel
theorem dX6_mark_111 : decode cX6_mark 111 = .ok (.i2s, 1) := by decide +kernel
theorem dX6_mark_112 : decode cX6_mark 112 = .ok (.goto 4, 3) := by decide +kernel
theorem dX6_mark_115 : decode cX6_mark 115 = .ok (.iload_n 3, 1) := by decide +kernel
theorem dX6_mark_116 : decode cX6_mark 116 = .ok (.iastore, 1) := by decide +kernel
theorem dX6_mark_117 : decode cX6_mark 117 = .ok (.iconst 1, 1) := by decide +kernel
theorem dX6_mark_118 : decode cX6_mark 118 = .ok (.ireturn, 1) := by decide +kernel
theorem dX6_pour_0 : decode cX6_pour 0 = .ok (.iload_n 1, 1) := by decide +kernel
theorem dX6_pour_1 : decode cX6_pour 1 = .ok (.invokestatic 177, 3) := by decide +kernel
theorem dX6_pour_4 : decode cX6_pour 4 = .ok (.ifCond .ne 6, 3) := by decide +kernel
theorem dX6_pour_7 : decode cX6_pour 7 = .ok (.ldc 90, 2) := by decide +kernel
theorem dX6_pour_9 : decode cX6_pour 9 = .ok (.ireturn, 1) := by decide +kernel
theorem dX6_pour_10 : decode cX6_pour 10 = .ok (.aload_n 0, 1) := by decide +kernel
theorem dX6_pour_11 : decode cX6_pour 11 = .ok (.getfield 54, 3) := by decide +kernel
theorem dX6_pour_14 : decode cX6_pour 14 = .ok (.iload_n 1, 1) := by decide +kernel
theorem dX6_pour_15 : decode cX6_pour 15 = .ok (.iaload, 1) := by decide +kernel
theorem dX6_pour_16 : decode cX6_pour 16 = .ok (.ifCond .ge 6, 3) := by decide +kernel
theorem dX6_pour_19 : decode cX6_pour 19 = .ok (.ldc 180, 2) := by decide +kernel
theorem dX6_pour_21 : decode cX6_pour 21 = .ok (.ireturn, 1) := by decide +kernel
theorem dX6_pour_22 : decode cX6_pour 22 = .ok (.iconst 0, 1) := by decide +kernel
theorem dX6_pour_23 : decode cX6_pour 23 = .ok (.istore_n 2, 1) := by decide +kernel
theorem dX6_pour_24 : decode cX6_pour 24 = .ok (.iconst 0, 1) := by decide +kernel
theorem dX6_pour_25 : decode cX6_pour 25 = .ok (.istore_n 3, 1) := by decide +kernel
theorem dX6_pour_26 : decode cX6_pour 26 = .ok (.iload_n 3, 1) := by decide +kernel
theorem dX6_pour_27 : decode cX6_pour 27 = .ok (.aload_n 0, 1) := by decide +kernel
theorem dX6_pour_28 : decode cX6_pour 28 = .ok (.getfield 57, 3) := by decide +kernel
theorem dX6_pour_31 : decode cX6_pour 31 = .ok (.iload_n 1, 1) := by decide +kernel
theorem dX6_pour_32 : decode cX6_pour 32 = .ok (.iaload, 1) := by decide +kernel
theorem dX6_pour_33 : decode cX6_pour 33 = .ok (.if_icmp .ge 85, 3) := by decide +kernel
theorem dX6_pour_36 : decode cX6_pour 36 = .ok (.iload_n 3, 1) := by decide +kernel
theorem dX6_pour_37 : decode cX6_pour 37 = .ok (.aload_n 0, 1) := by decide +kernel
theorem dX6_pour_38 : decode cX6_pour 38 = .ok (.getfield 9, 3) := by decide +kernel
theorem dX6_pour_41 : decode cX6_pour 41 = .ok (.iconst 1, 1) := by decide +kernel
theorem dX6_pour_42 : decode cX6_pour 42 = .ok (.iaload, 1) := by decide +kernel
theorem dX6_pour_43 : decode cX6_pour 43 = .ok (.if_icmp .ge 75, 3) := by decide +kernel
theorem dX6_pour_46 : decode cX6_pour 46 = .ok (.aload_n 0, 1) := by decide +kernel
theorem dX6_pour_47 : decode cX6_pour 47 = .ok (.getfield 60, 3) := by decide +kernel
theorem dX6_pour_50 : decode cX6_pour 50 = .ok (.bipush 24, 2) := by decide +kernel
theorem dX6_pour_52 : decode cX6_pour 52 = .ok (.iload_n 1, 1) := by decide +kernel
theorem dX6_pour_53 : decode cX6_pour 53 = .ok (.imul, 1) := by decide +kernel
theorem dX6_pour_54 : decode cX6_pour 54 = .ok (.iload_n 3, 1) := by decide +kernel
theorem dX6_pour_55 : decode cX6_pour 55 = .ok (.iadd, 1) := by decide +kernel
theorem dX6_pour_56 : decode cX6_pour 56 = .ok (.iaload, 1) := by decide +kernel
theorem dX6_pour_57 : decode cX6_pour 57 = .ok (.istore 4, 2) := by decide +kernel
theorem dX6_pour_59 : decode cX6_pour 59 = .ok (.iload 4, 2) := by decide +kernel
theorem dX6_pour_61 : decode cX6_pour 61 = .ok (.ldc 81, 2) := by decide +kernel
theorem dX6_pour_63 : decode cX6_pour 63 = .ok (.if_icmp .ne 12, 3) := by decide +kernel
theorem dX6_pour_66 : decode cX6_pour 66 = .ok (.aload_n 0, 1) := by decide +kernel
theorem dX6_pour_67 : decode cX6_pour 67 = .ok (.iload_n 3, 1) := by decide +kernel
theorem dX6_pour_68 : decode cX6_pour 68 = .ok (.iconst 2, 1) := by decide +kernel
theorem dX6_pour_69 : decode cX6_pour 69 = .ok (.invokevirtual 96, 3) := by decide +kernel
theorem dX6_pour_72 : decode cX6_pour 72 = .ok (.goto 11, 3) := by decide +kernel
theorem dX6_pour_75 : decode cX6_pour 75 = .ok (.iload 4, 2) := by decide +kernel
theorem dX6_pour_77 : decode cX6_pour 77 = .ok (.iconst 0, 1) := by decide +kernel
theorem dX6_pour_78 : decode cX6_pour 78 = .ok (.ldc 100, 2) := by decide +kernel
theorem dX6_pour_80 : decode cX6_pour 80 = .ok (.invokestatic 101, 3) := by decide +kernel
theorem dX6_pour_83 : decode cX6_pour 83 = .ok (.istore 5, 2) := by decide +kernel
theorem dX6_pour_85 : decode cX6_pour 85 = .ok (.iload_n 2, 1) := by decide +kernel
theorem dX6_pour_86 : decode cX6_pour 86 = .ok (.aload_n 0, 1) := by decide +kernel
theorem dX6_pour_87 : decode cX6_pour 87 = .ok (.bipush 8, 2) := by decide +kernel
theorem dX6_pour_89 : decode cX6_pour 89 = .ok (.iconst 4, 1) := by decide +kernel
theorem dX6_pour_90 : decode cX6_pour 90 = .ok (.iload_n 3, 1) := by decide +kernel
theorem dX6_pour_91 : decode cX6_pour 91 = .ok (.imul, 1) := by decide +kernel
theorem dX6_pour_92 : decode cX6_pour 92 = .ok (.iadd, 1) := by decide +kernel
theorem dX6_pour_93 : decode cX6_pour 93 = .ok (.iconst 2, 1) := by decide +kernel
theorem dX6_pour_94 : decode cX6_pour 94 = .ok (.iadd, 1) := by decide +kernel
theorem dX6_pour_95 : decode cX6_pour 95 = .ok (.iload 5, 2) := by decide +kernel
theorem dX6_pour_97 : decode cX6_pour 97 = .ok (.invokevirtual 148, 3) := by decide +kernel
theorem dX6_pour_100 : decode cX6_pour 100 = .ok (.iload 5, 2) := by decide +kernel
theorem dX6_pour_102 : decode cX6_pour 102 = .ok (.if_icmp .ne 7, 3) := by decide +kernel
theorem dX6_pour_105 : decode cX6_pour 105 = .ok (.iconst 0, 1) := by decide +kernel
theorem dX6_pour_106 : decode cX6_pour 106 = .ok (.goto 4, 3) := by decide +kernel
theorem dX6_pour_109 : decode cX6_pour 109 = .ok (.iconst 1, 1) := by decide +kernel
theorem dX6_pour_110 : decode cX6_pour 110 = .ok (.iadd, 1) := by decide +kernel
theorem dX6_pour_111 : decode cX6_pour 111 = .ok (.istore_n 2, 1) := by decide +kernel
theorem dX6_pour_112 : decode cX6_pour 112 = .ok (.iinc 3 1, 3) := by decide +kernel
theorem dX6_pour_115 : decode cX6_pour 115 = .ok (.goto (-89), 3) := by decide +kernel
theorem dX6_pour_118 : decode cX6_pour 118 = .ok (.iload_n 2, 1) := by decide +kernel
theorem dX6_pour_119 : decode cX6_pour 119 = .ok (.ireturn, 1) := by decide +kernel
theorem dX6_reads_0 : decode cX6_reads 0 = .ok (.iload_n 1, 1) := by decide +kernel
theorem dX6_reads_1 : decode cX6_reads 1 = .ok (.invokestatic 177, 3) := by decide +kernel
theorem dX6_reads_4 : decode cX6_reads 4 = .ok (.ifCond .ne 6, 3) := by decide +kernel
theorem dX6_reads_7 : decode cX6_reads 7 = .ok (.ldc 90, 2) := by decide +kernel
theorem dX6_reads_9 : decode cX6_reads 9 = .ok (.ireturn, 1) := by decide +kernel
theorem dX6_reads_10 : decode cX6_reads 10 = .ok (.aload_n 0, 1) := by decide +kernel
theorem dX6_reads_11 : decode cX6_reads 11 = .ok (.getfield 54, 3) := by decide +kernel
theorem dX6_reads_14 : decode cX6_reads 14 = .ok (.iload_n 1, 1) := by decide +kernel
theorem dX6_reads_15 : decode cX6_reads 15 = .ok (.iaload, 1) := by decide +kernel
theorem dX6_reads_16 : decode cX6_reads 16 = .ok (.ifCond .ge 6, 3) := by decide +kernel
theorem dX6_reads_19 : decode cX6_reads 19 = .ok (.ldc 180, 2) := by decide +kernel
theorem dX6_reads_21 : decode cX6_reads 21 = .ok (.ireturn, 1) := by decide +kernel
theorem dX6_reads_22 : decode cX6_reads 22 = .ok (.aload_n 0, 1) := by decide +kernel
theorem dX6_reads_23 : decode cX6_reads 23 = .ok (.invokevirtual 165, 3) := by decide +kernel
theorem dX6_reads_26 : decode cX6_reads 26 = .ok (.ldc 81, 2) := by decide +kernel
theorem dX6_reads_28 : decode cX6_reads 28 = .ok (.istore_n 2, 1) := by decide +kernel
theorem dX6_reads_29 : decode cX6_reads 29 = .ok (.iconst 0, 1) := by decide +kernel
theorem dX6_reads_30 : decode cX6_reads 30 = .ok (.istore_n 3, 1) := by decide +kernel
theorem dX6_reads_31 : decode cX6_reads 31 = .ok (.iload_n 3, 1) := by decide +kernel
theorem dX6_reads_32 : decode cX6_reads 32 = .ok (.aload_n 0, 1) := by decide +kernel
theorem dX6_reads_33 : decode cX6_reads 33 = .ok (.getfield 57, 3) := by decide +kernel
theorem dX6_reads_36 : decode cX6_reads 36 = .ok (.iload_n 1, 1) := by decide +kernel
theorem dX6_reads_37 : decode cX6_reads 37 = .ok (.iaload, 1) := by decide +kernel
theorem dX6_reads_38 : decode cX6_reads 38 = .ok (.if_icmp .ge 55, 3) := by decide +kernel
theorem dX6_reads_41 : decode cX6_reads 41 = .ok (.iload_n 2, 1) := by decide +kernel
theorem dX6_reads_42 : decode cX6_reads 42 = .ok (.ldc 81, 2) := by decide +kernel
theorem dX6_reads_44 : decode cX6_reads 44 = .ok (.if_icmp .ne 49, 3) := by decide +kernel
theorem dX6_reads_47 : decode cX6_reads 47 = .ok (.aload_n 0, 1) := by decide +kernel
theorem dX6_reads_48 : decode cX6_reads 48 = .ok (.getfield 60, 3) := by decide +kernel
theorem dX6_reads_51 : decode cX6_reads 51 = .ok (.bipush 24, 2) := by decide +kernel
theorem dX6_reads_53 : decode cX6_reads 53 = .ok (.iload_n 1, 1) := by decide +kernel
theorem dX6_reads_54 : decode cX6_reads 54 = .ok (.imul, 1) := by decide +kernel
theorem dX6_reads_55 : decode cX6_reads 55 = .ok (.iload_n 3, 1) := by decide +kernel
theorem dX6_reads_56 : decode cX6_reads 56 = .ok (.iadd, 1) := by decide +kernel
theorem dX6_reads_57 : decode cX6_reads 57 = .ok (.iaload, 1) := by decide +kernel
theorem dX6_reads_58 : decode cX6_reads 58 = .ok (.istore 4, 2) := by decide +kernel
theorem dX6_reads_60 : decode cX6_reads 60 = .ok (.iload 4, 2) := by decide +kernel
theorem dX6_reads_62 : decode cX6_reads 62 = .ok (.ldc 81, 2) := by decide +kernel
theorem dX6_reads_64 : decode cX6_reads 64 = .ok (.if_icmp .eq 16, 3) := by decide +kernel
theorem dX6_reads_67 : decode cX6_reads 67 = .ok (.iload 4, 2) := by decide +kernel
theorem dX6_reads_69 : decode cX6_reads 69 = .ok (.aload_n 0, 1) := by decide +kernel
theorem dX6_reads_70 : decode cX6_reads 70 = .ok (.invokevirtual 162, 3) := by decide +kernel
theorem dX6_reads_73 : decode cX6_reads 73 = .ok (.if_icmp .eq 7, 3) := by decide +kernel
theorem dX6_reads_76 : decode cX6_reads 76 = .ok (.iload_n 3, 1) := by decide +kernel
theorem dX6_reads_77 : decode cX6_reads 77 = .ok (.goto 5, 3) := by decide +kernel
theorem dX6_reads_80 : decode cX6_reads 80 = .ok (.ldc 81, 2) := by decide +kernel
theorem dX6_reads_82 : decode cX6_reads 82 = .ok (.istore_n 2, 1) := by decide +kernel
theorem dX6_reads_83 : decode cX6_reads 83 = .ok (.aload_n 0, 1) := by decide +kernel
theorem dX6_reads_84 : decode cX6_reads 84 = .ok (.invokevirtual 155, 3) := by decide +kernel
theorem dX6_reads_87 : decode cX6_reads 87 = .ok (.iinc 3 1, 3) := by decide +kernel
theorem dX6_reads_90 : decode cX6_reads 90 = .ok (.goto (-59), 3) := by decide +kernel
theorem dX6_reads_93 : decode cX6_reads 93 = .ok (.aload_n 0, 1) := by decide +kernel
theorem dX6_reads_94 : decode cX6_reads 94 = .ok (.invokevirtual 168, 3) := by decide +kernel
theorem dX6_reads_97 : decode cX6_reads 97 = .ok (.iload_n 2, 1) := by decide +kernel
theorem dX6_reads_98 : decode cX6_reads 98 = .ok (.ireturn, 1) := by decide +kernel
theorem dX6_copy_0 : decode cX6_copy 0 = .ok (.iload_n 1, 1) := by decide +kernel
theorem dX6_copy_1 : decode cX6_copy 1 = .ok (.invokestatic 177, 3) := by decide +kernel
theorem dX6_copy_4 : decode cX6_copy 4 = .ok (.ifCond .eq 10, 3) := by decide +kernel
theorem dX6_copy_7 : decode cX6_copy 7 = .ok (.iload_n 3, 1) := by decide +kernel
theorem dX6_copy_8 : decode cX6_copy 8 = .ok (.invokestatic 177, 3) := by decide +kernel
theorem dX6_copy_11 : decode cX6_copy 11 = .ok (.ifCond .ne 6, 3) := by decide +kernel
theorem dX6_copy_14 : decode cX6_copy 14 = .ok (.ldc 90, 2) := by decide +kernel
theorem dX6_copy_16 : decode cX6_copy 16 = .ok (.ireturn, 1) := by decide +kernel
theorem dX6_copy_17 : decode cX6_copy 17 = .ok (.aload_n 0, 1) := by decide +kernel
theorem dX6_copy_18 : decode cX6_copy 18 = .ok (.getfield 54, 3) := by decide +kernel
theorem dX6_copy_21 : decode cX6_copy 21 = .ok (.iload_n 1, 1) := by decide +kernel
theorem dX6_copy_22 : decode cX6_copy 22 = .ok (.iaload, 1) := by decide +kernel
theorem dX6_copy_23 : decode cX6_copy 23 = .ok (.ifCond .lt 12, 3) := by decide +kernel
theorem dX6_copy_26 : decode cX6_copy 26 = .ok (.aload_n 0, 1) := by decide +kernel
theorem dX6_copy_27 : decode cX6_copy 27 = .ok (.getfield 54, 3) := by decide +kernel
theorem dX6_copy_30 : decode cX6_copy 30 = .ok (.iload_n 3, 1) := by decide +kernel
theorem dX6_copy_31 : decode cX6_copy 31 = .ok (.iaload, 1) := by decide +kernel
theorem dX6_copy_32 : decode cX6_copy 32 = .ok (.ifCond .ge 6, 3) := by decide +kernel
theorem dX6_copy_35 : decode cX6_copy 35 = .ok (.ldc 180, 2) := by decide +kernel
theorem dX6_copy_37 : decode cX6_copy 37 = .ok (.ireturn, 1) := by decide +kernel
theorem dX6_copy_38 : decode cX6_copy 38 = .ok (.aload_n 0, 1) := by decide +kernel
theorem dX6_copy_39 : decode cX6_copy 39 = .ok (.getfield 54, 3) := by decide +kernel
theorem dX6_copy_42 : decode cX6_copy 42 = .ok (.iload_n 1, 1) := by decide +kernel
theorem dX6_copy_43 : decode cX6_copy 43 = .ok (.iaload, 1) := by decide +kernel
theorem dX6_copy_44 : decode cX6_copy 44 = .ok (.aload_n 0, 1) := by decide +kernel
theorem dX6_copy_45 : decode cX6_copy 45 = .ok (.getfield 54, 3) := by decide +kernel
theorem dX6_copy_48 : decode cX6_copy 48 = .ok (.iload_n 3, 1) := by decide +kernel
theorem dX6_copy_49 : decode cX6_copy 49 = .ok (.iaload, 1) := by decide +kernel
theorem dX6_copy_50 : decode cX6_copy 50 = .ok (.if_icmp .eq 6, 3) := by decide +kernel
theorem dX6_copy_53 : decode cX6_copy 53 = .ok (.ldc 147, 2) := by decide +kernel
theorem dX6_copy_55 : decode cX6_copy 55 = .ok (.ireturn, 1) := by decide +kernel
theorem dX6_copy_56 : decode cX6_copy 56 = .ok (.iload_n 2, 1) := by decide +kernel
theorem dX6_copy_57 : decode cX6_copy 57 = .ok (.ifCond .lt 40, 3) := by decide +kernel
theorem dX6_copy_60 : decode cX6_copy 60 = .ok (.iload 4, 2) := by decide +kernel
theorem dX6_copy_62 : decode cX6_copy 62 = .ok (.ifCond .lt 35, 3) := by decide +kernel
theorem dX6_copy_65 : decode cX6_copy 65 = .ok (.iload 5, 2) := by decide +kernel
theorem dX6_copy_67 : decode cX6_copy 67 = .ok (.ifCond .lt 30, 3) := by decide +kernel
theorem dX6_copy_70 : decode cX6_copy 70 = .ok (.iload_n 2, 1) := by decide +kernel
theorem dX6_copy_71 : decode cX6_copy 71 = .ok (.aload_n 0, 1) := by decide +kernel
theorem dX6_copy_72 : decode cX6_copy 72 = .ok (.getfield 57, 3) := by decide +kernel
theorem dX6_copy_75 : decode cX6_copy 75 = .ok (.iload_n 1, 1) := by decide +kernel
theorem dX6_copy_76 : decode cX6_copy 76 = .ok (.iaload, 1) := by decide +kernel
theorem dX6_copy_77 : decode cX6_copy 77 = .ok (.iload 5, 2) := by decide +kernel
theorem dX6_copy_79 : decode cX6_copy 79 = .ok (.isub, 1) := by decide +kernel
theorem dX6_copy_80 : decode cX6_copy 80 = .ok (.if_icmp .gt 17, 3) := by decide +kernel
theorem dX6_copy_83 : decode cX6_copy 83 = .ok (.iload 4, 2) := by decide +kernel
theorem dX6_copy_85 : decode cX6_copy 85 = .ok (.aload_n 0, 1) := by decide +kernel
theorem dX6_copy_86 : decode cX6_copy 86 = .ok (.getfield 57, 3) := by decide +kernel
theorem dX6_copy_89 : decode cX6_copy 89 = .ok (.iload_n 3, 1) := by decide +kernel
theorem dX6_copy_90 : decode cX6_copy 90 = .ok (.iaload, 1) := by decide +kernel
theorem dX6_copy_91 : decode cX6_copy 91 = .ok (.iload 5, 2) := by decide +kernel
theorem dX6_copy_93 : decode cX6_copy 93 = .ok (.isub, 1) := by decide +kernel
theorem dX6_copy_94 : decode cX6_copy 94 = .ok (.if_icmp .le 7, 3) := by decide +kernel
theorem dX6_copy_97 : decode cX6_copy 97 = .ok (.ldc_w 263, 3) := by decide +kernel
theorem dX6_copy_100 : decode cX6_copy 100 = .ok (.ireturn, 1) := by decide +kernel
theorem dX6_copy_101 : decode cX6_copy 101 = .ok (.iconst 0, 1) := by decide +kernel
theorem dX6_copy_102 : decode cX6_copy 102 = .ok (.istore 6, 2) := by decide +kernel
theorem dX6_copy_104 : decode cX6_copy 104 = .ok (.iload 6, 2) := by decide +kernel
theorem dX6_copy_106 : decode cX6_copy 106 = .ok (.iload 5, 2) := by decide +kernel
theorem dX6_copy_108 : decode cX6_copy 108 = .ok (.if_icmp .ge 30, 3) := by decide +kernel
theorem dX6_copy_111 : decode cX6_copy 111 = .ok (.aload_n 0, 1) := by decide +kernel
theorem dX6_copy_112 : decode cX6_copy 112 = .ok (.getfield 75, 3) := by decide +kernel
theorem dX6_copy_115 : decode cX6_copy 115 = .ok (.iload 6, 2) := by decide +kernel
theorem dX6_copy_117 : decode cX6_copy 117 = .ok (.aload_n 0, 1) := by decide +kernel
theorem dX6_copy_118 : decode cX6_copy 118 = .ok (.getfield 60, 3) := by decide +kernel
theorem dX6_copy_121 : decode cX6_copy 121 = .ok (.bipush 24, 2) := by decide +kernel
theorem dX6_copy_123 : decode cX6_copy 123 = .ok (.iload_n 1, 1) := by decide +kernel
theorem dX6_copy_124 : decode cX6_copy 124 = .ok (.imul, 1) := by decide +kernel
theorem dX6_copy_125 : decode cX6_copy 125 = .ok (.iload_n 2, 1) := by decide +kernel
theorem dX6_copy_126 : decode cX6_copy 126 = .ok (.iadd, 1) := by decide +kernel
theorem dX6_copy_127 : decode cX6_copy 127 = .ok (.iload 6, 2) := by decide +kernel
theorem dX6_copy_129 : decode cX6_copy 129 = .ok (.iadd, 1) := by decide +kernel
theorem dX6_copy_130 : decode cX6_copy 130 = .ok (.iaload, 1) := by decide +kernel
theorem dX6_copy_131 : decode cX6_copy 131 = .ok (.iastore, 1) := by decide +kernel
theorem dX6_copy_132 : decode cX6_copy 132 = .ok (.iinc 6 1, 3) := by decide +kernel
theorem dX6_copy_135 : decode cX6_copy 135 = .ok (.goto (-31), 3) := by decide +kernel
theorem dX6_copy_138 : decode cX6_copy 138 = .ok (.iconst 0, 1) := by decide +kernel
theorem dX6_copy_139 : decode cX6_copy 139 = .ok (.istore 6, 2) := by decide +kernel
theorem dX6_copy_141 : decode cX6_copy 141 = .ok (.iload 6, 2) := by decide +kernel
theorem dX6_copy_143 : decode cX6_copy 143 = .ok (.iload 5, 2) := by decide +kernel
theorem dX6_copy_145 : decode cX6_copy 145 = .ok (.if_icmp .ge 31, 3) := by decide +kernel
theorem dX6_copy_148 : decode cX6_copy 148 = .ok (.aload_n 0, 1) := by decide +kernel
theorem dX6_copy_149 : decode cX6_copy 149 = .ok (.getfield 60, 3) := by decide +kernel
theorem dX6_copy_152 : decode cX6_copy 152 = .ok (.bipush 24, 2) := by decide +kernel
theorem dX6_copy_154 : decode cX6_copy 154 = .ok (.iload_n 3, 1) := by decide +kernel
theorem dX6_copy_155 : decode cX6_copy 155 = .ok (.imul, 1) := by decide +kernel
theorem dX6_copy_156 : decode cX6_copy 156 = .ok (.iload 4, 2) := by decide +kernel
theorem dX6_copy_158 : decode cX6_copy 158 = .ok (.iadd, 1) := by decide +kernel
theorem dX6_copy_159 : decode cX6_copy 159 = .ok (.iload 6, 2) := by decide +kernel
theorem dX6_copy_161 : decode cX6_copy 161 = .ok (.iadd, 1) := by decide +kernel
theorem dX6_copy_162 : decode cX6_copy 162 = .ok (.aload_n 0, 1) := by decide +kernel
theorem dX6_copy_163 : decode cX6_copy 163 = .ok (.getfield 75, 3) := by decide +kernel
theorem dX6_copy_166 : decode cX6_copy 166 = .ok (.iload 6, 2) := by decide +kernel
theorem dX6_copy_168 : decode cX6_copy 168 = .ok (.iaload, 1) := by decide +kernel
theorem dX6_copy_169 : decode cX6_copy 169 = .ok (.iastore, 1) := by decide +kernel
theorem dX6_copy_170 : decode cX6_copy 170 = .ok (.iinc 6 1, 3) := by decide +kernel
theorem dX6_copy_173 : decode cX6_copy 173 = .ok (.goto (-32), 3) := by decide +kernel
theorem dX6_copy_176 : decode cX6_copy 176 = .ok (.iload 5, 2) := by decide +kernel
theorem dX6_copy_178 : decode cX6_copy 178 = .ok (.ireturn, 1) := by decide +kernel
theorem dX6_lay_0 : decode cX6_lay 0 = .ok (.iload_n 1, 1) := by decide +kernel
theorem dX6_lay_1 : decode cX6_lay 1 = .ok (.invokestatic 265, 3) := by decide +kernel
theorem dX6_lay_4 : decode cX6_lay 4 = .ok (.ifCond .eq 37, 3) := by decide +kernel
theorem dX6_lay_7 : decode cX6_lay 7 = .ok (.iload_n 2, 1) := by decide +kernel
theorem dX6_lay_8 : decode cX6_lay 8 = .ok (.iconst 0, 1) := by decide +kernel
theorem dX6_lay_9 : decode cX6_lay 9 = .ok (.iconst 3, 1) := by decide +kernel
theorem dX6_lay_10 : decode cX6_lay 10 = .ok (.invokestatic 82, 3) := by decide +kernel
theorem dX6_lay_13 : decode cX6_lay 13 = .ok (.ifCond .eq 28, 3) := by decide +kernel
theorem dX6_lay_16 : decode cX6_lay 16 = .ok (.iload_n 2, 1) := by decide +kernel
theorem dX6_lay_17 : decode cX6_lay 17 = .ok (.iconst 1, 1) := by decide +kernel
theorem dX6_lay_18 : decode cX6_lay 18 = .ok (.if_icmp .ne 11, 3) := by decide +kernel
theorem dX6_lay_21 : decode cX6_lay 21 = .ok (.aload_n 0, 1) := by decide +kernel
theorem dX6_lay_22 : decode cX6_lay 22 = .ok (.iload_n 3, 1) := by decide +kernel
theorem dX6_lay_23 : decode cX6_lay 23 = .ok (.invokevirtual 104, 3) := by decide +kernel
theorem dX6_lay_26 : decode cX6_lay 26 = .ok (.ifCond .eq 15, 3) := by decide +kernel
theorem dX6_lay_29 : decode cX6_lay 29 = .ok (.iload_n 2, 1) := by decide +kernel
theorem dX6_lay_30 : decode cX6_lay 30 = .ok (.iconst 2, 1) := by decide +kernel
theorem dX6_lay_31 : decode cX6_lay 31 = .ok (.if_icmp .ne 13, 3) := by decide +kernel
theorem dX6_lay_34 : decode cX6_lay 34 = .ok (.iload_n 3, 1) := by decide +kernel
theorem dX6_lay_35 : decode cX6_lay 35 = .ok (.invokestatic 177, 3) := by decide +kernel
theorem dX6_lay_38 : decode cX6_lay 38 = .ok (.ifCond .ne 6, 3) := by decide +kernel
theorem dX6_lay_41 : decode cX6_lay 41 = .ok (.ldc 90, 2) := by decide +kernel
theorem dX6_lay_43 : decode cX6_lay 43 = .ok (.ireturn, 1) := by decide +kernel
theorem dX6_lay_44 : decode cX6_lay 44 = .ok (.iload_n 2, 1) := by decide +kernel
theorem dX6_lay_45 : decode cX6_lay 45 = .ok (.iconst 2, 1) := by decide +kernel
theorem dX6_lay_46 : decode cX6_lay 46 = .ok (.if_icmp .ne 15, 3) := by decide +kernel
theorem dX6_lay_49 : decode cX6_lay 49 = .ok (.aload_n 0, 1) := by decide +kernel
theorem dX6_lay_50 : decode cX6_lay 50 = .ok (.getfield 54, 3) := by decide +kernel
theorem dX6_lay_53 : decode cX6_lay 53 = .ok (.iload_n 3, 1) := by decide +kernel
theorem dX6_lay_54 : decode cX6_lay 54 = .ok (.iaload, 1) := by decide +kernel
theorem dX6_lay_55 : decode cX6_lay 55 = .ok (.ifCond .ge 6, 3) := by decide +kernel
theorem dX6_lay_58 : decode cX6_lay 58 = .ok (.ldc 180, 2) := by decide +kernel
theorem dX6_lay_60 : decode cX6_lay 60 = .ok (.ireturn, 1) := by decide +kernel
theorem dX6_lay_61 : decode cX6_lay 61 = .ok (.aload_n 0, 1) := by decide +kernel
theorem dX6_lay_62 : decode cX6_lay 62 = .ok (.getfield 63, 3) := by decide +kernel
theorem dX6_lay_65 : decode cX6_lay 65 = .ok (.iload_n 1, 1) := by decide +kernel
theorem dX6_lay_66 : decode cX6_lay 66 = .ok (.iaload, 1) := by decide +kernel
theorem dX6_lay_67 : decode cX6_lay 67 = .ok (.istore 4, 2) := by decide +kernel
theorem dX6_lay_69 : decode cX6_lay 69 = .ok (.aload_n 0, 1) := by decide +kernel
theorem dX6_lay_70 : decode cX6_lay 70 = .ok (.getfield 63, 3) := by decide +kernel
theorem dX6_lay_73 : decode cX6_lay 73 = .ok (.iload_n 1, 1) := by decide +kernel
theorem dX6_lay_74 : decode cX6_lay 74 = .ok (.iload_n 2, 1) := by decide +kernel
theorem dX6_lay_75 : decode cX6_lay 75 = .ok (.iastore, 1) := by decide +kernel
theorem dX6_lay_76 : decode cX6_lay 76 = .ok (.aload_n 0, 1) := by decide +kernel
theorem dX6_lay_77 : decode cX6_lay 77 = .ok (.getfield 66, 3) := by decide +kernel
theorem dX6_lay_80 : decode cX6_lay 80 = .ok (.iload_n 1, 1) := by decide +kernel
theorem dX6_lay_81 : decode cX6_lay 81 = .ok (.iload_n 2, 1) := by decide +kernel
theorem dX6_lay_82 : decode cX6_lay 82 = .ok (.iconst 1, 1) := by decide +kernel
theorem dX6_lay_83 : decode cX6_lay 83 = .ok (.if_icmp .ne 12, 3) := by decide +kernel
theorem dX6_lay_86 : decode cX6_lay 86 = .ok (.aload_n 0, 1) := by decide +kernel
theorem dX6_lay_87 : decode cX6_lay 87 = .ok (.iload_n 3, 1) := by decide +kernel
theorem dX6_lay_88 : decode cX6_lay 88 = .ok (.iconst 0, 1) := by decide +kernel
theorem dX6_lay_89 : decode cX6_lay 89 = .ok (.invokevirtual 96, 3) := by decide +kernel
theorem dX6_lay_92 : decode cX6_lay 92 = .ok (.goto 18, 3) := by decide +kernel
theorem dX6_lay_95 : decode cX6_lay 95 = .ok (.iload_n 2, 1) := by decide +kernel
theorem dX6_lay_96 : decode cX6_lay 96 = .ok (.iconst 2, 1) := by decide +kernel
theorem dX6_lay_97 : decode cX6_lay 97 = .ok (.if_icmp .ne 12, 3) := by decide +kernel
theorem dX6_lay_100 : decode cX6_lay 100 = .ok (.aload_n 0, 1) := by decide +kernel
theorem dX6_lay_101 : decode cX6_lay 101 = .ok (.getfield 57, 3) := by decide +kernel
theorem dX6_lay_104 : decode cX6_lay 104 = .ok (.iload_n 3, 1) := by decide +kernel
theorem dX6_lay_105 : decode cX6_lay 105 = .ok (.iaload, 1) := by decide +kernel
theorem dX6_lay_106 : decode cX6_lay 106 = .ok (.goto 4, 3) := by decide +kernel
theorem dX6_lay_109 : decode cX6_lay 109 = .ok (.iload_n 3, 1) := by decide +kernel
theorem dX6_lay_110 : decode cX6_lay 110 = .ok (.iastore, 1) := by decide +kernel
theorem dX6_lay_111 : decode cX6_lay 111 = .ok (.aload_n 0, 1) := by decide +kernel
theorem dX6_lay_112 : decode cX6_lay 112 = .ok (.getfield 69, 3) := by decide +kernel
theorem dX6_lay_115 : decode cX6_lay 115 = .ok (.iload_n 1, 1) := by decide +kernel
theorem dX6_lay_116 : decode cX6_lay 116 = .ok (.iload_n 2, 1) := by decide +kernel
theorem dX6_lay_117 : decode cX6_lay 117 = .ok (.iconst 1, 1) := by decide +kernel
theorem dX6_lay_118 : decode cX6_lay 118 = .ok (.if_icmp .ne 11, 3) := by decide +kernel
theorem dX6_lay_121 : decode cX6_lay 121 = .ok (.aload_n 0, 1) := by decide +kernel
theorem dX6_lay_122 : decode cX6_lay 122 = .ok (.iload_n 3, 1) := by decide +kernel
theorem dX6_lay_123 : decode cX6_lay 123 = .ok (.invokevirtual 125, 3) := by decide +kernel
theorem dX6_lay_126 : decode cX6_lay 126 = .ok (.goto 4, 3) := by decide +kernel
theorem dX6_lay_129 : decode cX6_lay 129 = .ok (.iconst 0, 1) := by decide +kernel
theorem dX6_lay_130 : decode cX6_lay 130 = .ok (.iastore, 1) := by decide +kernel
theorem dX6_lay_131 : decode cX6_lay 131 = .ok (.iconst 0, 1) := by decide +kernel
theorem dX6_lay_132 : decode cX6_lay 132 = .ok (.istore 5, 2) := by decide +kernel
theorem dX6_lay_134 : decode cX6_lay 134 = .ok (.iload 5, 2) := by decide +kernel
theorem dX6_lay_136 : decode cX6_lay 136 = .ok (.bipush 24, 2) := by decide +kernel
theorem dX6_lay_138 : decode cX6_lay 138 = .ok (.if_icmp .ge 38, 3) := by decide +kernel
theorem dX6_lay_141 : decode cX6_lay 141 = .ok (.iload_n 2, 1) := by decide +kernel
theorem dX6_lay_142 : decode cX6_lay 142 = .ok (.iconst 2, 1) := by decide +kernel
theorem dX6_lay_143 : decode cX6_lay 143 = .ok (.if_icmp .ne 33, 3) := by decide +kernel
theorem dX6_lay_146 : decode cX6_lay 146 = .ok (.aload_n 0, 1) := by decide +kernel
theorem dX6_lay_147 : decode cX6_lay 147 = .ok (.getfield 72, 3) := by decide +kernel
theorem dX6_lay_150 : decode cX6_lay 150 = .ok (.bipush 24, 2) := by decide +kernel
theorem dX6_lay_152 : decode cX6_lay 152 = .ok (.iload_n 1, 1) := by decide +kernel
theorem dX6_lay_153 : decode cX6_lay 153 = .ok (.imul, 1) := by decide +kernel
theorem dX6_lay_154 : decode cX6_lay 154 = .ok (.iload 5, 2) := by decide +kernel
theorem dX6_lay_156 : decode cX6_lay 156 = .ok (.iadd, 1) := by decide +kernel
theorem dX6_lay_157 : decode cX6_lay 157 = .ok (.aload_n 0, 1) := by decide +kernel
theorem dX6_lay_158 : decode cX6_lay 158 = .ok (.getfield 60, 3) := by decide +kernel
theorem dX6_lay_161 : decode cX6_lay 161 = .ok (.bipush 24, 2) := by decide +kernel
theorem dX6_lay_163 : decode cX6_lay 163 = .ok (.iload_n 3, 1) := by decide +kernel
theorem dX6_lay_164 : decode cX6_lay 164 = .ok (.imul, 1) := by decide +kernel
theorem dX6_lay_165 : decode cX6_lay 165 = .ok (.iload 5, 2) := by decide +kernel
theorem dX6_lay_167 : decode cX6_lay 167 = .ok (.iadd, 1) := by decide +kernel
theorem dX6_lay_168 : decode cX6_lay 168 = .ok (.iaload, 1) := by decide +kernel
theorem dX6_lay_169 : decode cX6_lay 169 = .ok (.iastore, 1) := by decide +kernel
theorem dX6_lay_170 : decode cX6_lay 170 = .ok (.iinc 5 1, 3) := by decide +kernel
theorem dX6_lay_173 : decode cX6_lay 173 = .ok (.goto (-39), 3) := by decide +kernel
theorem dX6_lay_176 : decode cX6_lay 176 = .ok (.iload 4, 2) := by decide +kernel
theorem dX6_lay_178 : decode cX6_lay 178 = .ok (.ireturn, 1) := by decide +kernel
theorem dX6_ask_0 : decode cX6_ask 0 = .ok (.iload_n 1, 1) := by decide +kernel
theorem dX6_ask_1 : decode cX6_ask 1 = .ok (.invokestatic 265, 3) := by decide +kernel
theorem dX6_ask_4 : decode cX6_ask 4 = .ok (.ifCond .eq 12, 3) := by decide +kernel
theorem dX6_ask_7 : decode cX6_ask 7 = .ok (.iload_n 2, 1) := by decide +kernel
theorem dX6_ask_8 : decode cX6_ask 8 = .ok (.iconst 0, 1) := by decide +kernel
theorem dX6_ask_9 : decode cX6_ask 9 = .ok (.iconst 5, 1) := by decide +kernel
theorem dX6_ask_10 : decode cX6_ask 10 = .ok (.invokestatic 82, 3) := by decide +kernel
theorem dX6_ask_13 : decode cX6_ask 13 = .ok (.ifCond .ne 6, 3) := by decide +kernel
theorem dX6_ask_16 : decode cX6_ask 16 = .ok (.ldc 90, 2) := by decide +kernel
theorem dX6_ask_18 : decode cX6_ask 18 = .ok (.ireturn, 1) := by decide +kernel
theorem dX6_ask_19 : decode cX6_ask 19 = .ok (.aload_n 0, 1) := by decide +kernel
theorem dX6_ask_20 : decode cX6_ask 20 = .ok (.getfield 63, 3) := by decide +kernel
theorem dX6_ask_23 : decode cX6_ask 23 = .ok (.iload_n 1, 1) := by decide +kernel
theorem dX6_ask_24 : decode cX6_ask 24 = .ok (.iaload, 1) := by decide +kernel
theorem dX6_ask_25 : decode cX6_ask 25 = .ok (.ifCond .ne 6, 3) := by decide +kernel
theorem dX6_ask_28 : decode cX6_ask 28 = .ok (.ldc 180, 2) := by decide +kernel
theorem dX6_ask_30 : decode cX6_ask 30 = .ok (.ireturn, 1) := by decide +kernel
theorem dX6_ask_31 : decode cX6_ask 31 = .ok (.aload_n 0, 1) := by decide +kernel
theorem dX6_ask_32 : decode cX6_ask 32 = .ok (.getfield 63, 3) := by decide +kernel
theorem dX6_ask_35 : decode cX6_ask 35 = .ok (.iload_n 1, 1) := by decide +kernel
theorem dX6_ask_36 : decode cX6_ask 36 = .ok (.iaload, 1) := by decide +kernel
theorem dX6_ask_37 : decode cX6_ask 37 = .ok (.iconst 1, 1) := by decide +kernel
theorem dX6_ask_38 : decode cX6_ask 38 = .ok (.if_icmp .ne 25, 3) := by decide +kernel
theorem dX6_ask_41 : decode cX6_ask 41 = .ok (.aload_n 0, 1) := by decide +kernel
theorem dX6_ask_42 : decode cX6_ask 42 = .ok (.getfield 66, 3) := by decide +kernel
theorem dX6_ask_45 : decode cX6_ask 45 = .ok (.iload_n 1, 1) := by decide +kernel
theorem dX6_ask_46 : decode cX6_ask 46 = .ok (.iaload, 1) := by decide +kernel
theorem dX6_ask_47 : decode cX6_ask 47 = .ok (.iload_n 2, 1) := by decide +kernel
theorem dX6_ask_48 : decode cX6_ask 48 = .ok (.invokestatic 143, 3) := by decide +kernel
theorem dX6_ask_51 : decode cX6_ask 51 = .ok (.ifCond .eq 12, 3) := by decide +kernel
theorem dX6_ask_54 : decode cX6_ask 54 = .ok (.aload_n 0, 1) := by decide +kernel
theorem dX6_ask_55 : decode cX6_ask 55 = .ok (.getfield 69, 3) := by decide +kernel
theorem dX6_ask_58 : decode cX6_ask 58 = .ok (.iload_n 1, 1) := by decide +kernel
theorem dX6_ask_59 : decode cX6_ask 59 = .ok (.iaload, 1) := by decide +kernel
theorem dX6_ask_60 : decode cX6_ask 60 = .ok (.goto 5, 3) := by decide +kernel
theorem dX6_ask_63 : decode cX6_ask 63 = .ok (.ldc 147, 2) := by decide +kernel
theorem dX6_ask_65 : decode cX6_ask 65 = .ok (.ireturn, 1) := by decide +kernel
theorem dX6_item_0 : decode cX6_item 0 = .ok (.iload_n 1, 1) := by decide +kernel
theorem dX6_item_1 : decode cX6_item 1 = .ok (.invokestatic 265, 3) := by decide +kernel
theorem dX6_item_4 : decode cX6_item 4 = .ok (.ifCond .ne 6, 3) := by decide +kernel
theorem dX6_item_7 : decode cX6_item 7 = .ok (.ldc 90, 2) := by decide +kernel
theorem dX6_item_9 : decode cX6_item 9 = .ok (.ireturn, 1) := by decide +kernel
theorem dX6_item_10 : decode cX6_item 10 = .ok (.aload_n 0, 1) := by decide +kernel
theorem dX6_item_11 : decode cX6_item 11 = .ok (.getfield 63, 3) := by decide +kernel
theorem dX6_item_14 : decode cX6_item 14 = .ok (.iload_n 1, 1) := by decide +kernel
theorem dX6_item_15 : decode cX6_item 15 = .ok (.iaload, 1) := by decide +kernel
theorem dX6_item_16 : decode cX6_item 16 = .ok (.ifCond .ne 6, 3) := by decide +kernel
theorem dX6_item_19 : decode cX6_item 19 = .ok (.ldc 180, 2) := by decide +kernel
theorem dX6_item_21 : decode cX6_item 21 = .ok (.ireturn, 1) := by decide +kernel
theorem dX6_item_22 : decode cX6_item 22 = .ok (.aload_n 0, 1) := by decide +kernel
theorem dX6_item_23 : decode cX6_item 23 = .ok (.getfield 63, 3) := by decide +kernel
theorem dX6_item_26 : decode cX6_item 26 = .ok (.iload_n 1, 1) := by decide +kernel
theorem dX6_item_27 : decode cX6_item 27 = .ok (.iaload, 1) := by decide +kernel
theorem dX6_item_28 : decode cX6_item 28 = .ok (.iconst 2, 1) := by decide +kernel
theorem dX6_item_29 : decode cX6_item 29 = .ok (.if_icmp .eq 6, 3) := by decide +kernel
theorem dX6_item_32 : decode cX6_item 32 = .ok (.ldc 147, 2) := by decide +kernel
theorem dX6_item_34 : decode cX6_item 34 = .ok (.ireturn, 1) := by decide +kernel
theorem dX6_item_35 : decode cX6_item 35 = .ok (.iload_n 2, 1) := by decide +kernel
theorem dX6_item_36 : decode cX6_item 36 = .ok (.iconst 0, 1) := by decide +kernel
theorem dX6_item_37 : decode cX6_item 37 = .ok (.aload_n 0, 1) := by decide +kernel
theorem dX6_item_38 : decode cX6_item 38 = .ok (.getfield 66, 3) := by decide +kernel
theorem dX6_item_41 : decode cX6_item 41 = .ok (.iload_n 1, 1) := by decide +kernel
theorem dX6_item_42 : decode cX6_item 42 = .ok (.iaload, 1) := by decide +kernel
theorem dX6_item_43 : decode cX6_item 43 = .ok (.iconst 1, 1) := by decide +kernel
theorem dX6_item_44 : decode cX6_item 44 = .ok (.isub, 1) := by decide +kernel
theorem dX6_item_45 : decode cX6_item 45 = .ok (.invokestatic 82, 3) := by decide +kernel
theorem dX6_item_48 : decode cX6_item 48 = .ok (.ifCond .ne 7, 3) := by decide +kernel
theorem dX6_item_51 : decode cX6_item 51 = .ok (.ldc_w 263, 3) := by decide +kernel
theorem dX6_item_54 : decode cX6_item 54 = .ok (.ireturn, 1) := by decide +kernel
theorem dX6_item_55 : decode cX6_item 55 = .ok (.aload_n 0, 1) := by decide +kernel
theorem dX6_item_56 : decode cX6_item 56 = .ok (.getfield 72, 3) := by decide +kernel
theorem dX6_item_59 : decode cX6_item 59 = .ok (.bipush 24, 2) := by decide +kernel
theorem dX6_item_61 : decode cX6_item 61 = .ok (.iload_n 1, 1) := by decide +kernel
theorem dX6_item_62 : decode cX6_item 62 = .ok (.imul, 1) := by decide +kernel
theorem dX6_item_63 : decode cX6_item 63 = .ok (.iload_n 2, 1) := by decide +kernel
theorem dX6_item_64 : decode cX6_item 64 = .ok (.iadd, 1) := by decide +kernel
theorem dX6_item_65 : decode cX6_item 65 = .ok (.iaload, 1) := by decide +kernel
theorem dX6_item_66 : decode cX6_item 66 = .ok (.istore_n 3, 1) := by decide +kernel
theorem dX6_item_67 : decode cX6_item 67 = .ok (.iload_n 3, 1) := by decide +kernel
theorem dX6_item_68 : decode cX6_item 68 = .ok (.ldc 81, 2) := by decide +kernel
theorem dX6_item_70 : decode cX6_item 70 = .ok (.if_icmp .ne 8, 3) := by decide +kernel
theorem dX6_item_73 : decode cX6_item 73 = .ok (.ldc 147, 2) := by decide +kernel
theorem dX6_item_75 : decode cX6_item 75 = .ok (.goto 4, 3) := by decide +kernel
theorem dX6_item_78 : decode cX6_item 78 = .ok (.iload_n 3, 1) := by decide +kernel
theorem dX6_item_79 : decode cX6_item 79 = .ok (.ireturn, 1) := by decide +kernel
theorem dX6_rest_0 : decode cX6_rest 0 = .ok (.iload_n 1, 1) := by decide +kernel
theorem dX6_rest_1 : decode cX6_rest 1 = .ok (.invokestatic 265, 3) := by decide +kernel
theorem dX6_rest_4 : decode cX6_rest 4 = .ok (.ifCond .ne 6, 3) := by decide +kernel
theorem dX6_rest_7 : decode cX6_rest 7 = .ok (.ldc 90, 2) := by decide +kernel
theorem dX6_rest_9 : decode cX6_rest 9 = .ok (.ireturn, 1) := by decide +kernel
theorem dX6_rest_10 : decode cX6_rest 10 = .ok (.aload_n 0, 1) := by decide +kernel
theorem dX6_rest_11 : decode cX6_rest 11 = .ok (.getfield 63, 3) := by decide +kernel
theorem dX6_rest_14 : decode cX6_rest 14 = .ok (.iload_n 1, 1) := by decide +kernel
theorem dX6_rest_15 : decode cX6_rest 15 = .ok (.iaload, 1) := by decide +kernel
theorem dX6_rest_16 : decode cX6_rest 16 = .ok (.ifCond .ne 6, 3) := by decide +kernel
theorem dX6_rest_19 : decode cX6_rest 19 = .ok (.ldc 180, 2) := by decide +kernel
theorem dX6_rest_21 : decode cX6_rest 21 = .ok (.ireturn, 1) := by decide +kernel
theorem dX6_rest_22 : decode cX6_rest 22 = .ok (.aload_n 0, 1) := by decide +kernel
theorem dX6_rest_23 : decode cX6_rest 23 = .ok (.getfield 63, 3) := by decide +kernel
theorem dX6_rest_26 : decode cX6_rest 26 = .ok (.iload_n 1, 1) := by decide +kernel
theorem dX6_rest_27 : decode cX6_rest 27 = .ok (.iaload, 1) := by decide +kernel
theorem dX6_rest_28 : decode cX6_rest 28 = .ok (.iconst 3, 1) := by decide +kernel
theorem dX6_rest_29 : decode cX6_rest 29 = .ok (.if_icmp .eq 6, 3) := by decide +kernel
theorem dX6_rest_32 : decode cX6_rest 32 = .ok (.ldc 147, 2) := by decide +kernel
theorem dX6_rest_34 : decode cX6_rest 34 = .ok (.ireturn, 1) := by decide +kernel
theorem dX6_rest_35 : decode cX6_rest 35 = .ok (.iload_n 2, 1) := by decide +kernel
theorem dX6_rest_36 : decode cX6_rest 36 = .ok (.ifCond .ne 8, 3) := by decide +kernel
theorem dX6_rest_39 : decode cX6_rest 39 = .ok (.ldc 189, 2) := by decide +kernel
theorem dX6_rest_41 : decode cX6_rest 41 = .ok (.goto 20, 3) := by decide +kernel
theorem dX6_rest_44 : decode cX6_rest 44 = .ok (.iload_n 2, 1) := by decide +kernel
theorem dX6_rest_45 : decode cX6_rest 45 = .ok (.iconst (-1), 1) := by decide +kernel
theorem dX6_rest_46 : decode cX6_rest 46 = .ok (.if_icmp .ne 7, 3) := by decide +kernel
theorem dX6_rest_49 : decode cX6_rest 49 = .ok (.iconst 0, 1) := by decide +kernel
theorem dX6_rest_50 : decode cX6_rest 50 = .ok (.goto 11, 3) := by decide +kernel
theorem dX6_rest_53 : decode cX6_rest 53 = .ok (.aload_n 0, 1) := by decide +kernel
theorem dX6_rest_54 : decode cX6_rest 54 = .ok (.getfield 66, 3) := by decide +kernel
theorem dX6_rest_57 : decode cX6_rest 57 = .ok (.iload_n 1, 1) := by decide +kernel
theorem dX6_rest_58 : decode cX6_rest 58 = .ok (.iaload, 1) := by decide +kernel
theorem dX6_rest_59 : decode cX6_rest 59 = .ok (.iload_n 2, 1) := by decide +kernel
theorem dX6_rest_60 : decode cX6_rest 60 = .ok (.irem, 1) := by decide +kernel
theorem dX6_rest_61 : decode cX6_rest 61 = .ok (.ireturn, 1) := by decide +kernel
theorem dX6_tell_0 : decode cX6_tell 0 = .ok (.aload_n 0, 1) := by decide +kernel
theorem dX6_tell_1 : decode cX6_tell 1 = .ok (.getfield 268, 3) := by decide +kernel
theorem dX6_tell_4 : decode cX6_tell 4 = .ok (.bipush 60, 2) := by decide +kernel
theorem dX6_tell_6 : decode cX6_tell 6 = .ok (.if_icmp .ne 6, 3) := by decide +kernel
theorem dX6_tell_9 : decode cX6_tell 9 = .ok (.ldc 91, 2) := by decide +kernel
theorem dX6_tell_11 : decode cX6_tell 11 = .ok (.ireturn, 1) := by decide +kernel
theorem dX6_tell_12 : decode cX6_tell 12 = .ok (.aload_n 0, 1) := by decide +kernel
theorem dX6_tell_13 : decode cX6_tell 13 = .ok (.getfield 78, 3) := by decide +kernel
theorem dX6_tell_16 : decode cX6_tell 16 = .ok (.aload_n 0, 1) := by decide +kernel
theorem dX6_tell_17 : decode cX6_tell 17 = .ok (.getfield 268, 3) := by decide +kernel
theorem dX6_tell_20 : decode cX6_tell 20 = .ok (.iload_n 1, 1) := by decide +kernel
theorem dX6_tell_21 : decode cX6_tell 21 = .ok (.iastore, 1) := by decide +kernel
theorem dX6_tell_22 : decode cX6_tell 22 = .ok (.aload_n 0, 1) := by decide +kernel
theorem dX6_tell_23 : decode cX6_tell 23 = .ok (.dup, 1) := by decide +kernel
theorem dX6_tell_24 : decode cX6_tell 24 = .ok (.getfield 268, 3) := by decide +kernel
theorem dX6_tell_27 : decode cX6_tell 27 = .ok (.iconst 1, 1) := by decide +kernel
theorem dX6_tell_28 : decode cX6_tell 28 = .ok (.iadd, 1) := by decide +kernel
theorem dX6_tell_29 : decode cX6_tell 29 = .ok (.putfield 268, 3) := by decide +kernel
theorem dX6_tell_32 : decode cX6_tell 32 = .ok (.aload_n 0, 1) := by decide +kernel
theorem dX6_tell_33 : decode cX6_tell 33 = .ok (.getfield 268, 3) := by decide +kernel
theorem dX6_tell_36 : decode cX6_tell 36 = .ok (.ireturn, 1) := by decide +kernel
theorem dX6_check_0 : decode cX6_check 0 = .ok (.aload_n 0, 1) := by decide +kernel
theorem dX6_check_1 : decode cX6_check 1 = .ok (.getfield 268, 3) := by decide +kernel
theorem dX6_check_4 : decode cX6_check 4 = .ok (.istore_n 2, 1) := by decide +kernel
theorem dX6_check_5 : decode cX6_check 5 = .ok (.aload_n 0, 1) := by decide +kernel
theorem dX6_check_6 : decode cX6_check 6 = .ok (.iconst 0, 1) := by decide +kernel
theorem dX6_check_7 : decode cX6_check 7 = .ok (.putfield 268, 3) := by decide +kernel
theorem dX6_check_10 : decode cX6_check 10 = .ok (.iload_n 1, 1) := by decide +kernel
theorem dX6_check_11 : decode cX6_check 11 = .ok (.iconst 1, 1) := by decide +kernel
theorem dX6_check_12 : decode cX6_check 12 = .ok (.bipush 30, 2) := by decide +kernel
theorem dX6_check_14 : decode cX6_check 14 = .ok (.invokestatic 82, 3) := by decide +kernel
theorem dX6_check_17 : decode cX6_check 17 = .ok (.ifCond .ne 6, 3) := by decide +kernel
theorem dX6_check_20 : decode cX6_check 20 = .ok (.ldc 90, 2) := by decide +kernel
theorem dX6_check_22 : decode cX6_check 22 = .ok (.ireturn, 1) := by decide +kernel
theorem dX6_check_23 : decode cX6_check 23 = .ok (.aload_n 0, 1) := by decide +kernel
theorem dX6_check_24 : decode cX6_check 24 = .ok (.getfield 185, 3) := by decide +kernel
theorem dX6_check_27 : decode cX6_check 27 = .ok (.ifCond .ne 6, 3) := by decide +kernel
theorem dX6_check_30 : decode cX6_check 30 = .ok (.ldc 189, 2) := by decide +kernel
theorem dX6_check_32 : decode cX6_check 32 = .ok (.ireturn, 1) := by decide +kernel
theorem dX6_check_33 : decode cX6_check 33 = .ok (.aload_n 0, 1) := by decide +kernel
theorem dX6_check_34 : decode cX6_check 34 = .ok (.getfield 9, 3) := by decide +kernel
theorem dX6_check_37 : decode cX6_check 37 = .ok (.aload_n 0, 1) := by decide +kernel
theorem dX6_check_38 : decode cX6_check 38 = .ok (.getfield 16, 3) := by decide +kernel
theorem dX6_check_41 : decode cX6_check 41 = .ok (.invokestatic 190, 3) := by decide +kernel
theorem dX6_check_44 : decode cX6_check 44 = .ok (.aload_n 0, 1) := by decide +kernel
theorem dX6_check_45 : decode cX6_check 45 = .ok (.getfield 13, 3) := by decide +kernel
theorem dX6_check_48 : decode cX6_check 48 = .ok (.aload_n 0, 1) := by decide +kernel
theorem dX6_check_49 : decode cX6_check 49 = .ok (.getfield 9, 3) := by decide +kernel
theorem dX6_check_52 : decode cX6_check 52 = .ok (.invokestatic 190, 3) := by decide +kernel
theorem dX6_check_55 : decode cX6_check 55 = .ok (.iconst 2, 1) := by decide +kernel
theorem dX6_check_56 : decode cX6_check 56 = .ok (.sipush 9999, 3) := by decide +kernel
theorem dX6_check_59 : decode cX6_check 59 = .ok (.aload_n 0, 1) := by decide +kernel
theorem dX6_check_60 : decode cX6_check 60 = .ok (.getfield 9, 3) := by decide +kernel
theorem dX6_check_63 : decode cX6_check 63 = .ok (.iconst 4, 1) := by decide +kernel
theorem dX6_check_64 : decode cX6_check 64 = .ok (.iaload, 1) := by decide +kernel
theorem dX6_check_65 : decode cX6_check 65 = .ok (.isub, 1) := by decide +kernel
theorem dX6_check_66 : decode cX6_check 66 = .ok (.iconst 0, 1) := by decide +kernel
theorem dX6_check_67 : decode cX6_check 67 = .ok (.iload_n 1, 1) := by decide +kernel
theorem dX6_check_68 : decode cX6_check 68 = .ok (.invokestatic 101, 3) := by decide +kernel
theorem dX6_check_71 : decode cX6_check 71 = .ok (.imul, 1) := by decide +kernel
theorem dX6_check_72 : decode cX6_check 72 = .ok (.istore_n 3, 1) := by decide +kernel
theorem dX6_check_73 : decode cX6_check 73 = .ok (.iconst 0, 1) := by decide +kernel
theorem dX6_check_74 : decode cX6_check 74 = .ok (.istore 4, 2) := by decide +kernel
theorem dX6_check_76 : decode cX6_check 76 = .ok (.iconst 0, 1) := by decide +kernel
theorem dX6_check_77 : decode cX6_check 77 = .ok (.istore 5, 2) := by decide +kernel
theorem dX6_check_79 : decode cX6_check 79 = .ok (.iconst 2, 1) := by decide +kernel
theorem dX6_check_80 : decode cX6_check 80 = .ok (.iload 5, 2) := by decide +kernel
theorem dX6_check_82 : decode cX6_check 82 = .ok (.imul, 1) := by decide +kernel
theorem dX6_check_83 : decode cX6_check 83 = .ok (.iload_n 3, 1) := by decide +kernel
theorem dX6_check_84 : decode cX6_check 84 = .ok (.if_icmp .ge 93, 3) := by decide +kernel
theorem dX6_check_87 : decode cX6_check 87 = .ok (.iload 4, 2) := by decide +kernel
theorem dX6_check_89 : decode cX6_check 89 = .ok (.iconst 2, 1) := by decide +kernel
theorem dX6_check_90 : decode cX6_check 90 = .ok (.iload 5, 2) := by decide +kernel
theorem dX6_check_92 : decode cX6_check 92 = .ok (.imul, 1) := by decide +kernel
theorem dX6_check_93 : decode cX6_check 93 = .ok (.if_icmp .ne 84, 3) := by decide +kernel
theorem dX6_check_96 : decode cX6_check 96 = .ok (.aload_n 0, 1) := by decide +kernel
theorem dX6_check_97 : decode cX6_check 97 = .ok (.invokevirtual 155, 3) := by decide +kernel
theorem dX6_check_100 : decode cX6_check 100 = .ok (.iload 4, 2) := by decide +kernel
theorem dX6_check_102 : decode cX6_check 102 = .ok (.iload 4, 2) := by decide +kernel
theorem dX6_check_104 : decode cX6_check 104 = .ok (.iload_n 2, 1) := by decide +kernel
theorem dX6_check_105 : decode cX6_check 105 = .ok (.if_icmp .ge 21, 3) := by decide +kernel
theorem dX6_check_108 : decode cX6_check 108 = .ok (.aload_n 0, 1) := by decide +kernel
theorem dX6_check_109 : decode cX6_check 109 = .ok (.getfield 78, 3) := by decide +kernel
theorem dX6_check_112 : decode cX6_check 112 = .ok (.iload 4, 2) := by decide +kernel
theorem dX6_check_114 : decode cX6_check 114 = .ok (.iaload, 1) := by decide +kernel
theorem dX6_check_115 : decode cX6_check 115 = .ok (.aload_n 0, 1) := by decide +kernel
theorem dX6_check_116 : decode cX6_check 116 = .ok (.invokevirtual 162, 3) := by decide +kernel
theorem dX6_check_119 : decode cX6_check 119 = .ok (.if_icmp .ne 7, 3) := by decide +kernel
theorem dX6_check_122 : decode cX6_check 122 = .ok (.iconst 1, 1) := by decide +kernel
theorem dX6_check_123 : decode cX6_check 123 = .ok (.goto 4, 3) := by decide +kernel
theorem dX6_check_126 : decode cX6_check 126 = .ok (.iconst 0, 1) := by decide +kernel
theorem dX6_check_127 : decode cX6_check 127 = .ok (.iadd, 1) := by decide +kernel
theorem dX6_check_128 : decode cX6_check 128 = .ok (.istore 4, 2) := by decide +kernel
theorem dX6_check_130 : decode cX6_check 130 = .ok (.iload 4, 2) := by decide +kernel
theorem dX6_check_132 : decode cX6_check 132 = .ok (.iload 4, 2) := by decide +kernel
theorem dX6_check_134 : decode cX6_check 134 = .ok (.iconst 2, 1) := by decide +kernel
theorem dX6_check_135 : decode cX6_check 135 = .ok (.iload 5, 2) := by decide +kernel
theorem dX6_check_137 : decode cX6_check 137 = .ok (.imul, 1) := by decide +kernel
theorem dX6_check_138 : decode cX6_check 138 = .ok (.iconst 1, 1) := by decide +kernel
theorem dX6_check_139 : decode cX6_check 139 = .ok (.iadd, 1) := by decide +kernel
theorem dX6_check_140 : decode cX6_check 140 = .ok (.if_icmp .ne 27, 3) := by decide +kernel
theorem dX6_check_143 : decode cX6_check 143 = .ok (.iload 4, 2) := by decide +kernel
theorem dX6_check_145 : decode cX6_check 145 = .ok (.iload_n 2, 1) := by decide +kernel
theorem dX6_check_146 : decode cX6_check 146 = .ok (.if_icmp .ge 21, 3) := by decide +kernel
theorem dX6_check_149 : decode cX6_check 149 = .ok (.aload_n 0, 1) := by decide +kernel
theorem dX6_check_150 : decode cX6_check 150 = .ok (.getfield 78, 3) := by decide +kernel
theorem dX6_check_153 : decode cX6_check 153 = .ok (.iload 4, 2) := by decide +kernel
theorem dX6_check_155 : decode cX6_check 155 = .ok (.iaload, 1) := by decide +kernel
theorem dX6_check_156 : decode cX6_check 156 = .ok (.aload_n 0, 1) := by decide +kernel
theorem dX6_check_157 : decode cX6_check 157 = .ok (.invokevirtual 128, 3) := by decide +kernel
theorem dX6_check_160 : decode cX6_check 160 = .ok (.if_icmp .ne 7, 3) := by decide +kernel
theorem dX6_check_163 : decode cX6_check 163 = .ok (.iconst 1, 1) := by decide +kernel
theorem dX6_check_164 : decode cX6_check 164 = .ok (.goto 4, 3) := by decide +kernel
theorem dX6_check_167 : decode cX6_check 167 = .ok (.iconst 0, 1) := by decide +kernel
theorem dX6_check_168 : decode cX6_check 168 = .ok (.iadd, 1) := by decide +kernel
theorem dX6_check_169 : decode cX6_check 169 = .ok (.istore 4, 2) := by decide +kernel
theorem dX6_check_171 : decode cX6_check 171 = .ok (.iinc 5 1, 3) := by decide +kernel
theorem dX6_check_174 : decode cX6_check 174 = .ok (.goto (-95), 3) := by decide +kernel
theorem dX6_check_177 : decode cX6_check 177 = .ok (.aload_n 0, 1) := by decide +kernel
theorem dX6_check_178 : decode cX6_check 178 = .ok (.getfield 16, 3) := by decide +kernel
theorem dX6_check_181 : decode cX6_check 181 = .ok (.aload_n 0, 1) := by decide +kernel
theorem dX6_check_182 : decode cX6_check 182 = .ok (.getfield 9, 3) := by decide +kernel
theorem dX6_check_185 : decode cX6_check 185 = .ok (.invokestatic 190, 3) := by decide +kernel
theorem dX6_check_188 : decode cX6_check 188 = .ok (.iload 4, 2) := by decide +kernel
theorem dX6_check_190 : decode cX6_check 190 = .ok (.iload_n 2, 1) := by decide +kernel
theorem dX6_check_191 : decode cX6_check 191 = .ok (.if_icmp .ne 13, 3) := by decide +kernel
theorem dX6_check_194 : decode cX6_check 194 = .ok (.iload 4, 2) := by decide +kernel
theorem dX6_check_196 : decode cX6_check 196 = .ok (.iload_n 3, 1) := by decide +kernel
theorem dX6_check_197 : decode cX6_check 197 = .ok (.if_icmp .ne 7, 3) := by decide +kernel
theorem dX6_check_200 : decode cX6_check 200 = .ok (.iconst 0, 1) := by decide +kernel
theorem dX6_check_201 : decode cX6_check 201 = .ok (.goto 7, 3) := by decide +kernel
theorem dX6_check_204 : decode cX6_check 204 = .ok (.iconst 1, 1) := by decide +kernel
theorem dX6_check_205 : decode cX6_check 205 = .ok (.iload 4, 2) := by decide +kernel
theorem dX6_check_207 : decode cX6_check 207 = .ok (.iadd, 1) := by decide +kernel
theorem dX6_check_208 : decode cX6_check 208 = .ok (.ireturn, 1) := by decide +kernel
theorem dX6_keep_0 : decode cX6_keep 0 = .ok (.aload_n 0, 1) := by decide +kernel
theorem dX6_keep_1 : decode cX6_keep 1 = .ok (.getfield 9, 3) := by decide +kernel
theorem dX6_keep_4 : decode cX6_keep 4 = .ok (.aload_n 0, 1) := by decide +kernel
theorem dX6_keep_5 : decode cX6_keep 5 = .ok (.getfield 13, 3) := by decide +kernel
theorem dX6_keep_8 : decode cX6_keep 8 = .ok (.invokestatic 190, 3) := by decide +kernel
theorem dX6_keep_11 : decode cX6_keep 11 = .ok (.aload_n 0, 1) := by decide +kernel
theorem dX6_keep_12 : decode cX6_keep 12 = .ok (.iconst 1, 1) := by decide +kernel
theorem dX6_keep_13 : decode cX6_keep 13 = .ok (.putfield 185, 3) := by decide +kernel
theorem dX6_keep_16 : decode cX6_keep 16 = .ok (.aload_n 0, 1) := by decide +kernel
theorem dX6_keep_17 : decode cX6_keep 17 = .ok (.getfield 9, 3) := by decide +kernel
theorem dX6_keep_20 : decode cX6_keep 20 = .ok (.iconst 1, 1) := by decide +kernel
theorem dX6_keep_21 : decode cX6_keep 21 = .ok (.iaload, 1) := by decide +kernel
theorem dX6_keep_22 : decode cX6_keep 22 = .ok (.ireturn, 1) := by decide +kernel
theorem dX6_back_0 : decode cX6_back 0 = .ok (.aload_n 0, 1) := by decide +kernel
theorem dX6_back_1 : decode cX6_back 1 = .ok (.getfield 185, 3) := by decide +kernel
theorem dX6_back_4 : decode cX6_back 4 = .ok (.ifCond .ne 6, 3) := by decide +kernel
theorem dX6_back_7 : decode cX6_back 7 = .ok (.ldc 189, 2) := by decide +kernel
theorem dX6_back_9 : decode cX6_back 9 = .ok (.ireturn, 1) := by decide +kernel
theorem dX6_back_10 : decode cX6_back 10 = .ok (.aload_n 0, 1) := by decide +kernel
theorem dX6_back_11 : decode cX6_back 11 = .ok (.getfield 13, 3) := by decide +kernel
theorem dX6_back_14 : decode cX6_back 14 = .ok (.aload_n 0, 1) := by decide +kernel
theorem dX6_back_15 : decode cX6_back 15 = .ok (.getfield 9, 3) := by decide +kernel
theorem dX6_back_18 : decode cX6_back 18 = .ok (.invokestatic 190, 3) := by decide +kernel
theorem dX6_back_21 : decode cX6_back 21 = .ok (.aload_n 0, 1) := by decide +kernel
theorem dX6_back_22 : decode cX6_back 22 = .ok (.getfield 9, 3) := by decide +kernel
theorem dX6_back_25 : decode cX6_back 25 = .ok (.iconst 1, 1) := by decide +kernel
theorem dX6_back_26 : decode cX6_back 26 = .ok (.iaload, 1) := by decide +kernel
theorem dX6_back_27 : decode cX6_back 27 = .ok (.ireturn, 1) := by decide +kernel
theorem dX6_count_0 : decode cX6_count 0 = .ok (.iload_n 1, 1) := by decide +kernel
theorem dX6_count_1 : decode cX6_count 1 = .ok (.tableswitch 100 0 7 #[47, 54, 61, 68, 75, 83, 88, 93], 47) := by decide +kernel
theorem dX6_count_48 : decode cX6_count 48 = .ok (.aload_n 0, 1) := by decide +kernel
theorem dX6_count_49 : decode cX6_count 49 = .ok (.getfield 9, 3) := by decide +kernel
theorem dX6_count_52 : decode cX6_count 52 = .ok (.iconst 1, 1) := by decide +kernel
theorem dX6_count_53 : decode cX6_count 53 = .ok (.iaload, 1) := by decide +kernel
theorem dX6_count_54 : decode cX6_count 54 = .ok (.ireturn, 1) := by decide +kernel
theorem dX6_count_55 : decode cX6_count 55 = .ok (.aload_n 0, 1) := by decide +kernel
theorem dX6_count_56 : decode cX6_count 56 = .ok (.getfield 9, 3) := by decide +kernel
theorem dX6_count_59 : decode cX6_count 59 = .ok (.iconst 4, 1) := by decide +kernel
theorem dX6_count_60 : decode cX6_count 60 = .ok (.iaload, 1) := by decide +kernel
theorem dX6_count_61 : decode cX6_count 61 = .ok (.ireturn, 1) := by decide +kernel
theorem dX6_count_62 : decode cX6_count 62 = .ok (.aload_n 0, 1) := by decide +kernel
theorem dX6_count_63 : decode cX6_count 63 = .ok (.getfield 9, 3) := by decide +kernel
theorem dX6_count_66 : decode cX6_count 66 = .ok (.iconst 2, 1) := by decide +kernel
theorem dX6_count_67 : decode cX6_count 67 = .ok (.iaload, 1) := by decide +kernel
theorem dX6_count_68 : decode cX6_count 68 = .ok (.ireturn, 1) := by decide +kernel
theorem dX6_count_69 : decode cX6_count 69 = .ok (.aload_n 0, 1) := by decide +kernel
theorem dX6_count_70 : decode cX6_count 70 = .ok (.getfield 9, 3) := by decide +kernel
theorem dX6_count_73 : decode cX6_count 73 = .ok (.iconst 3, 1) := by decide +kernel
theorem dX6_count_74 : decode cX6_count 74 = .ok (.iaload, 1) := by decide +kernel
theorem dX6_count_75 : decode cX6_count 75 = .ok (.ireturn, 1) := by decide +kernel
theorem dX6_count_76 : decode cX6_count 76 = .ok (.aload_n 0, 1) := by decide +kernel
theorem dX6_count_77 : decode cX6_count 77 = .ok (.getfield 9, 3) := by decide +kernel
theorem dX6_count_80 : decode cX6_count 80 = .ok (.bipush 7, 2) := by decide +kernel
theorem dX6_count_82 : decode cX6_count 82 = .ok (.iaload, 1) := by decide +kernel
theorem dX6_count_83 : decode cX6_count 83 = .ok (.ireturn, 1) := by decide +kernel
theorem dX6_count_84 : decode cX6_count 84 = .ok (.aload_n 0, 1) := by decide +kernel
theorem dX6_count_85 : decode cX6_count 85 = .ok (.getfield 268, 3) := by decide +kernel
theorem dX6_count_88 : decode cX6_count 88 = .ok (.ireturn, 1) := by decide +kernel
theorem dX6_count_89 : decode cX6_count 89 = .ok (.aload_n 0, 1) := by decide +kernel
theorem dX6_count_90 : decode cX6_count 90 = .ok (.getfield 194, 3) := by decide +kernel
theorem dX6_count_93 : decode cX6_count 93 = .ok (.ireturn, 1) := by decide +kernel
theorem dX6_count_94 : decode cX6_count 94 = .ok (.aload_n 0, 1) := by decide +kernel
theorem dX6_count_95 : decode cX6_count 95 = .ok (.getfield 9, 3) := by decide +kernel
theorem dX6_count_98 : decode cX6_count 98 = .ok (.iconst 0, 1) := by decide +kernel
theorem dX6_count_99 : decode cX6_count 99 = .ok (.iaload, 1) := by decide +kernel
theorem dX6_count_100 : decode cX6_count 100 = .ok (.ireturn, 1) := by decide +kernel
theorem dX6_count_101 : decode cX6_count 101 = .ok (.ldc 90, 2) := by decide +kernel
theorem dX6_count_103 : decode cX6_count 103 = .ok (.ireturn, 1) := by decide +kernel
theorem dJ11_isValidCodePoint_9a6ad_0 : decode cJ11_isValidCodePoint_9a6ad 0 = .ok (.iload_n 0, 1) := by decide +kernel
theorem dJ11_isValidCodePoint_9a6ad_1 : decode cJ11_isValidCodePoint_9a6ad 1 = .ok (.bipush 16, 2) := by decide +kernel
theorem dJ11_isValidCodePoint_9a6ad_3 : decode cJ11_isValidCodePoint_9a6ad 3 = .ok (.iushr, 1) := by decide +kernel
theorem dJ11_isValidCodePoint_9a6ad_4 : decode cJ11_isValidCodePoint_9a6ad 4 = .ok (.istore_n 1, 1) := by decide +kernel
theorem dJ11_isValidCodePoint_9a6ad_5 : decode cJ11_isValidCodePoint_9a6ad 5 = .ok (.iload_n 1, 1) := by decide +kernel
theorem dJ11_isValidCodePoint_9a6ad_6 : decode cJ11_isValidCodePoint_9a6ad 6 = .ok (.bipush 17, 2) := by decide +kernel
theorem dJ11_isValidCodePoint_9a6ad_8 : decode cJ11_isValidCodePoint_9a6ad 8 = .ok (.if_icmp .ge 7, 3) := by decide +kernel
theorem dJ11_isValidCodePoint_9a6ad_11 : decode cJ11_isValidCodePoint_9a6ad 11 = .ok (.iconst 1, 1) := by decide +kernel
theorem dJ11_isValidCodePoint_9a6ad_12 : decode cJ11_isValidCodePoint_9a6ad 12 = .ok (.goto 4, 3) := by decide +kernel
theorem dJ11_isValidCodePoint_9a6ad_15 : decode cJ11_isValidCodePoint_9a6ad 15 = .ok (.iconst 0, 1) := by decide +kernel
theorem dJ11_isValidCodePoint_9a6ad_16 : decode cJ11_isValidCodePoint_9a6ad 16 = .ok (.ireturn, 1) := by decide +kernel
theorem dJ11_highSurrogate_5068e_0 : decode cJ11_highSurrogate_5068e 0 = .ok (.iload_n 0, 1) := by decide +kernel
theorem dJ11_highSurrogate_5068e_1 : decode cJ11_highSurrogate_5068e 1 = .ok (.bipush 10, 2) := by decide +kernel
theorem dJ11_highSurrogate_5068e_3 : decode cJ11_highSurrogate_5068e 3 = .ok (.iushr, 1) := by decide +kernel
theorem dJ11_highSurrogate_5068e_4 : decode cJ11_highSurrogate_5068e 4 = .ok (.ldc 110, 2) := by decide +kernel
theorem dJ11_highSurrogate_5068e_6 : decode cJ11_highSurrogate_5068e 6 = .ok (.iadd, 1) := by decide +kernel
theorem dJ11_highSurrogate_5068e_7 : decode cJ11_highSurrogate_5068e 7 = .ok (.i2c, 1) := by decide +kernel
theorem dJ11_highSurrogate_5068e_8 : decode cJ11_highSurrogate_5068e 8 = .ok (.ireturn, 1) := by decide +kernel
theorem dJ11_lowSurrogate_5068e_0 : decode cJ11_lowSurrogate_5068e 0 = .ok (.iload_n 0, 1) := by decide +kernel
theorem dJ11_lowSurrogate_5068e_1 : decode cJ11_lowSurrogate_5068e 1 = .ok (.sipush 1023, 3) := by decide +kernel
theorem dJ11_lowSurrogate_5068e_4 : decode cJ11_lowSurrogate_5068e 4 = .ok (.iand, 1) := by decide +kernel
theorem dJ11_lowSurrogate_5068e_5 : decode cJ11_lowSurrogate_5068e 5 = .ok (.ldc 76, 2) := by decide +kernel
theorem dJ11_lowSurrogate_5068e_7 : decode cJ11_lowSurrogate_5068e 7 = .ok (.iadd, 1) := by decide +kernel
theorem dJ11_lowSurrogate_5068e_8 : decode cJ11_lowSurrogate_5068e 8 = .ok (.i2c, 1) := by decide +kernel
theorem dJ11_lowSurrogate_5068e_9 : decode cJ11_lowSurrogate_5068e 9 = .ok (.ireturn, 1) := by decide +kernel
theorem dJ9_abs_0f7a4_0 : decode cJ9_abs_0f7a4 0 = .ok (.iload_n 0, 1) := by decide +kernel
theorem dJ9_abs_0f7a4_1 : decode cJ9_abs_0f7a4 1 = .ok (.ifCond .ge 8, 3) := by decide +kernel
theorem dJ9_abs_0f7a4_4 : decode cJ9_abs_0f7a4 4 = .ok (.iload_n 0, 1) := by decide +kernel
theorem dJ9_abs_0f7a4_5 : decode cJ9_abs_0f7a4 5 = .ok (.ineg, 1) := by decide +kernel
theorem dJ9_abs_0f7a4_6 : decode cJ9_abs_0f7a4 6 = .ok (.goto 4, 3) := by decide +kernel
theorem dJ9_abs_0f7a4_9 : decode cJ9_abs_0f7a4 9 = .ok (.iload_n 0, 1) := by decide +kernel
theorem dJ9_abs_0f7a4_10 : decode cJ9_abs_0f7a4 10 = .ok (.ireturn, 1) := by decide +kernel
theorem dJ9_max_7cf53_0 : decode cJ9_max_7cf53 0 = .ok (.iload_n 0, 1) := by decide +kernel
theorem dJ9_max_7cf53_1 : decode cJ9_max_7cf53 1 = .ok (.iload_n 1, 1) := by decide +kernel
theorem dJ9_max_7cf53_2 : decode cJ9_max_7cf53 2 = .ok (.if_icmp .lt 7, 3) := by decide +kernel
theorem dJ9_max_7cf53_5 : decode cJ9_max_7cf53 5 = .ok (.iload_n 0, 1) := by decide +kernel
theorem dJ9_max_7cf53_6 : decode cJ9_max_7cf53 6 = .ok (.goto 4, 3) := by decide +kernel
theorem dJ9_max_7cf53_9 : decode cJ9_max_7cf53 9 = .ok (.iload_n 1, 1) := by decide +kernel
theorem dJ9_max_7cf53_10 : decode cJ9_max_7cf53 10 = .ok (.ireturn, 1) := by decide +kernel
theorem dJ9_min_7cf53_0 : decode cJ9_min_7cf53 0 = .ok (.iload_n 0, 1) := by decide +kernel
theorem dJ9_min_7cf53_1 : decode cJ9_min_7cf53 1 = .ok (.iload_n 1, 1) := by decide +kernel
theorem dJ9_min_7cf53_2 : decode cJ9_min_7cf53 2 = .ok (.if_icmp .gt 7, 3) := by decide +kernel
theorem dJ9_min_7cf53_5 : decode cJ9_min_7cf53 5 = .ok (.iload_n 0, 1) := by decide +kernel
theorem dJ9_min_7cf53_6 : decode cJ9_min_7cf53 6 = .ok (.goto 4, 3) := by decide +kernel
theorem dJ9_min_7cf53_9 : decode cJ9_min_7cf53 9 = .ok (.iload_n 1, 1) := by decide +kernel
theorem dJ9_min_7cf53_10 : decode cJ9_min_7cf53 10 = .ok (.ireturn, 1) := by decide +kernel
theorem dJ0_length_8abf5_0 : decode cJ0_length_8abf5 0 = .ok (.aload_n 0, 1) := by decide +kernel
theorem dJ0_length_8abf5_1 : decode cJ0_length_8abf5 1 = .ok (.getfield 9, 3) := by decide +kernel
theorem dJ0_length_8abf5_4 : decode cJ0_length_8abf5 4 = .ok (.arraylength, 1) := by decide +kernel
theorem dJ0_length_8abf5_5 : decode cJ0_length_8abf5 5 = .ok (.aload_n 0, 1) := by decide +kernel
theorem dJ0_length_8abf5_6 : decode cJ0_length_8abf5 6 = .ok (.invokevirtual 335, 3) := by decide +kernel
theorem dJ0_length_8abf5_9 : decode cJ0_length_8abf5 9 = .ok (.ishr, 1) := by decide +kernel
theorem dJ0_length_8abf5_10 : decode cJ0_length_8abf5 10 = .ok (.ireturn, 1) := by decide +kernel
theorem dJ0_charAt_5068e_0 : decode cJ0_charAt_5068e 0 = .ok (.aload_n 0, 1) := by decide +kernel
theorem dJ0_charAt_5068e_1 : decode cJ0_charAt_5068e 1 = .ok (.invokevirtual 492, 3) := by decide +kernel
theorem dJ0_charAt_5068e_4 : decode cJ0_charAt_5068e 4 = .ok (.ifCond .eq 12, 3) := by decide +kernel
theorem dJ0_charAt_5068e_7 : decode cJ0_charAt_5068e 7 = .ok (.aload_n 0, 1) := by decide +kernel
theorem dJ0_charAt_5068e_8 : decode cJ0_charAt_5068e 8 = .ok (.getfield 9, 3) := by decide +kernel
theorem dJ0_charAt_5068e_11 : decode cJ0_charAt_5068e 11 = .ok (.iload_n 1, 1) := by decide +kernel
theorem dJ0_charAt_5068e_12 : decode cJ0_charAt_5068e 12 = .ok (.invokestatic 495, 3) := by decide +kernel
theorem dJ0_charAt_5068e_15 : decode cJ0_charAt_5068e 15 = .ok (.ireturn, 1) := by decide +kernel
theorem dJ0_charAt_5068e_16 : decode cJ0_charAt_5068e 16 = .ok (.aload_n 0, 1) := by decide +kernel
theorem dJ0_charAt_5068e_17 : decode cJ0_charAt_5068e 17 = .ok (.getfield 9, 3) := by decide +kernel
theorem dJ0_charAt_5068e_20 : decode cJ0_charAt_5068e 20 = .ok (.iload_n 1, 1) := by decide +kernel
theorem dJ0_charAt_5068e_21 : decode cJ0_charAt_5068e 21 = .ok (.invokestatic 498, 3) := by decide +kernel
theorem dJ0_charAt_5068e_24 : decode cJ0_charAt_5068e 24 = .ok (.ireturn, 1) := by decide +kernel
theorem dJ0_indexOf_0f7a4_0 : decode cJ0_indexOf_0f7a4 0 = .ok (.aload_n 0, 1) := by decide +kernel
theorem dJ0_indexOf_0f7a4_1 : decode cJ0_indexOf_0f7a4 1 = .ok (.iload_n 1, 1) := by decide +kernel
theorem dJ0_indexOf_0f7a4_2 : decode cJ0_indexOf_0f7a4 2 = .ok (.iconst 0, 1) := by decide +kernel
theorem dJ0_indexOf_0f7a4_3 : decode cJ0_indexOf_0f7a4 3 = .ok (.invokevirtual 633, 3) := by decide +kernel
theorem dJ0_indexOf_0f7a4_6 : decode cJ0_indexOf_0f7a4 6 = .ok (.ireturn, 1) := by decide +kernel
theorem dJ0_indexOf_7cf53_0 : decode cJ0_indexOf_7cf53 0 = .ok (.aload_n 0, 1) := by decide +kernel
theorem dJ0_indexOf_7cf53_1 : decode cJ0_indexOf_7cf53 1 = .ok (.invokevirtual 492, 3) := by decide +kernel
theorem dJ0_indexOf_7cf53_4 : decode cJ0_indexOf_7cf53 4 = .ok (.ifCond .eq 19, 3) := by decide +kernel
theorem dJ0_indexOf_7cf53_7 : decode cJ0_indexOf_7cf53 7 = .ok (.aload_n 0, 1) := by decide +kernel
theorem dJ0_indexOf_7cf53_8 : decode cJ0_indexOf_7cf53 8 = .ok (.getfield 9, 3) := by decide +kernel
theorem dJ0_indexOf_7cf53_11 : decode cJ0_indexOf_7cf53 11 = .ok (.iload_n 1, 1) := by decide +kernel
theorem dJ0_indexOf_7cf53_12 : decode cJ0_indexOf_7cf53 12 = .ok (.iload_n 2, 1) := by decide +kernel
theorem dJ0_indexOf_7cf53_13 : decode cJ0_indexOf_7cf53 13 = .ok (.aload_n 0, 1) := by decide +kernel
theorem dJ0_indexOf_7cf53_14 : decode cJ0_indexOf_7cf53 14 = .ok (.invokevirtual 505, 3) := by decide +kernel
theorem dJ0_indexOf_7cf53_17 : decode cJ0_indexOf_7cf53 17 = .ok (.invokestatic 637, 3) := by decide +kernel
theorem dJ0_indexOf_7cf53_20 : decode cJ0_indexOf_7cf53 20 = .ok (.goto 16, 3) := by decide +kernel
theorem dJ0_indexOf_7cf53_23 : decode cJ0_indexOf_7cf53 23 = .ok (.aload_n 0, 1) := by decide +kernel
theorem dJ0_indexOf_7cf53_24 : decode cJ0_indexOf_7cf53 24 = .ok (.getfield 9, 3) := by decide +kernel
theorem dJ0_indexOf_7cf53_27 : decode cJ0_indexOf_7cf53 27 = .ok (.iload_n 1, 1) := by decide +kernel
theorem dJ0_indexOf_7cf53_28 : decode cJ0_indexOf_7cf53 28 = .ok (.iload_n 2, 1) := by decide +kernel
theorem dJ0_indexOf_7cf53_29 : decode cJ0_indexOf_7cf53 29 = .ok (.aload_n 0, 1) := by decide +kernel
theorem dJ0_indexOf_7cf53_30 : decode cJ0_indexOf_7cf53 30 = .ok (.invokevirtual 505, 3) := by decide +kernel
theorem dJ0_indexOf_7cf53_33 : decode cJ0_indexOf_7cf53 33 = .ok (.invokestatic 640, 3) := by decide +kernel
theorem dJ0_indexOf_7cf53_36 : decode cJ0_indexOf_7cf53 36 = .ok (.ireturn, 1) := by decide +kernel
theorem dJ0_coder_7d493_0 : decode cJ0_coder_7d493 0 = .ok (.getstatic 38, 3) := by decide +kernel
theorem dJ0_coder_7d493_3 : decode cJ0_coder_7d493 3 = .ok (.ifCond .eq 10, 3) := by decide +kernel
theorem dJ0_coder_7d493_6 : decode cJ0_coder_7d493 6 = .ok (.aload_n 0, 1) := by decide +kernel
theorem dJ0_coder_7d493_7 : decode cJ0_coder_7d493 7 = .ok (.getfield 15, 3) := by decide +kernel
theorem dJ0_coder_7d493_10 : decode cJ0_coder_7d493 10 = .ok (.goto 4, 3) := by decide +kernel
theorem dJ0_coder_7d493_13 : decode cJ0_coder_7d493 13 = .ok (.iconst 1, 1) := by decide +kernel
theorem dJ0_coder_7d493_14 : decode cJ0_coder_7d493 14 = .ok (.ireturn, 1) := by decide +kernel
theorem dJ0_isLatin1_aae02_0 : decode cJ0_isLatin1_aae02 0 = .ok (.getstatic 38, 3) := by decide +kernel
theorem dJ0_isLatin1_aae02_3 : decode cJ0_isLatin1_aae02 3 = .ok (.ifCond .eq 14, 3) := by decide +kernel
theorem dJ0_isLatin1_aae02_6 : decode cJ0_isLatin1_aae02 6 = .ok (.aload_n 0, 1) := by decide +kernel
theorem dJ0_isLatin1_aae02_7 : decode cJ0_isLatin1_aae02 7 = .ok (.getfield 15, 3) := by decide +kernel
theorem dJ0_isLatin1_aae02_10 : decode cJ0_isLatin1_aae02 10 = .ok (.ifCond .ne 7, 3) := by decide +kernel
theorem dJ0_isLatin1_aae02_13 : decode cJ0_isLatin1_aae02 13 = .ok (.iconst 1, 1) := by decide +kernel
theorem dJ0_isLatin1_aae02_14 : decode cJ0_isLatin1_aae02 14 = .ok (.goto 4, 3) := by decide +kernel
theorem dJ0_isLatin1_aae02_17 : decode cJ0_isLatin1_aae02 17 = .ok (.iconst 0, 1) := by decide +kernel
theorem dJ0_isLatin1_aae02_18 : decode cJ0_isLatin1_aae02 18 = .ok (.ireturn, 1) := by decide +kernel
theorem dJ0_checkIndex_df160_0 : decode cJ0_checkIndex_df160 0 = .ok (.iload_n 0, 1) := by decide +kernel
theorem dJ0_checkIndex_df160_1 : decode cJ0_checkIndex_df160 1 = .ok (.iload_n 1, 1) := by decide +kernel
theorem dJ0_checkIndex_df160_2 : decode cJ0_checkIndex_df160 2 = .ok (.getstatic 1053, 3) := by decide +kernel
theorem dJ0_checkIndex_df160_5 : decode cJ0_checkIndex_df160 5 = .ok (.invokestatic 1059, 3) := by decide +kernel
theorem dJ0_checkIndex_df160_8 : decode cJ0_checkIndex_df160 8 = .ok (.pop, 1) := by decide +kernel
theorem dJ0_checkIndex_df160_9 : decode cJ0_checkIndex_df160 9 = .ok (.return_, 1) := by decide +kernel
theorem dJ0_checkBoundsBeginEnd_23922_0 : decode cJ0_checkBoundsBeginEnd_23922 0 = .ok (.iload_n 0, 1) := by decide +kernel
theorem dJ0_checkBoundsBeginEnd_23922_1 : decode cJ0_checkBoundsBeginEnd_23922 1 = .ok (.iload_n 1, 1) := by decide +kernel
theorem dJ0_checkBoundsBeginEnd_23922_2 : decode cJ0_checkBoundsBeginEnd_23922 2 = .ok (.iload_n 2, 1) := by decide +kernel
theorem dJ0_checkBoundsBeginEnd_23922_3 : decode cJ0_checkBoundsBeginEnd_23922 3 = .ok (.getstatic 1053, 3) := by decide +kernel
theorem dJ0_checkBoundsBeginEnd_23922_6 : decode cJ0_checkBoundsBeginEnd_23922 6 = .ok (.invokestatic 1062, 3) := by decide +kernel
theorem dJ0_checkBoundsBeginEnd_23922_9 : decode cJ0_checkBoundsBeginEnd_23922 9 = .ok (.pop, 1) := by decide +kernel
theorem dJ0_checkBoundsBeginEnd_23922_10 : decode cJ0_checkBoundsBeginEnd_23922 10 = .ok (.return_, 1) := by decide +kernel
theorem dJ1_charAt_3b067_0 : decode cJ1_charAt_3b067 0 = .ok (.iload_n 1, 1) := by decide +kernel
theorem dJ1_charAt_3b067_1 : decode cJ1_charAt_3b067 1 = .ok (.aload_n 0, 1) := by decide +kernel
theorem dJ1_charAt_3b067_2 : decode cJ1_charAt_3b067 2 = .ok (.arraylength, 1) := by decide +kernel
theorem dJ1_charAt_3b067_3 : decode cJ1_charAt_3b067 3 = .ok (.invokestatic 9, 3) := by decide +kernel
theorem dJ1_charAt_3b067_6 : decode cJ1_charAt_3b067 6 = .ok (.aload_n 0, 1) := by decide +kernel
theorem dJ1_charAt_3b067_7 : decode cJ1_charAt_3b067 7 = .ok (.iload_n 1, 1) := by decide +kernel
theorem dJ1_charAt_3b067_8 : decode cJ1_charAt_3b067 8 = .ok (.baload, 1) := by decide +kernel
theorem dJ1_charAt_3b067_9 : decode cJ1_charAt_3b067 9 = .ok (.sipush 255, 3) := by decide +kernel
theorem dJ1_charAt_3b067_12 : decode cJ1_charAt_3b067 12 = .ok (.iand, 1) := by decide +kernel
