theorem dX4_lost_39 : decode cX4_lost 39 = .ok (.aload_n 0, 1) := by decide +kernel
theorem dX4_lost_40 : decode cX4_lost 40 = .ok (.getfield 16, 3) := by decide +kernel
theorem dX4_lost_43 : decode cX4_lost 43 = .ok (.iconst 2, 1) := by decide +kernel
theorem dX4_lost_44 : decode cX4_lost 44 = .ok (.invokevirtual 156, 3) := by decide +kernel
theorem dX4_lost_47 : decode cX4_lost 47 = .ok (.aload_n 0, 1) := by decide +kernel
theorem dX4_lost_48 : decode cX4_lost 48 = .ok (.aload_n 0, 1) := by decide +kernel
theorem dX4_lost_49 : decode cX4_lost 49 = .ok (.getfield 19, 3) := by decide +kernel
theorem dX4_lost_52 : decode cX4_lost 52 = .ok (.iconst 2, 1) := by decide +kernel
theorem dX4_lost_53 : decode cX4_lost 53 = .ok (.invokevirtual 156, 3) := by decide +kernel
theorem dX4_lost_56 : decode cX4_lost 56 = .ok (.iconst (-1), 1) := by decide +kernel
theorem dX4_lost_57 : decode cX4_lost 57 = .ok (.ixor, 1) := by decide +kernel
theorem dX4_lost_58 : decode cX4_lost 58 = .ok (.iand, 1) := by decide +kernel
theorem dX4_lost_59 : decode cX4_lost 59 = .ok (.ireturn, 1) := by decide +kernel
theorem dX4_judged_0 : decode cX4_judged 0 = .ok (.iload_n 3, 1) := by decide +kernel
theorem dX4_judged_1 : decode cX4_judged 1 = .ok (.ifCond .ne 12, 3) := by decide +kernel
theorem dX4_judged_4 : decode cX4_judged 4 = .ok (.iload 4, 2) := by decide +kernel
theorem dX4_judged_6 : decode cX4_judged 6 = .ok (.ifCond .ne 7, 3) := by decide +kernel
theorem dX4_judged_9 : decode cX4_judged 9 = .ok (.iconst 1, 1) := by decide +kernel
theorem dX4_judged_10 : decode cX4_judged 10 = .ok (.goto 4, 3) := by decide +kernel
theorem dX4_judged_13 : decode cX4_judged 13 = .ok (.iconst 0, 1) := by decide +kernel
theorem dX4_judged_14 : decode cX4_judged 14 = .ok (.istore 5, 2) := by decide +kernel
theorem dX4_judged_16 : decode cX4_judged 16 = .ok (.iload_n 1, 1) := by decide +kernel
theorem dX4_judged_17 : decode cX4_judged 17 = .ok (.tableswitch 351 1 8 #[47, 81, 117, 146, 181, 227, 274, 323], 47) := by decide +kernel
theorem dX4_judged_64 : decode cX4_judged 64 = .ok (.iload_n 2, 1) := by decide +kernel
theorem dX4_judged_65 : decode cX4_judged 65 = .ok (.ifCond .eq 16, 3) := by decide +kernel
theorem dX4_judged_68 : decode cX4_judged 68 = .ok (.aload_n 0, 1) := by decide +kernel
theorem dX4_judged_69 : decode cX4_judged 69 = .ok (.iload_n 2, 1) := by decide +kernel
theorem dX4_judged_70 : decode cX4_judged 70 = .ok (.invokevirtual 165, 3) := by decide +kernel
theorem dX4_judged_73 : decode cX4_judged 73 = .ok (.ifCond .eq 8, 3) := by decide +kernel
theorem dX4_judged_76 : decode cX4_judged 76 = .ok (.iload 5, 2) := by decide +kernel
theorem dX4_judged_78 : decode cX4_judged 78 = .ok (.ifCond .ne 5, 3) := by decide +kernel
theorem dX4_judged_81 : decode cX4_judged 81 = .ok (.iconst 0, 1) := by decide +kernel
theorem dX4_judged_82 : decode cX4_judged 82 = .ok (.ireturn, 1) := by decide +kernel
theorem dX4_judged_83 : decode cX4_judged 83 = .ok (.aload_n 0, 1) := by decide +kernel
theorem dX4_judged_84 : decode cX4_judged 84 = .ok (.getfield 19, 3) := by decide +kernel
theorem dX4_judged_87 : decode cX4_judged 87 = .ok (.bipush 63, 2) := by decide +kernel
theorem dX4_judged_89 : decode cX4_judged 89 = .ok (.dup2, 1) := by decide +kernel
theorem dX4_judged_90 : decode cX4_judged 90 = .ok (.iaload, 1) := by decide +kernel
theorem dX4_judged_91 : decode cX4_judged 91 = .ok (.iconst 1, 1) := by decide +kernel
theorem dX4_judged_92 : decode cX4_judged 92 = .ok (.iload_n 2, 1) := by decide +kernel
theorem dX4_judged_93 : decode cX4_judged 93 = .ok (.ishl, 1) := by decide +kernel
theorem dX4_judged_94 : decode cX4_judged 94 = .ok (.ixor, 1) := by decide +kernel
theorem dX4_judged_95 : decode cX4_judged 95 = .ok (.iastore, 1) := by decide +kernel
theorem dX4_judged_96 : decode cX4_judged 96 = .ok (.iconst 1, 1) := by decide +kernel
theorem dX4_judged_97 : decode cX4_judged 97 = .ok (.ireturn, 1) := by decide +kernel
theorem dX4_judged_98 : decode cX4_judged 98 = .ok (.iload_n 2, 1) := by decide +kernel
theorem dX4_judged_99 : decode cX4_judged 99 = .ok (.ifCond .ne 20, 3) := by decide +kernel
theorem dX4_judged_102 : decode cX4_judged 102 = .ok (.iload 5, 2) := by decide +kernel
theorem dX4_judged_104 : decode cX4_judged 104 = .ok (.ifCond .eq 15, 3) := by decide +kernel
theorem dX4_judged_107 : decode cX4_judged 107 = .ok (.aload_n 0, 1) := by decide +kernel
theorem dX4_judged_108 : decode cX4_judged 108 = .ok (.getfield 19, 3) := by decide +kernel
theorem dX4_judged_111 : decode cX4_judged 111 = .ok (.bipush 65, 2) := by decide +kernel
theorem dX4_judged_113 : decode cX4_judged 113 = .ok (.iaload, 1) := by decide +kernel
theorem dX4_judged_114 : decode cX4_judged 114 = .ok (.bipush 9, 2) := by decide +kernel
theorem dX4_judged_116 : decode cX4_judged 116 = .ok (.if_icmp .ne 5, 3) := by decide +kernel
theorem dX4_judged_119 : decode cX4_judged 119 = .ok (.iconst 0, 1) := by decide +kernel
theorem dX4_judged_120 : decode cX4_judged 120 = .ok (.ireturn, 1) := by decide +kernel
theorem dX4_judged_121 : decode cX4_judged 121 = .ok (.aload_n 0, 1) := by decide +kernel
theorem dX4_judged_122 : decode cX4_judged 122 = .ok (.getfield 19, 3) := by decide +kernel
theorem dX4_judged_125 : decode cX4_judged 125 = .ok (.bipush 65, 2) := by decide +kernel
theorem dX4_judged_127 : decode cX4_judged 127 = .ok (.dup2, 1) := by decide +kernel
theorem dX4_judged_128 : decode cX4_judged 128 = .ok (.iaload, 1) := by decide +kernel
theorem dX4_judged_129 : decode cX4_judged 129 = .ok (.iconst 1, 1) := by decide +kernel
theorem dX4_judged_130 : decode cX4_judged 130 = .ok (.iadd, 1) := by decide +kernel
theorem dX4_judged_131 : decode cX4_judged 131 = .ok (.iastore, 1) := by decide +kernel
theorem dX4_judged_132 : decode cX4_judged 132 = .ok (.iconst 1, 1) := by decide +kernel
theorem dX4_judged_133 : decode cX4_judged 133 = .ok (.ireturn, 1) := by decide +kernel
theorem dX4_judged_134 : decode cX4_judged 134 = .ok (.iload_n 2, 1) := by decide +kernel
theorem dX4_judged_135 : decode cX4_judged 135 = .ok (.invokestatic 185, 3) := by decide +kernel
theorem dX4_judged_138 : decode cX4_judged 138 = .ok (.ifCond .eq 8, 3) := by decide +kernel
theorem dX4_judged_141 : decode cX4_judged 141 = .ok (.iload 5, 2) := by decide +kernel
theorem dX4_judged_143 : decode cX4_judged 143 = .ok (.ifCond .ne 5, 3) := by decide +kernel
theorem dX4_judged_146 : decode cX4_judged 146 = .ok (.iconst 0, 1) := by decide +kernel
theorem dX4_judged_147 : decode cX4_judged 147 = .ok (.ireturn, 1) := by decide +kernel
theorem dX4_judged_148 : decode cX4_judged 148 = .ok (.aload_n 0, 1) := by decide +kernel
theorem dX4_judged_149 : decode cX4_judged 149 = .ok (.getfield 19, 3) := by decide +kernel
theorem dX4_judged_152 : decode cX4_judged 152 = .ok (.bipush 64, 2) := by decide +kernel
theorem dX4_judged_154 : decode cX4_judged 154 = .ok (.dup2, 1) := by decide +kernel
theorem dX4_judged_155 : decode cX4_judged 155 = .ok (.iaload, 1) := by decide +kernel
theorem dX4_judged_156 : decode cX4_judged 156 = .ok (.iconst 1, 1) := by decide +kernel
theorem dX4_judged_157 : decode cX4_judged 157 = .ok (.iload_n 2, 1) := by decide +kernel
theorem dX4_judged_158 : decode cX4_judged 158 = .ok (.ishl, 1) := by decide +kernel
theorem dX4_judged_159 : decode cX4_judged 159 = .ok (.ixor, 1) := by decide +kernel
theorem dX4_judged_160 : decode cX4_judged 160 = .ok (.iastore, 1) := by decide +kernel
theorem dX4_judged_161 : decode cX4_judged 161 = .ok (.iconst 1, 1) := by decide +kernel
theorem dX4_judged_162 : decode cX4_judged 162 = .ok (.ireturn, 1) := by decide +kernel
theorem dX4_judged_163 : decode cX4_judged 163 = .ok (.iload_n 3, 1) := by decide +kernel
theorem dX4_judged_164 : decode cX4_judged 164 = .ok (.ifCond .ne 32, 3) := by decide +kernel
theorem dX4_judged_167 : decode cX4_judged 167 = .ok (.iload_n 2, 1) := by decide +kernel
theorem dX4_judged_168 : decode cX4_judged 168 = .ok (.aload_n 0, 1) := by decide +kernel
theorem dX4_judged_169 : decode cX4_judged 169 = .ok (.getfield 19, 3) := by decide +kernel
theorem dX4_judged_172 : decode cX4_judged 172 = .ok (.bipush 41, 2) := by decide +kernel
theorem dX4_judged_174 : decode cX4_judged 174 = .ok (.iaload, 1) := by decide +kernel
theorem dX4_judged_175 : decode cX4_judged 175 = .ok (.if_icmp .ge 21, 3) := by decide +kernel
theorem dX4_judged_178 : decode cX4_judged 178 = .ok (.aload_n 0, 1) := by decide +kernel
theorem dX4_judged_179 : decode cX4_judged 179 = .ok (.aload_n 0, 1) := by decide +kernel
theorem dX4_judged_180 : decode cX4_judged 180 = .ok (.getfield 19, 3) := by decide +kernel
theorem dX4_judged_183 : decode cX4_judged 183 = .ok (.iload_n 2, 1) := by decide +kernel
theorem dX4_judged_184 : decode cX4_judged 184 = .ok (.invokevirtual 142, 3) := by decide +kernel
theorem dX4_judged_187 : decode cX4_judged 187 = .ok (.iload 4, 2) := by decide +kernel
theorem dX4_judged_189 : decode cX4_judged 189 = .ok (.if_icmp .ne 7, 3) := by decide +kernel
theorem dX4_judged_192 : decode cX4_judged 192 = .ok (.iconst 1, 1) := by decide +kernel
theorem dX4_judged_193 : decode cX4_judged 193 = .ok (.goto 4, 3) := by decide +kernel
theorem dX4_judged_196 : decode cX4_judged 196 = .ok (.iconst 0, 1) := by decide +kernel
theorem dX4_judged_197 : decode cX4_judged 197 = .ok (.ireturn, 1) := by decide +kernel
theorem dX4_judged_198 : decode cX4_judged 198 = .ok (.iload_n 2, 1) := by decide +kernel
theorem dX4_judged_199 : decode cX4_judged 199 = .ok (.invokestatic 200, 3) := by decide +kernel
theorem dX4_judged_202 : decode cX4_judged 202 = .ok (.ifCond .eq 40, 3) := by decide +kernel
theorem dX4_judged_205 : decode cX4_judged 205 = .ok (.bipush 10, 2) := by decide +kernel
theorem dX4_judged_207 : decode cX4_judged 207 = .ok (.iload_n 3, 1) := by decide +kernel
theorem dX4_judged_208 : decode cX4_judged 208 = .ok (.imul, 1) := by decide +kernel
theorem dX4_judged_209 : decode cX4_judged 209 = .ok (.iload 4, 2) := by decide +kernel
theorem dX4_judged_211 : decode cX4_judged 211 = .ok (.iadd, 1) := by decide +kernel
theorem dX4_judged_212 : decode cX4_judged 212 = .ok (.bipush 32, 2) := by decide +kernel
theorem dX4_judged_214 : decode cX4_judged 214 = .ok (.if_icmp .ge 28, 3) := by decide +kernel
theorem dX4_judged_217 : decode cX4_judged 217 = .ok (.aload_n 0, 1) := by decide +kernel
theorem dX4_judged_218 : decode cX4_judged 218 = .ok (.aload_n 0, 1) := by decide +kernel
theorem dX4_judged_219 : decode cX4_judged 219 = .ok (.getfield 19, 3) := by decide +kernel
theorem dX4_judged_222 : decode cX4_judged 222 = .ok (.bipush 10, 2) := by decide +kernel
theorem dX4_judged_224 : decode cX4_judged 224 = .ok (.iload_n 3, 1) := by decide +kernel
theorem dX4_judged_225 : decode cX4_judged 225 = .ok (.imul, 1) := by decide +kernel
theorem dX4_judged_226 : decode cX4_judged 226 = .ok (.iload 4, 2) := by decide +kernel
theorem dX4_judged_228 : decode cX4_judged 228 = .ok (.iadd, 1) := by decide +kernel
theorem dX4_judged_229 : decode cX4_judged 229 = .ok (.iload_n 2, 1) := by decide +kernel
theorem dX4_judged_230 : decode cX4_judged 230 = .ok (.invokevirtual 203, 3) := by decide +kernel
theorem dX4_judged_233 : decode cX4_judged 233 = .ok (.bipush (-9), 2) := by decide +kernel
theorem dX4_judged_235 : decode cX4_judged 235 = .ok (.if_icmp .ne 7, 3) := by decide +kernel
theorem dX4_judged_238 : decode cX4_judged 238 = .ok (.iconst 1, 1) := by decide +kernel
theorem dX4_judged_239 : decode cX4_judged 239 = .ok (.goto 4, 3) := by decide +kernel
theorem dX4_judged_242 : decode cX4_judged 242 = .ok (.iconst 0, 1) := by decide +kernel
theorem dX4_judged_243 : decode cX4_judged 243 = .ok (.ireturn, 1) := by decide +kernel
theorem dX4_judged_244 : decode cX4_judged 244 = .ok (.iload_n 3, 1) := by decide +kernel
theorem dX4_judged_245 : decode cX4_judged 245 = .ok (.ifCond .ne 44, 3) := by decide +kernel
theorem dX4_judged_248 : decode cX4_judged 248 = .ok (.aload_n 0, 1) := by decide +kernel
theorem dX4_judged_249 : decode cX4_judged 249 = .ok (.iload_n 2, 1) := by decide +kernel
theorem dX4_judged_250 : decode cX4_judged 250 = .ok (.invokevirtual 165, 3) := by decide +kernel
theorem dX4_judged_253 : decode cX4_judged 253 = .ok (.ifCond .eq 36, 3) := by decide +kernel
theorem dX4_judged_256 : decode cX4_judged 256 = .ok (.iload 4, 2) := by decide +kernel
theorem dX4_judged_258 : decode cX4_judged 258 = .ok (.iconst 2, 1) := by decide +kernel
theorem dX4_judged_259 : decode cX4_judged 259 = .ok (.if_icmp .ge 30, 3) := by decide +kernel
theorem dX4_judged_262 : decode cX4_judged 262 = .ok (.aload_n 0, 1) := by decide +kernel
theorem dX4_judged_263 : decode cX4_judged 263 = .ok (.aload_n 0, 1) := by decide +kernel
theorem dX4_judged_264 : decode cX4_judged 264 = .ok (.getfield 19, 3) := by decide +kernel
theorem dX4_judged_267 : decode cX4_judged 267 = .ok (.iload_n 2, 1) := by decide +kernel
theorem dX4_judged_268 : decode cX4_judged 268 = .ok (.invokevirtual 127, 3) := by decide +kernel
theorem dX4_judged_271 : decode cX4_judged 271 = .ok (.iload 4, 2) := by decide +kernel
theorem dX4_judged_273 : decode cX4_judged 273 = .ok (.iconst 1, 1) := by decide +kernel
theorem dX4_judged_274 : decode cX4_judged 274 = .ok (.if_icmp .ne 7, 3) := by decide +kernel
theorem dX4_judged_277 : decode cX4_judged 277 = .ok (.iconst 1, 1) := by decide +kernel
theorem dX4_judged_278 : decode cX4_judged 278 = .ok (.goto 4, 3) := by decide +kernel
theorem dX4_judged_281 : decode cX4_judged 281 = .ok (.iconst 0, 1) := by decide +kernel
theorem dX4_judged_282 : decode cX4_judged 282 = .ok (.if_icmp .ne 7, 3) := by decide +kernel
theorem dX4_judged_285 : decode cX4_judged 285 = .ok (.iconst 1, 1) := by decide +kernel
theorem dX4_judged_286 : decode cX4_judged 286 = .ok (.goto 4, 3) := by decide +kernel
theorem dX4_judged_289 : decode cX4_judged 289 = .ok (.iconst 0, 1) := by decide +kernel
theorem dX4_judged_290 : decode cX4_judged 290 = .ok (.ireturn, 1) := by decide +kernel
theorem dX4_judged_291 : decode cX4_judged 291 = .ok (.iload_n 3, 1) := by decide +kernel
theorem dX4_judged_292 : decode cX4_judged 292 = .ok (.ifCond .ne 46, 3) := by decide +kernel
theorem dX4_judged_295 : decode cX4_judged 295 = .ok (.iload_n 2, 1) := by decide +kernel
theorem dX4_judged_296 : decode cX4_judged 296 = .ok (.aload_n 0, 1) := by decide +kernel
theorem dX4_judged_297 : decode cX4_judged 297 = .ok (.getfield 19, 3) := by decide +kernel
theorem dX4_judged_300 : decode cX4_judged 300 = .ok (.iconst 0, 1) := by decide +kernel
theorem dX4_judged_301 : decode cX4_judged 301 = .ok (.iaload, 1) := by decide +kernel
theorem dX4_judged_302 : decode cX4_judged 302 = .ok (.if_icmp .ge 36, 3) := by decide +kernel
theorem dX4_judged_305 : decode cX4_judged 305 = .ok (.iload 4, 2) := by decide +kernel
theorem dX4_judged_307 : decode cX4_judged 307 = .ok (.iconst 2, 1) := by decide +kernel
theorem dX4_judged_308 : decode cX4_judged 308 = .ok (.if_icmp .ge 30, 3) := by decide +kernel
theorem dX4_judged_311 : decode cX4_judged 311 = .ok (.aload_n 0, 1) := by decide +kernel
theorem dX4_judged_312 : decode cX4_judged 312 = .ok (.aload_n 0, 1) := by decide +kernel
theorem dX4_judged_313 : decode cX4_judged 313 = .ok (.getfield 19, 3) := by decide +kernel
theorem dX4_judged_316 : decode cX4_judged 316 = .ok (.iload_n 2, 1) := by decide +kernel
theorem dX4_judged_317 : decode cX4_judged 317 = .ok (.invokevirtual 131, 3) := by decide +kernel
theorem dX4_judged_320 : decode cX4_judged 320 = .ok (.iload 4, 2) := by decide +kernel
theorem dX4_judged_322 : decode cX4_judged 322 = .ok (.iconst 1, 1) := by decide +kernel
theorem dX4_judged_323 : decode cX4_judged 323 = .ok (.if_icmp .ne 7, 3) := by decide +kernel
theorem dX4_judged_326 : decode cX4_judged 326 = .ok (.iconst 1, 1) := by decide +kernel
theorem dX4_judged_327 : decode cX4_judged 327 = .ok (.goto 4, 3) := by decide +kernel
theorem dX4_judged_330 : decode cX4_judged 330 = .ok (.iconst 0, 1) := by decide +kernel
theorem dX4_judged_331 : decode cX4_judged 331 = .ok (.if_icmp .ne 7, 3) := by decide +kernel
theorem dX4_judged_334 : decode cX4_judged 334 = .ok (.iconst 1, 1) := by decide +kernel
theorem dX4_judged_335 : decode cX4_judged 335 = .ok (.goto 4, 3) := by decide +kernel
theorem dX4_judged_338 : decode cX4_judged 338 = .ok (.iconst 0, 1) := by decide +kernel
theorem dX4_judged_339 : decode cX4_judged 339 = .ok (.ireturn, 1) := by decide +kernel
theorem dX4_judged_340 : decode cX4_judged 340 = .ok (.iload_n 2, 1) := by decide +kernel
theorem dX4_judged_341 : decode cX4_judged 341 = .ok (.aload_n 0, 1) := by decide +kernel
theorem dX4_judged_342 : decode cX4_judged 342 = .ok (.getfield 19, 3) := by decide +kernel
theorem dX4_judged_345 : decode cX4_judged 345 = .ok (.bipush 41, 2) := by decide +kernel
theorem dX4_judged_347 : decode cX4_judged 347 = .ok (.iaload, 1) := by decide +kernel
theorem dX4_judged_348 : decode cX4_judged 348 = .ok (.if_icmp .ge 8, 3) := by decide +kernel
theorem dX4_judged_351 : decode cX4_judged 351 = .ok (.iload 5, 2) := by decide +kernel
theorem dX4_judged_353 : decode cX4_judged 353 = .ok (.ifCond .ne 5, 3) := by decide +kernel
theorem dX4_judged_356 : decode cX4_judged 356 = .ok (.iconst 0, 1) := by decide +kernel
theorem dX4_judged_357 : decode cX4_judged 357 = .ok (.ireturn, 1) := by decide +kernel
theorem dX4_judged_358 : decode cX4_judged 358 = .ok (.aload_n 0, 1) := by decide +kernel
theorem dX4_judged_359 : decode cX4_judged 359 = .ok (.getfield 19, 3) := by decide +kernel
theorem dX4_judged_362 : decode cX4_judged 362 = .ok (.iload_n 2, 1) := by decide +kernel
theorem dX4_judged_363 : decode cX4_judged 363 = .ok (.invokestatic 191, 3) := by decide +kernel
theorem dX4_judged_366 : decode cX4_judged 366 = .ok (.iconst 1, 1) := by decide +kernel
theorem dX4_judged_367 : decode cX4_judged 367 = .ok (.ireturn, 1) := by decide +kernel
theorem dX4_judged_368 : decode cX4_judged 368 = .ok (.iconst 0, 1) := by decide +kernel
theorem dX4_judged_369 : decode cX4_judged 369 = .ok (.ireturn, 1) := by decide +kernel
theorem dX4_tenThousands_0 : decode cX4_tenThousands 0 = .ok (.lconst 1, 1) := by decide +kernel
theorem dX4_tenThousands_1 : decode cX4_tenThousands 1 = .ok (.lstore_n 1, 1) := by decide +kernel
theorem dX4_tenThousands_2 : decode cX4_tenThousands 2 = .ok (.iconst 0, 1) := by decide +kernel
theorem dX4_tenThousands_3 : decode cX4_tenThousands 3 = .ok (.istore_n 3, 1) := by decide +kernel
theorem dX4_tenThousands_4 : decode cX4_tenThousands 4 = .ok (.iload_n 3, 1) := by decide +kernel
theorem dX4_tenThousands_5 : decode cX4_tenThousands 5 = .ok (.iload_n 0, 1) := by decide +kernel
theorem dX4_tenThousands_6 : decode cX4_tenThousands 6 = .ok (.if_icmp .ge 15, 3) := by decide +kernel
theorem dX4_tenThousands_9 : decode cX4_tenThousands 9 = .ok (.lload_n 1, 1) := by decide +kernel
theorem dX4_tenThousands_10 : decode cX4_tenThousands 10 = .ok (.ldc2_w 207, 3) := by decide +kernel
theorem dX4_tenThousands_13 : decode cX4_tenThousands 13 = .ok (.lmul, 1) := by decide +kernel
theorem dX4_tenThousands_14 : decode cX4_tenThousands 14 = .ok (.lstore_n 1, 1) := by decide +kernel
theorem dX4_tenThousands_15 : decode cX4_tenThousands 15 = .ok (.iinc 3 1, 3) := by decide +kernel
theorem dX4_tenThousands_18 : decode cX4_tenThousands 18 = .ok (.goto (-14), 3) := by decide +kernel
theorem dX4_tenThousands_21 : decode cX4_tenThousands 21 = .ok (.lload_n 1, 1) := by decide +kernel
theorem dX4_tenThousands_22 : decode cX4_tenThousands 22 = .ok (.lreturn, 1) := by decide +kernel
theorem dX4_judge_0 : decode cX4_judge 0 = .ok (.iload_n 1, 1) := by decide +kernel
theorem dX4_judge_1 : decode cX4_judge 1 = .ok (.i2l, 1) := by decide +kernel
theorem dX4_judge_2 : decode cX4_judge 2 = .ok (.lconst 1, 1) := by decide +kernel
theorem dX4_judge_3 : decode cX4_judge 3 = .ok (.ldc2_w 172, 3) := by decide +kernel
theorem dX4_judge_6 : decode cX4_judge 6 = .ok (.invokestatic 50, 3) := by decide +kernel
theorem dX4_judge_9 : decode cX4_judge 9 = .ok (.ifCond .eq 17, 3) := by decide +kernel
theorem dX4_judge_12 : decode cX4_judge 12 = .ok (.lload_n 2, 1) := by decide +kernel
theorem dX4_judge_13 : decode cX4_judge 13 = .ok (.lconst 0, 1) := by decide +kernel
theorem dX4_judge_14 : decode cX4_judge 14 = .ok (.iload_n 1, 1) := by decide +kernel
theorem dX4_judge_15 : decode cX4_judge 15 = .ok (.invokestatic 209, 3) := by decide +kernel
theorem dX4_judge_18 : decode cX4_judge 18 = .ok (.lconst 1, 1) := by decide +kernel
theorem dX4_judge_19 : decode cX4_judge 19 = .ok (.lsub, 1) := by decide +kernel
theorem dX4_judge_20 : decode cX4_judge 20 = .ok (.invokestatic 50, 3) := by decide +kernel
theorem dX4_judge_23 : decode cX4_judge 23 = .ok (.ifCond .ne 6, 3) := by decide +kernel
theorem dX4_judge_26 : decode cX4_judge 26 = .ok (.bipush (-2), 2) := by decide +kernel
theorem dX4_judge_28 : decode cX4_judge 28 = .ok (.ireturn, 1) := by decide +kernel
theorem dX4_judge_29 : decode cX4_judge 29 = .ok (.aload_n 0, 1) := by decide +kernel
theorem dX4_judge_30 : decode cX4_judge 30 = .ok (.getfield 16, 3) := by decide +kernel
theorem dX4_judge_33 : decode cX4_judge 33 = .ok (.aload_n 0, 1) := by decide +kernel
theorem dX4_judge_34 : decode cX4_judge 34 = .ok (.getfield 19, 3) := by decide +kernel
theorem dX4_judge_37 : decode cX4_judge 37 = .ok (.invokestatic 113, 3) := by decide +kernel
theorem dX4_judge_40 : decode cX4_judge 40 = .ok (.iconst 0, 1) := by decide +kernel
theorem dX4_judge_41 : decode cX4_judge 41 = .ok (.istore 4, 2) := by decide +kernel
theorem dX4_judge_43 : decode cX4_judge 43 = .ok (.iload 4, 2) := by decide +kernel
theorem dX4_judge_45 : decode cX4_judge 45 = .ok (.iload_n 1, 1) := by decide +kernel
theorem dX4_judge_46 : decode cX4_judge 46 = .ok (.if_icmp .ge 64, 3) := by decide +kernel
theorem dX4_judge_49 : decode cX4_judge 49 = .ok (.lload_n 2, 1) := by decide +kernel
theorem dX4_judge_50 : decode cX4_judge 50 = .ok (.iload_n 1, 1) := by decide +kernel
theorem dX4_judge_51 : decode cX4_judge 51 = .ok (.iconst 1, 1) := by decide +kernel
theorem dX4_judge_52 : decode cX4_judge 52 = .ok (.isub, 1) := by decide +kernel
theorem dX4_judge_53 : decode cX4_judge 53 = .ok (.iload 4, 2) := by decide +kernel
theorem dX4_judge_55 : decode cX4_judge 55 = .ok (.isub, 1) := by decide +kernel
theorem dX4_judge_56 : decode cX4_judge 56 = .ok (.invokestatic 209, 3) := by decide +kernel
theorem dX4_judge_59 : decode cX4_judge 59 = .ok (.ldiv, 1) := by decide +kernel
theorem dX4_judge_60 : decode cX4_judge 60 = .ok (.ldc2_w 207, 3) := by decide +kernel
theorem dX4_judge_63 : decode cX4_judge 63 = .ok (.lrem, 1) := by decide +kernel
theorem dX4_judge_64 : decode cX4_judge 64 = .ok (.l2i, 1) := by decide +kernel
theorem dX4_judge_65 : decode cX4_judge 65 = .ok (.istore 5, 2) := by decide +kernel
theorem dX4_judge_67 : decode cX4_judge 67 = .ok (.aload_n 0, 1) := by decide +kernel
theorem dX4_judge_68 : decode cX4_judge 68 = .ok (.iload 5, 2) := by decide +kernel
theorem dX4_judge_70 : decode cX4_judge 70 = .ok (.sipush 1000, 3) := by decide +kernel
theorem dX4_judge_73 : decode cX4_judge 73 = .ok (.idiv, 1) := by decide +kernel
theorem dX4_judge_74 : decode cX4_judge 74 = .ok (.iload 5, 2) := by decide +kernel
theorem dX4_judge_76 : decode cX4_judge 76 = .ok (.bipush 100, 2) := by decide +kernel
theorem dX4_judge_78 : decode cX4_judge 78 = .ok (.idiv, 1) := by decide +kernel
theorem dX4_judge_79 : decode cX4_judge 79 = .ok (.bipush 10, 2) := by decide +kernel
theorem dX4_judge_81 : decode cX4_judge 81 = .ok (.irem, 1) := by decide +kernel
theorem dX4_judge_82 : decode cX4_judge 82 = .ok (.iload 5, 2) := by decide +kernel
theorem dX4_judge_84 : decode cX4_judge 84 = .ok (.bipush 10, 2) := by decide +kernel
theorem dX4_judge_86 : decode cX4_judge 86 = .ok (.idiv, 1) := by decide +kernel
theorem dX4_judge_87 : decode cX4_judge 87 = .ok (.bipush 10, 2) := by decide +kernel
theorem dX4_judge_89 : decode cX4_judge 89 = .ok (.irem, 1) := by decide +kernel
theorem dX4_judge_90 : decode cX4_judge 90 = .ok (.iload 5, 2) := by decide +kernel
theorem dX4_judge_92 : decode cX4_judge 92 = .ok (.bipush 10, 2) := by decide +kernel
theorem dX4_judge_94 : decode cX4_judge 94 = .ok (.irem, 1) := by decide +kernel
theorem dX4_judge_95 : decode cX4_judge 95 = .ok (.invokevirtual 213, 3) := by decide +kernel
theorem dX4_judge_98 : decode cX4_judge 98 = .ok (.ifCond .ne 6, 3) := by decide +kernel
theorem dX4_judge_101 : decode cX4_judge 101 = .ok (.iload 4, 2) := by decide +kernel
theorem dX4_judge_103 : decode cX4_judge 103 = .ok (.ireturn, 1) := by decide +kernel
theorem dX4_judge_104 : decode cX4_judge 104 = .ok (.iinc 4 1, 3) := by decide +kernel
theorem dX4_judge_107 : decode cX4_judge 107 = .ok (.goto (-64), 3) := by decide +kernel
theorem dX4_judge_110 : decode cX4_judge 110 = .ok (.bipush (-9), 2) := by decide +kernel
theorem dX4_judge_112 : decode cX4_judge 112 = .ok (.ireturn, 1) := by decide +kernel
theorem dX4_see_0 : decode cX4_see 0 = .ok (.iload_n 1, 1) := by decide +kernel
theorem dX4_see_1 : decode cX4_see 1 = .ok (.iload_n 2, 1) := by decide +kernel
theorem dX4_see_2 : decode cX4_see 2 = .ok (.invokestatic 75, 3) := by decide +kernel
theorem dX4_see_5 : decode cX4_see 5 = .ok (.ifCond .eq 16, 3) := by decide +kernel
theorem dX4_see_8 : decode cX4_see 8 = .ok (.iload 4, 2) := by decide +kernel
theorem dX4_see_10 : decode cX4_see 10 = .ok (.i2l, 1) := by decide +kernel
theorem dX4_see_11 : decode cX4_see 11 = .ok (.lconst 0, 1) := by decide +kernel
theorem dX4_see_12 : decode cX4_see 12 = .ok (.ldc2_w 180, 3) := by decide +kernel
theorem dX4_see_15 : decode cX4_see 15 = .ok (.invokestatic 50, 3) := by decide +kernel
theorem dX4_see_18 : decode cX4_see 18 = .ok (.ifCond .ne 6, 3) := by decide +kernel
theorem dX4_see_21 : decode cX4_see 21 = .ok (.bipush (-2), 2) := by decide +kernel
theorem dX4_see_23 : decode cX4_see 23 = .ok (.ireturn, 1) := by decide +kernel
theorem dX4_see_24 : decode cX4_see 24 = .ok (.iload_n 3, 1) := by decide +kernel
theorem dX4_see_25 : decode cX4_see 25 = .ok (.invokestatic 185, 3) := by decide +kernel
theorem dX4_see_28 : decode cX4_see 28 = .ok (.ifCond .ne 5, 3) := by decide +kernel
theorem dX4_see_31 : decode cX4_see 31 = .ok (.iconst (-1), 1) := by decide +kernel
theorem dX4_see_32 : decode cX4_see 32 = .ok (.ireturn, 1) := by decide +kernel
theorem dX4_see_33 : decode cX4_see 33 = .ok (.aload_n 0, 1) := by decide +kernel
theorem dX4_see_34 : decode cX4_see 34 = .ok (.getfield 162, 3) := by decide +kernel
theorem dX4_see_37 : decode cX4_see 37 = .ok (.bipush 6, 2) := by decide +kernel
theorem dX4_see_39 : decode cX4_see 39 = .ok (.if_icmp .ne 6, 3) := by decide +kernel
theorem dX4_see_42 : decode cX4_see 42 = .ok (.bipush (-4), 2) := by decide +kernel
theorem dX4_see_44 : decode cX4_see 44 = .ok (.ireturn, 1) := by decide +kernel
theorem dX4_see_45 : decode cX4_see 45 = .ok (.aload_n 0, 1) := by decide +kernel
theorem dX4_see_46 : decode cX4_see 46 = .ok (.getfield 32, 3) := by decide +kernel
theorem dX4_see_49 : decode cX4_see 49 = .ok (.iconst 4, 1) := by decide +kernel
theorem dX4_see_50 : decode cX4_see 50 = .ok (.aload_n 0, 1) := by decide +kernel
theorem dX4_see_51 : decode cX4_see 51 = .ok (.getfield 162, 3) := by decide +kernel
theorem dX4_see_54 : decode cX4_see 54 = .ok (.imul, 1) := by decide +kernel
theorem dX4_see_55 : decode cX4_see 55 = .ok (.iload_n 1, 1) := by decide +kernel
theorem dX4_see_56 : decode cX4_see 56 = .ok (.iastore, 1) := by decide +kernel
theorem dX4_see_57 : decode cX4_see 57 = .ok (.aload_n 0, 1) := by decide +kernel
theorem dX4_see_58 : decode cX4_see 58 = .ok (.getfield 32, 3) := by decide +kernel
theorem dX4_see_61 : decode cX4_see 61 = .ok (.iconst 4, 1) := by decide +kernel
theorem dX4_see_62 : decode cX4_see 62 = .ok (.aload_n 0, 1) := by decide +kernel
theorem dX4_see_63 : decode cX4_see 63 = .ok (.getfield 162, 3) := by decide +kernel
theorem dX4_see_66 : decode cX4_see 66 = .ok (.imul, 1) := by decide +kernel
theorem dX4_see_67 : decode cX4_see 67 = .ok (.iconst 1, 1) := by decide +kernel
theorem dX4_see_68 : decode cX4_see 68 = .ok (.iadd, 1) := by decide +kernel
theorem dX4_see_69 : decode cX4_see 69 = .ok (.iload_n 2, 1) := by decide +kernel
theorem dX4_see_70 : decode cX4_see 70 = .ok (.iastore, 1) := by decide +kernel
theorem dX4_see_71 : decode cX4_see 71 = .ok (.aload_n 0, 1) := by decide +kernel
theorem dX4_see_72 : decode cX4_see 72 = .ok (.getfield 32, 3) := by decide +kernel
theorem dX4_see_75 : decode cX4_see 75 = .ok (.iconst 4, 1) := by decide +kernel
theorem dX4_see_76 : decode cX4_see 76 = .ok (.aload_n 0, 1) := by decide +kernel
theorem dX4_see_77 : decode cX4_see 77 = .ok (.getfield 162, 3) := by decide +kernel
theorem dX4_see_80 : decode cX4_see 80 = .ok (.imul, 1) := by decide +kernel
theorem dX4_see_81 : decode cX4_see 81 = .ok (.iconst 2, 1) := by decide +kernel
theorem dX4_see_82 : decode cX4_see 82 = .ok (.iadd, 1) := by decide +kernel
theorem dX4_see_83 : decode cX4_see 83 = .ok (.iload_n 3, 1) := by decide +kernel
theorem dX4_see_84 : decode cX4_see 84 = .ok (.iastore, 1) := by decide +kernel
theorem dX4_see_85 : decode cX4_see 85 = .ok (.aload_n 0, 1) := by decide +kernel
theorem dX4_see_86 : decode cX4_see 86 = .ok (.getfield 32, 3) := by decide +kernel
theorem dX4_see_89 : decode cX4_see 89 = .ok (.iconst 4, 1) := by decide +kernel
theorem dX4_see_90 : decode cX4_see 90 = .ok (.aload_n 0, 1) := by decide +kernel
theorem dX4_see_91 : decode cX4_see 91 = .ok (.getfield 162, 3) := by decide +kernel
theorem dX4_see_94 : decode cX4_see 94 = .ok (.imul, 1) := by decide +kernel
theorem dX4_see_95 : decode cX4_see 95 = .ok (.iconst 3, 1) := by decide +kernel
theorem dX4_see_96 : decode cX4_see 96 = .ok (.iadd, 1) := by decide +kernel
theorem dX4_see_97 : decode cX4_see 97 = .ok (.iload 4, 2) := by decide +kernel
theorem dX4_see_99 : decode cX4_see 99 = .ok (.iastore, 1) := by decide +kernel
theorem dX4_see_100 : decode cX4_see 100 = .ok (.aload_n 0, 1) := by decide +kernel
theorem dX4_see_101 : decode cX4_see 101 = .ok (.dup, 1) := by decide +kernel
theorem dX4_see_102 : decode cX4_see 102 = .ok (.getfield 162, 3) := by decide +kernel
theorem dX4_see_105 : decode cX4_see 105 = .ok (.iconst 1, 1) := by decide +kernel
theorem dX4_see_106 : decode cX4_see 106 = .ok (.iadd, 1) := by decide +kernel
theorem dX4_see_107 : decode cX4_see 107 = .ok (.putfield 162, 3) := by decide +kernel
theorem dX4_see_110 : decode cX4_see 110 = .ok (.aload_n 0, 1) := by decide +kernel
theorem dX4_see_111 : decode cX4_see 111 = .ok (.getfield 162, 3) := by decide +kernel
theorem dX4_see_114 : decode cX4_see 114 = .ok (.ireturn, 1) := by decide +kernel
theorem dX4_unsee_0 : decode cX4_unsee 0 = .ok (.aload_n 0, 1) := by decide +kernel
theorem dX4_unsee_1 : decode cX4_unsee 1 = .ok (.getfield 162, 3) := by decide +kernel
theorem dX4_unsee_4 : decode cX4_unsee 4 = .ok (.istore_n 1, 1) := by decide +kernel
theorem dX4_unsee_5 : decode cX4_unsee 5 = .ok (.aload_n 0, 1) := by decide +kernel
theorem dX4_unsee_6 : decode cX4_unsee 6 = .ok (.iconst 0, 1) := by decide +kernel
theorem dX4_unsee_7 : decode cX4_unsee 7 = .ok (.putfield 162, 3) := by decide +kernel
theorem dX4_unsee_10 : decode cX4_unsee 10 = .ok (.iload_n 1, 1) := by decide +kernel
theorem dX4_unsee_11 : decode cX4_unsee 11 = .ok (.ireturn, 1) := by decide +kernel
theorem dX4_which_0 : decode cX4_which 0 = .ok (.aload_n 0, 1) := by decide +kernel
theorem dX4_which_1 : decode cX4_which 1 = .ok (.iload_n 1, 1) := by decide +kernel
theorem dX4_which_2 : decode cX4_which 2 = .ok (.invokevirtual 169, 3) := by decide +kernel
theorem dX4_which_5 : decode cX4_which 5 = .ok (.ifCond .ne 5, 3) := by decide +kernel
theorem dX4_which_8 : decode cX4_which 8 = .ok (.iconst (-1), 1) := by decide +kernel
theorem dX4_which_9 : decode cX4_which 9 = .ok (.ireturn, 1) := by decide +kernel
theorem dX4_which_10 : decode cX4_which 10 = .ok (.iconst 0, 1) := by decide +kernel
theorem dX4_which_11 : decode cX4_which 11 = .ok (.istore_n 2, 1) := by decide +kernel
theorem dX4_which_12 : decode cX4_which 12 = .ok (.aload_n 0, 1) := by decide +kernel
theorem dX4_which_13 : decode cX4_which 13 = .ok (.getfield 16, 3) := by decide +kernel
theorem dX4_which_16 : decode cX4_which 16 = .ok (.iconst 1, 1) := by decide +kernel
theorem dX4_which_17 : decode cX4_which 17 = .ok (.iconst 5, 1) := by decide +kernel
theorem dX4_which_18 : decode cX4_which 18 = .ok (.iload_n 1, 1) := by decide +kernel
theorem dX4_which_19 : decode cX4_which 19 = .ok (.imul, 1) := by decide +kernel
theorem dX4_which_20 : decode cX4_which 20 = .ok (.iadd, 1) := by decide +kernel
theorem dX4_which_21 : decode cX4_which 21 = .ok (.iconst 3, 1) := by decide +kernel
theorem dX4_which_22 : decode cX4_which 22 = .ok (.iadd, 1) := by decide +kernel
theorem dX4_which_23 : decode cX4_which 23 = .ok (.iaload, 1) := by decide +kernel
theorem dX4_which_24 : decode cX4_which 24 = .ok (.istore_n 3, 1) := by decide +kernel
theorem dX4_which_25 : decode cX4_which 25 = .ok (.iload_n 3, 1) := by decide +kernel
theorem dX4_which_26 : decode cX4_which 26 = .ok (.bipush 6, 2) := by decide +kernel
theorem dX4_which_28 : decode cX4_which 28 = .ok (.if_icmp .ge 134, 3) := by decide +kernel
theorem dX4_which_31 : decode cX4_which 31 = .ok (.aload_n 0, 1) := by decide +kernel
theorem dX4_which_32 : decode cX4_which 32 = .ok (.getfield 16, 3) := by decide +kernel
theorem dX4_which_35 : decode cX4_which 35 = .ok (.aload_n 0, 1) := by decide +kernel
theorem dX4_which_36 : decode cX4_which 36 = .ok (.getfield 19, 3) := by decide +kernel
theorem dX4_which_39 : decode cX4_which 39 = .ok (.invokestatic 113, 3) := by decide +kernel
theorem dX4_which_42 : decode cX4_which 42 = .ok (.aload_n 0, 1) := by decide +kernel
theorem dX4_which_43 : decode cX4_which 43 = .ok (.getfield 19, 3) := by decide +kernel
theorem dX4_which_46 : decode cX4_which 46 = .ok (.iconst 1, 1) := by decide +kernel
theorem dX4_which_47 : decode cX4_which 47 = .ok (.iconst 5, 1) := by decide +kernel
theorem dX4_which_48 : decode cX4_which 48 = .ok (.iload_n 1, 1) := by decide +kernel
theorem dX4_which_49 : decode cX4_which 49 = .ok (.imul, 1) := by decide +kernel
theorem dX4_which_50 : decode cX4_which 50 = .ok (.iadd, 1) := by decide +kernel
theorem dX4_which_51 : decode cX4_which 51 = .ok (.iconst 4, 1) := by decide +kernel
theorem dX4_which_52 : decode cX4_which 52 = .ok (.iadd, 1) := by decide +kernel
theorem dX4_which_53 : decode cX4_which 53 = .ok (.iload_n 3, 1) := by decide +kernel
theorem dX4_which_54 : decode cX4_which 54 = .ok (.iastore, 1) := by decide +kernel
theorem dX4_which_55 : decode cX4_which 55 = .ok (.iconst 1, 1) := by decide +kernel
theorem dX4_which_56 : decode cX4_which 56 = .ok (.istore 4, 2) := by decide +kernel
theorem dX4_which_58 : decode cX4_which 58 = .ok (.iconst 0, 1) := by decide +kernel
theorem dX4_which_59 : decode cX4_which 59 = .ok (.istore 5, 2) := by decide +kernel
theorem dX4_which_61 : decode cX4_which 61 = .ok (.iload 5, 2) := by decide +kernel
theorem dX4_which_63 : decode cX4_which 63 = .ok (.aload_n 0, 1) := by decide +kernel
theorem dX4_which_64 : decode cX4_which 64 = .ok (.getfield 162, 3) := by decide +kernel
theorem dX4_which_67 : decode cX4_which 67 = .ok (.if_icmp .ge 74, 3) := by decide +kernel
theorem dX4_which_70 : decode cX4_which 70 = .ok (.iload 4, 2) := by decide +kernel
theorem dX4_which_72 : decode cX4_which 72 = .ok (.ifCond .eq 60, 3) := by decide +kernel
theorem dX4_which_75 : decode cX4_which 75 = .ok (.aload_n 0, 1) := by decide +kernel
theorem dX4_which_76 : decode cX4_which 76 = .ok (.aload_n 0, 1) := by decide +kernel
theorem dX4_which_77 : decode cX4_which 77 = .ok (.getfield 19, 3) := by decide +kernel
theorem dX4_which_80 : decode cX4_which 80 = .ok (.aload_n 0, 1) := by decide +kernel
theorem dX4_which_81 : decode cX4_which 81 = .ok (.getfield 32, 3) := by decide +kernel
theorem dX4_which_84 : decode cX4_which 84 = .ok (.iconst 4, 1) := by decide +kernel
theorem dX4_which_85 : decode cX4_which 85 = .ok (.iload 5, 2) := by decide +kernel
theorem dX4_which_87 : decode cX4_which 87 = .ok (.imul, 1) := by decide +kernel
theorem dX4_which_88 : decode cX4_which 88 = .ok (.iaload, 1) := by decide +kernel
theorem dX4_which_89 : decode cX4_which 89 = .ok (.aload_n 0, 1) := by decide +kernel
theorem dX4_which_90 : decode cX4_which 90 = .ok (.getfield 32, 3) := by decide +kernel
theorem dX4_which_93 : decode cX4_which 93 = .ok (.iconst 4, 1) := by decide +kernel
theorem dX4_which_94 : decode cX4_which 94 = .ok (.iload 5, 2) := by decide +kernel
theorem dX4_which_96 : decode cX4_which 96 = .ok (.imul, 1) := by decide +kernel
theorem dX4_which_97 : decode cX4_which 97 = .ok (.iconst 1, 1) := by decide +kernel
theorem dX4_which_98 : decode cX4_which 98 = .ok (.iadd, 1) := by decide +kernel
theorem dX4_which_99 : decode cX4_which 99 = .ok (.iaload, 1) := by decide +kernel
theorem dX4_which_100 : decode cX4_which 100 = .ok (.aload_n 0, 1) := by decide +kernel
theorem dX4_which_101 : decode cX4_which 101 = .ok (.getfield 32, 3) := by decide +kernel
theorem dX4_which_104 : decode cX4_which 104 = .ok (.iconst 4, 1) := by decide +kernel
theorem dX4_which_105 : decode cX4_which 105 = .ok (.iload 5, 2) := by decide +kernel
theorem dX4_which_107 : decode cX4_which 107 = .ok (.imul, 1) := by decide +kernel
theorem dX4_which_108 : decode cX4_which 108 = .ok (.iconst 2, 1) := by decide +kernel
theorem dX4_which_109 : decode cX4_which 109 = .ok (.iadd, 1) := by decide +kernel
theorem dX4_which_110 : decode cX4_which 110 = .ok (.iaload, 1) := by decide +kernel
theorem dX4_which_111 : decode cX4_which 111 = .ok (.invokevirtual 138, 3) := by decide +kernel
theorem dX4_which_114 : decode cX4_which 114 = .ok (.aload_n 0, 1) := by decide +kernel
theorem dX4_which_115 : decode cX4_which 115 = .ok (.getfield 32, 3) := by decide +kernel
theorem dX4_which_118 : decode cX4_which 118 = .ok (.iconst 4, 1) := by decide +kernel
theorem dX4_which_119 : decode cX4_which 119 = .ok (.iload 5, 2) := by decide +kernel
theorem dX4_which_121 : decode cX4_which 121 = .ok (.imul, 1) := by decide +kernel
theorem dX4_which_122 : decode cX4_which 122 = .ok (.iconst 3, 1) := by decide +kernel
theorem dX4_which_123 : decode cX4_which 123 = .ok (.iadd, 1) := by decide +kernel
theorem dX4_which_124 : decode cX4_which 124 = .ok (.iaload, 1) := by decide +kernel
theorem dX4_which_125 : decode cX4_which 125 = .ok (.if_icmp .ne 7, 3) := by decide +kernel
theorem dX4_which_128 : decode cX4_which 128 = .ok (.iconst 1, 1) := by decide +kernel
theorem dX4_which_129 : decode cX4_which 129 = .ok (.goto 4, 3) := by decide +kernel
theorem dX4_which_132 : decode cX4_which 132 = .ok (.iconst 0, 1) := by decide +kernel
theorem dX4_which_133 : decode cX4_which 133 = .ok (.istore 4, 2) := by decide +kernel
theorem dX4_which_135 : decode cX4_which 135 = .ok (.iinc 5 1, 3) := by decide +kernel
theorem dX4_which_138 : decode cX4_which 138 = .ok (.goto (-77), 3) := by decide +kernel
theorem dX4_which_141 : decode cX4_which 141 = .ok (.iload_n 2, 1) := by decide +kernel
theorem dX4_which_142 : decode cX4_which 142 = .ok (.iload 4, 2) := by decide +kernel
theorem dX4_which_144 : decode cX4_which 144 = .ok (.ifCond .eq 9, 3) := by decide +kernel
theorem dX4_which_147 : decode cX4_which 147 = .ok (.iconst 1, 1) := by decide +kernel
theorem dX4_which_148 : decode cX4_which 148 = .ok (.iload_n 3, 1) := by decide +kernel
theorem dX4_which_149 : decode cX4_which 149 = .ok (.ishl, 1) := by decide +kernel
theorem dX4_which_150 : decode cX4_which 150 = .ok (.goto 4, 3) := by decide +kernel
theorem dX4_which_153 : decode cX4_which 153 = .ok (.iconst 0, 1) := by decide +kernel
theorem dX4_which_154 : decode cX4_which 154 = .ok (.ior, 1) := by decide +kernel
theorem dX4_which_155 : decode cX4_which 155 = .ok (.istore_n 2, 1) := by decide +kernel
theorem dX4_which_156 : decode cX4_which 156 = .ok (.iinc 3 1, 3) := by decide +kernel
theorem dX4_which_159 : decode cX4_which 159 = .ok (.goto (-134), 3) := by decide +kernel
theorem dX4_which_162 : decode cX4_which 162 = .ok (.iload_n 2, 1) := by decide +kernel
theorem dX4_which_163 : decode cX4_which 163 = .ok (.ireturn, 1) := by decide +kernel
theorem dX4_rightBy_0 : decode cX4_rightBy 0 = .ok (.iconst 0, 1) := by decide +kernel
theorem dX4_rightBy_1 : decode cX4_rightBy 1 = .ok (.istore_n 2, 1) := by decide +kernel
theorem dX4_rightBy_2 : decode cX4_rightBy 2 = .ok (.iconst 0, 1) := by decide +kernel
theorem dX4_rightBy_3 : decode cX4_rightBy 3 = .ok (.istore_n 3, 1) := by decide +kernel
theorem dX4_rightBy_4 : decode cX4_rightBy 4 = .ok (.iload_n 3, 1) := by decide +kernel
theorem dX4_rightBy_5 : decode cX4_rightBy 5 = .ok (.aload_n 0, 1) := by decide +kernel
theorem dX4_rightBy_6 : decode cX4_rightBy 6 = .ok (.getfield 16, 3) := by decide +kernel
theorem dX4_rightBy_9 : decode cX4_rightBy 9 = .ok (.bipush 41, 2) := by decide +kernel
theorem dX4_rightBy_11 : decode cX4_rightBy 11 = .ok (.iaload, 1) := by decide +kernel
theorem dX4_rightBy_12 : decode cX4_rightBy 12 = .ok (.if_icmp .ge 63, 3) := by decide +kernel
theorem dX4_rightBy_15 : decode cX4_rightBy 15 = .ok (.bipush 42, 2) := by decide +kernel
theorem dX4_rightBy_17 : decode cX4_rightBy 17 = .ok (.iconst 3, 1) := by decide +kernel
theorem dX4_rightBy_18 : decode cX4_rightBy 18 = .ok (.iload_n 3, 1) := by decide +kernel
theorem dX4_rightBy_19 : decode cX4_rightBy 19 = .ok (.imul, 1) := by decide +kernel
theorem dX4_rightBy_20 : decode cX4_rightBy 20 = .ok (.iadd, 1) := by decide +kernel
theorem dX4_rightBy_21 : decode cX4_rightBy 21 = .ok (.istore 4, 2) := by decide +kernel
theorem dX4_rightBy_23 : decode cX4_rightBy 23 = .ok (.iload_n 2, 1) := by decide +kernel
theorem dX4_rightBy_24 : decode cX4_rightBy 24 = .ok (.aload_n 0, 1) := by decide +kernel
theorem dX4_rightBy_25 : decode cX4_rightBy 25 = .ok (.aload_n 0, 1) := by decide +kernel
theorem dX4_rightBy_26 : decode cX4_rightBy 26 = .ok (.getfield 16, 3) := by decide +kernel
theorem dX4_rightBy_29 : decode cX4_rightBy 29 = .ok (.aload_n 0, 1) := by decide +kernel
theorem dX4_rightBy_30 : decode cX4_rightBy 30 = .ok (.getfield 16, 3) := by decide +kernel
theorem dX4_rightBy_33 : decode cX4_rightBy 33 = .ok (.iload 4, 2) := by decide +kernel
theorem dX4_rightBy_35 : decode cX4_rightBy 35 = .ok (.iaload, 1) := by decide +kernel
theorem dX4_rightBy_36 : decode cX4_rightBy 36 = .ok (.aload_n 0, 1) := by decide +kernel
theorem dX4_rightBy_37 : decode cX4_rightBy 37 = .ok (.getfield 16, 3) := by decide +kernel
theorem dX4_rightBy_40 : decode cX4_rightBy 40 = .ok (.iload 4, 2) := by decide +kernel
theorem dX4_rightBy_42 : decode cX4_rightBy 42 = .ok (.iconst 1, 1) := by decide +kernel
theorem dX4_rightBy_43 : decode cX4_rightBy 43 = .ok (.iadd, 1) := by decide +kernel
theorem dX4_rightBy_44 : decode cX4_rightBy 44 = .ok (.iaload, 1) := by decide +kernel
theorem dX4_rightBy_45 : decode cX4_rightBy 45 = .ok (.aload_n 0, 1) := by decide +kernel
theorem dX4_rightBy_46 : decode cX4_rightBy 46 = .ok (.getfield 16, 3) := by decide +kernel
theorem dX4_rightBy_49 : decode cX4_rightBy 49 = .ok (.iload 4, 2) := by decide +kernel
theorem dX4_rightBy_51 : decode cX4_rightBy 51 = .ok (.iconst 2, 1) := by decide +kernel
theorem dX4_rightBy_52 : decode cX4_rightBy 52 = .ok (.iadd, 1) := by decide +kernel
theorem dX4_rightBy_53 : decode cX4_rightBy 53 = .ok (.iaload, 1) := by decide +kernel
theorem dX4_rightBy_54 : decode cX4_rightBy 54 = .ok (.iload_n 1, 1) := by decide +kernel
theorem dX4_rightBy_55 : decode cX4_rightBy 55 = .ok (.invokevirtual 134, 3) := by decide +kernel
theorem dX4_rightBy_58 : decode cX4_rightBy 58 = .ok (.iconst 2, 1) := by decide +kernel
theorem dX4_rightBy_59 : decode cX4_rightBy 59 = .ok (.if_icmp .ne 7, 3) := by decide +kernel
theorem dX4_rightBy_62 : decode cX4_rightBy 62 = .ok (.iconst 1, 1) := by decide +kernel
theorem dX4_rightBy_63 : decode cX4_rightBy 63 = .ok (.goto 4, 3) := by decide +kernel
theorem dX4_rightBy_66 : decode cX4_rightBy 66 = .ok (.iconst 0, 1) := by decide +kernel
theorem dX4_rightBy_67 : decode cX4_rightBy 67 = .ok (.iadd, 1) := by decide +kernel
theorem dX4_rightBy_68 : decode cX4_rightBy 68 = .ok (.istore_n 2, 1) := by decide +kernel
theorem dX4_rightBy_69 : decode cX4_rightBy 69 = .ok (.iinc 3 1, 3) := by decide +kernel
theorem dX4_rightBy_72 : decode cX4_rightBy 72 = .ok (.goto (-68), 3) := by decide +kernel
theorem dX4_rightBy_75 : decode cX4_rightBy 75 = .ok (.iload_n 2, 1) := by decide +kernel
theorem dX4_rightBy_76 : decode cX4_rightBy 76 = .ok (.ireturn, 1) := by decide +kernel
theorem dX4_share_0 : decode cX4_share 0 = .ok (.aload_n 0, 1) := by decide +kernel
theorem dX4_share_1 : decode cX4_share 1 = .ok (.iload_n 1, 1) := by decide +kernel
theorem dX4_share_2 : decode cX4_share 2 = .ok (.invokevirtual 169, 3) := by decide +kernel
theorem dX4_share_5 : decode cX4_share 5 = .ok (.ifCond .ne 5, 3) := by decide +kernel
theorem dX4_share_8 : decode cX4_share 8 = .ok (.iconst (-1), 1) := by decide +kernel
theorem dX4_share_9 : decode cX4_share 9 = .ok (.ireturn, 1) := by decide +kernel
theorem dX4_share_10 : decode cX4_share 10 = .ok (.aload_n 0, 1) := by decide +kernel
theorem dX4_share_11 : decode cX4_share 11 = .ok (.getfield 16, 3) := by decide +kernel
theorem dX4_share_14 : decode cX4_share 14 = .ok (.iconst 0, 1) := by decide +kernel
theorem dX4_share_15 : decode cX4_share 15 = .ok (.iaload, 1) := by decide +kernel
theorem dX4_share_16 : decode cX4_share 16 = .ok (.istore_n 3, 1) := by decide +kernel
theorem dX4_share_17 : decode cX4_share 17 = .ok (.iconst 0, 1) := by decide +kernel
theorem dX4_share_18 : decode cX4_share 18 = .ok (.istore 4, 2) := by decide +kernel
theorem dX4_share_20 : decode cX4_share 20 = .ok (.iload 4, 2) := by decide +kernel
theorem dX4_share_22 : decode cX4_share 22 = .ok (.iconst 1, 1) := by decide +kernel
theorem dX4_share_23 : decode cX4_share 23 = .ok (.iload_n 3, 1) := by decide +kernel
theorem dX4_share_24 : decode cX4_share 24 = .ok (.ishl, 1) := by decide +kernel
theorem dX4_share_25 : decode cX4_share 25 = .ok (.if_icmp .ge 22, 3) := by decide +kernel
theorem dX4_share_28 : decode cX4_share 28 = .ok (.aload_n 0, 1) := by decide +kernel
theorem dX4_share_29 : decode cX4_share 29 = .ok (.getfield 35, 3) := by decide +kernel
theorem dX4_share_32 : decode cX4_share 32 = .ok (.iload 4, 2) := by decide +kernel
theorem dX4_share_34 : decode cX4_share 34 = .ok (.aload_n 0, 1) := by decide +kernel
theorem dX4_share_35 : decode cX4_share 35 = .ok (.iload 4, 2) := by decide +kernel
theorem dX4_share_37 : decode cX4_share 37 = .ok (.invokevirtual 216, 3) := by decide +kernel
theorem dX4_share_40 : decode cX4_share 40 = .ok (.iastore, 1) := by decide +kernel
theorem dX4_share_41 : decode cX4_share 41 = .ok (.iinc 4 1, 3) := by decide +kernel
theorem dX4_share_44 : decode cX4_share 44 = .ok (.goto (-24), 3) := by decide +kernel
theorem dX4_share_47 : decode cX4_share 47 = .ok (.iconst 0, 1) := by decide +kernel
theorem dX4_share_48 : decode cX4_share 48 = .ok (.istore 4, 2) := by decide +kernel
theorem dX4_share_50 : decode cX4_share 50 = .ok (.iconst 0, 1) := by decide +kernel
theorem dX4_share_51 : decode cX4_share 51 = .ok (.istore 5, 2) := by decide +kernel
theorem dX4_share_53 : decode cX4_share 53 = .ok (.iload 5, 2) := by decide +kernel
theorem dX4_share_55 : decode cX4_share 55 = .ok (.iconst 1, 1) := by decide +kernel
theorem dX4_share_56 : decode cX4_share 56 = .ok (.iload_n 3, 1) := by decide +kernel
theorem dX4_share_57 : decode cX4_share 57 = .ok (.ishl, 1) := by decide +kernel
theorem dX4_share_58 : decode cX4_share 58 = .ok (.if_icmp .ge 65, 3) := by decide +kernel
theorem dX4_share_61 : decode cX4_share 61 = .ok (.iload 5, 2) := by decide +kernel
theorem dX4_share_63 : decode cX4_share 63 = .ok (.iload_n 1, 1) := by decide +kernel
theorem dX4_share_64 : decode cX4_share 64 = .ok (.invokestatic 120, 3) := by decide +kernel
theorem dX4_share_67 : decode cX4_share 67 = .ok (.ifCond .ne 50, 3) := by decide +kernel
theorem dX4_share_70 : decode cX4_share 70 = .ok (.iload 5, 2) := by decide +kernel
theorem dX4_share_72 : decode cX4_share 72 = .ok (.invokestatic 219, 3) := by decide +kernel
theorem dX4_share_75 : decode cX4_share 75 = .ok (.istore 6, 2) := by decide +kernel
theorem dX4_share_77 : decode cX4_share 77 = .ok (.iload 4, 2) := by decide +kernel
theorem dX4_share_79 : decode cX4_share 79 = .ok (.iload 6, 2) := by decide +kernel
theorem dX4_share_81 : decode cX4_share 81 = .ok (.invokestatic 222, 3) := by decide +kernel
theorem dX4_share_84 : decode cX4_share 84 = .ok (.iload_n 3, 1) := by decide +kernel
theorem dX4_share_85 : decode cX4_share 85 = .ok (.iconst 1, 1) := by decide +kernel
theorem dX4_share_86 : decode cX4_share 86 = .ok (.isub, 1) := by decide +kernel
theorem dX4_share_87 : decode cX4_share 87 = .ok (.iload 6, 2) := by decide +kernel
theorem dX4_share_89 : decode cX4_share 89 = .ok (.isub, 1) := by decide +kernel
theorem dX4_share_90 : decode cX4_share 90 = .ok (.invokestatic 222, 3) := by decide +kernel
theorem dX4_share_93 : decode cX4_share 93 = .ok (.imul, 1) := by decide +kernel
theorem dX4_share_94 : decode cX4_share 94 = .ok (.aload_n 0, 1) := by decide +kernel
theorem dX4_share_95 : decode cX4_share 95 = .ok (.getfield 35, 3) := by decide +kernel
theorem dX4_share_98 : decode cX4_share 98 = .ok (.iload 5, 2) := by decide +kernel
theorem dX4_share_100 : decode cX4_share 100 = .ok (.iconst 1, 1) := by decide +kernel
theorem dX4_share_101 : decode cX4_share 101 = .ok (.iload_n 1, 1) := by decide +kernel
theorem dX4_share_102 : decode cX4_share 102 = .ok (.ishl, 1) := by decide +kernel
theorem dX4_share_103 : decode cX4_share 103 = .ok (.ior, 1) := by decide +kernel
theorem dX4_share_104 : decode cX4_share 104 = .ok (.iaload, 1) := by decide +kernel
theorem dX4_share_105 : decode cX4_share 105 = .ok (.aload_n 0, 1) := by decide +kernel
theorem dX4_share_106 : decode cX4_share 106 = .ok (.getfield 35, 3) := by decide +kernel
theorem dX4_share_109 : decode cX4_share 109 = .ok (.iload 5, 2) := by decide +kernel
theorem dX4_share_111 : decode cX4_share 111 = .ok (.iaload, 1) := by decide +kernel
theorem dX4_share_112 : decode cX4_share 112 = .ok (.isub, 1) := by decide +kernel
theorem dX4_share_113 : decode cX4_share 113 = .ok (.imul, 1) := by decide +kernel
theorem dX4_share_114 : decode cX4_share 114 = .ok (.iadd, 1) := by decide +kernel
theorem dX4_share_115 : decode cX4_share 115 = .ok (.istore 4, 2) := by decide +kernel
theorem dX4_share_117 : decode cX4_share 117 = .ok (.iinc 5 1, 3) := by decide +kernel
theorem dX4_share_120 : decode cX4_share 120 = .ok (.goto (-67), 3) := by decide +kernel
theorem dX4_share_123 : decode cX4_share 123 = .ok (.iload 4, 2) := by decide +kernel
theorem dX4_share_125 : decode cX4_share 125 = .ok (.iload_n 3, 1) := by decide +kernel
theorem dX4_share_126 : decode cX4_share 126 = .ok (.invokestatic 222, 3) := by decide +kernel
theorem dX4_share_129 : decode cX4_share 129 = .ok (.iload_n 2, 1) := by decide +kernel
theorem dX4_share_130 : decode cX4_share 130 = .ok (.invokestatic 225, 3) := by decide +kernel
theorem dX4_share_133 : decode cX4_share 133 = .ok (.ireturn, 1) := by decide +kernel
theorem dX4_chance_0 : decode cX4_chance 0 = .ok (.iload_n 1, 1) := by decide +kernel
theorem dX4_chance_1 : decode cX4_chance 1 = .ok (.i2l, 1) := by decide +kernel
theorem dX4_chance_2 : decode cX4_chance 2 = .ok (.lconst 0, 1) := by decide +kernel
theorem dX4_chance_3 : decode cX4_chance 3 = .ok (.ldc2_w 229, 3) := by decide +kernel
theorem dX4_chance_6 : decode cX4_chance 6 = .ok (.invokestatic 50, 3) := by decide +kernel
theorem dX4_chance_9 : decode cX4_chance 9 = .ok (.ifCond .eq 15, 3) := by decide +kernel
theorem dX4_chance_12 : decode cX4_chance 12 = .ok (.iload_n 2, 1) := by decide +kernel
theorem dX4_chance_13 : decode cX4_chance 13 = .ok (.i2l, 1) := by decide +kernel
theorem dX4_chance_14 : decode cX4_chance 14 = .ok (.lconst 0, 1) := by decide +kernel
theorem dX4_chance_15 : decode cX4_chance 15 = .ok (.ldc2_w 231, 3) := by decide +kernel
theorem dX4_chance_18 : decode cX4_chance 18 = .ok (.invokestatic 50, 3) := by decide +kernel
theorem dX4_chance_21 : decode cX4_chance 21 = .ok (.ifCond .ne 6, 3) := by decide +kernel
theorem dX4_chance_24 : decode cX4_chance 24 = .ok (.bipush (-2), 2) := by decide +kernel
theorem dX4_chance_26 : decode cX4_chance 26 = .ok (.ireturn, 1) := by decide +kernel
theorem dX4_chance_27 : decode cX4_chance 27 = .ok (.aload_n 0, 1) := by decide +kernel
theorem dX4_chance_28 : decode cX4_chance 28 = .ok (.getfield 44, 3) := by decide +kernel
theorem dX4_chance_31 : decode cX4_chance 31 = .ok (.iconst 1, 1) := by decide +kernel
theorem dX4_chance_32 : decode cX4_chance 32 = .ok (.isub, 1) := by decide +kernel
theorem dX4_chance_33 : decode cX4_chance 33 = .ok (.istore 4, 2) := by decide +kernel
theorem dX4_chance_35 : decode cX4_chance 35 = .ok (.iconst 0, 1) := by decide +kernel
theorem dX4_chance_36 : decode cX4_chance 36 = .ok (.istore 5, 2) := by decide +kernel
theorem dX4_chance_38 : decode cX4_chance 38 = .ok (.iconst 0, 1) := by decide +kernel
theorem dX4_chance_39 : decode cX4_chance 39 = .ok (.istore 6, 2) := by decide +kernel
theorem dX4_chance_41 : decode cX4_chance 41 = .ok (.iload 6, 2) := by decide +kernel
theorem dX4_chance_43 : decode cX4_chance 43 = .ok (.iconst 1, 1) := by decide +kernel
theorem dX4_chance_44 : decode cX4_chance 44 = .ok (.iload 4, 2) := by decide +kernel
theorem dX4_chance_46 : decode cX4_chance 46 = .ok (.ishl, 1) := by decide +kernel
theorem dX4_chance_47 : decode cX4_chance 47 = .ok (.if_icmp .ge 82, 3) := by decide +kernel
theorem dX4_chance_50 : decode cX4_chance 50 = .ok (.aload_n 0, 1) := by decide +kernel
theorem dX4_chance_51 : decode cX4_chance 51 = .ok (.getfield 16, 3) := by decide +kernel
theorem dX4_chance_54 : decode cX4_chance 54 = .ok (.aload_n 0, 1) := by decide +kernel
theorem dX4_chance_55 : decode cX4_chance 55 = .ok (.getfield 19, 3) := by decide +kernel
theorem dX4_chance_58 : decode cX4_chance 58 = .ok (.invokestatic 113, 3) := by decide +kernel
theorem dX4_chance_61 : decode cX4_chance 61 = .ok (.aload_n 0, 1) := by decide +kernel
theorem dX4_chance_62 : decode cX4_chance 62 = .ok (.getfield 19, 3) := by decide +kernel
theorem dX4_chance_65 : decode cX4_chance 65 = .ok (.bipush 63, 2) := by decide +kernel
theorem dX4_chance_67 : decode cX4_chance 67 = .ok (.iconst 2, 1) := by decide +kernel
theorem dX4_chance_68 : decode cX4_chance 68 = .ok (.iload 6, 2) := by decide +kernel
theorem dX4_chance_70 : decode cX4_chance 70 = .ok (.imul, 1) := by decide +kernel
theorem dX4_chance_71 : decode cX4_chance 71 = .ok (.iastore, 1) := by decide +kernel
theorem dX4_chance_72 : decode cX4_chance 72 = .ok (.iload 6, 2) := by decide +kernel
theorem dX4_chance_74 : decode cX4_chance 74 = .ok (.invokestatic 219, 3) := by decide +kernel
theorem dX4_chance_77 : decode cX4_chance 77 = .ok (.istore 7, 2) := by decide +kernel
theorem dX4_chance_79 : decode cX4_chance 79 = .ok (.iload 5, 2) := by decide +kernel
theorem dX4_chance_81 : decode cX4_chance 81 = .ok (.aload_n 0, 1) := by decide +kernel
theorem dX4_chance_82 : decode cX4_chance 82 = .ok (.aload_n 0, 1) := by decide +kernel
theorem dX4_chance_83 : decode cX4_chance 83 = .ok (.getfield 19, 3) := by decide +kernel
theorem dX4_chance_86 : decode cX4_chance 86 = .ok (.iconst 2, 1) := by decide +kernel
theorem dX4_chance_87 : decode cX4_chance 87 = .ok (.invokevirtual 156, 3) := by decide +kernel
theorem dX4_chance_90 : decode cX4_chance 90 = .ok (.invokestatic 219, 3) := by decide +kernel
theorem dX4_chance_93 : decode cX4_chance 93 = .ok (.iload_n 1, 1) := by decide +kernel
theorem dX4_chance_94 : decode cX4_chance 94 = .ok (.if_icmp .lt 25, 3) := by decide +kernel
theorem dX4_chance_97 : decode cX4_chance 97 = .ok (.iload_n 2, 1) := by decide +kernel
theorem dX4_chance_98 : decode cX4_chance 98 = .ok (.iload 7, 2) := by decide +kernel
theorem dX4_chance_100 : decode cX4_chance 100 = .ok (.invokestatic 233, 3) := by decide +kernel
theorem dX4_chance_103 : decode cX4_chance 103 = .ok (.bipush 10, 2) := by decide +kernel
theorem dX4_chance_105 : decode cX4_chance 105 = .ok (.iload_n 2, 1) := by decide +kernel
theorem dX4_chance_106 : decode cX4_chance 106 = .ok (.isub, 1) := by decide +kernel
theorem dX4_chance_107 : decode cX4_chance 107 = .ok (.iload 4, 2) := by decide +kernel
theorem dX4_chance_109 : decode cX4_chance 109 = .ok (.iload 7, 2) := by decide +kernel
theorem dX4_chance_111 : decode cX4_chance 111 = .ok (.isub, 1) := by decide +kernel
theorem dX4_chance_112 : decode cX4_chance 112 = .ok (.invokestatic 233, 3) := by decide +kernel
theorem dX4_chance_115 : decode cX4_chance 115 = .ok (.imul, 1) := by decide +kernel
theorem dX4_chance_116 : decode cX4_chance 116 = .ok (.goto 4, 3) := by decide +kernel
theorem dX4_chance_119 : decode cX4_chance 119 = .ok (.iconst 0, 1) := by decide +kernel
theorem dX4_chance_120 : decode cX4_chance 120 = .ok (.iadd, 1) := by decide +kernel
theorem dX4_chance_121 : decode cX4_chance 121 = .ok (.istore 5, 2) := by decide +kernel
theorem dX4_chance_123 : decode cX4_chance 123 = .ok (.iinc 6 1, 3) := by decide +kernel
theorem dX4_chance_126 : decode cX4_chance 126 = .ok (.goto (-85), 3) := by decide +kernel
theorem dX4_chance_129 : decode cX4_chance 129 = .ok (.iload 5, 2) := by decide +kernel
theorem dX4_chance_131 : decode cX4_chance 131 = .ok (.bipush 10, 2) := by decide +kernel
theorem dX4_chance_133 : decode cX4_chance 133 = .ok (.iload 4, 2) := by decide +kernel
theorem dX4_chance_135 : decode cX4_chance 135 = .ok (.invokestatic 233, 3) := by decide +kernel
theorem dX4_chance_138 : decode cX4_chance 138 = .ok (.iload_n 3, 1) := by decide +kernel
theorem dX4_chance_139 : decode cX4_chance 139 = .ok (.invokestatic 225, 3) := by decide +kernel
theorem dX4_chance_142 : decode cX4_chance 142 = .ok (.ireturn, 1) := by decide +kernel
theorem dX4_seed_0 : decode cX4_seed 0 = .ok (.aload_n 0, 1) := by decide +kernel
theorem dX4_seed_1 : decode cX4_seed 1 = .ok (.getfield 236, 3) := by decide +kernel
theorem dX4_seed_4 : decode cX4_seed 4 = .ok (.lstore_n 3, 1) := by decide +kernel
theorem dX4_seed_5 : decode cX4_seed 5 = .ok (.aload_n 0, 1) := by decide +kernel
theorem dX4_seed_6 : decode cX4_seed 6 = .ok (.lload_n 1, 1) := by decide +kernel
theorem dX4_seed_7 : decode cX4_seed 7 = .ok (.putfield 236, 3) := by decide +kernel
theorem dX4_seed_10 : decode cX4_seed 10 = .ok (.lload_n 3, 1) := by decide +kernel
theorem dX4_seed_11 : decode cX4_seed 11 = .ok (.lreturn, 1) := by decide +kernel
theorem dX4_drawn_0 : decode cX4_drawn 0 = .ok (.iload_n 1, 1) := by decide +kernel
theorem dX4_drawn_1 : decode cX4_drawn 1 = .ok (.i2l, 1) := by decide +kernel
theorem dX4_drawn_2 : decode cX4_drawn 2 = .ok (.lconst 1, 1) := by decide +kernel
theorem dX4_drawn_3 : decode cX4_drawn 3 = .ok (.ldc2_w 240, 3) := by decide +kernel
theorem dX4_drawn_6 : decode cX4_drawn 6 = .ok (.invokestatic 50, 3) := by decide +kernel
theorem dX4_drawn_9 : decode cX4_drawn 9 = .ok (.ifCond .ne 6, 3) := by decide +kernel
theorem dX4_drawn_12 : decode cX4_drawn 12 = .ok (.bipush (-2), 2) := by decide +kernel
theorem dX4_drawn_14 : decode cX4_drawn 14 = .ok (.ireturn, 1) := by decide +kernel
theorem dX4_drawn_15 : decode cX4_drawn 15 = .ok (.iconst 0, 1) := by decide +kernel
theorem dX4_drawn_16 : decode cX4_drawn 16 = .ok (.istore_n 2, 1) := by decide +kernel
theorem dX4_drawn_17 : decode cX4_drawn 17 = .ok (.iconst 0, 1) := by decide +kernel
theorem dX4_drawn_18 : decode cX4_drawn 18 = .ok (.istore_n 3, 1) := by decide +kernel
theorem dX4_drawn_19 : decode cX4_drawn 19 = .ok (.iload_n 3, 1) := by decide +kernel
theorem dX4_drawn_20 : decode cX4_drawn 20 = .ok (.iload_n 1, 1) := by decide +kernel
theorem dX4_drawn_21 : decode cX4_drawn 21 = .ok (.if_icmp .ge 85, 3) := by decide +kernel
theorem dX4_drawn_24 : decode cX4_drawn 24 = .ok (.aload_n 0, 1) := by decide +kernel
theorem dX4_drawn_25 : decode cX4_drawn 25 = .ok (.aload_n 0, 1) := by decide +kernel
theorem dX4_drawn_26 : decode cX4_drawn 26 = .ok (.getfield 236, 3) := by decide +kernel
theorem dX4_drawn_29 : decode cX4_drawn 29 = .ok (.ldc2_w 242, 3) := by decide +kernel
theorem dX4_drawn_32 : decode cX4_drawn 32 = .ok (.lmul, 1) := by decide +kernel
theorem dX4_drawn_33 : decode cX4_drawn 33 = .ok (.ldc2_w 244, 3) := by decide +kernel
theorem dX4_drawn_36 : decode cX4_drawn 36 = .ok (.ladd, 1) := by decide +kernel
theorem dX4_drawn_37 : decode cX4_drawn 37 = .ok (.putfield 236, 3) := by decide +kernel
theorem dX4_drawn_40 : decode cX4_drawn 40 = .ok (.aload_n 0, 1) := by decide +kernel
theorem dX4_drawn_41 : decode cX4_drawn 41 = .ok (.getfield 236, 3) := by decide +kernel
theorem dX4_drawn_44 : decode cX4_drawn 44 = .ok (.bipush 33, 2) := by decide +kernel
theorem dX4_drawn_46 : decode cX4_drawn 46 = .ok (.lushr, 1) := by decide +kernel
theorem dX4_drawn_47 : decode cX4_drawn 47 = .ok (.l2i, 1) := by decide +kernel
theorem dX4_drawn_48 : decode cX4_drawn 48 = .ok (.istore 4, 2) := by decide +kernel
theorem dX4_drawn_50 : decode cX4_drawn 50 = .ok (.iload 4, 2) := by decide +kernel
theorem dX4_drawn_52 : decode cX4_drawn 52 = .ok (.bipush 6, 2) := by decide +kernel
theorem dX4_drawn_54 : decode cX4_drawn 54 = .ok (.irem, 1) := by decide +kernel
theorem dX4_drawn_55 : decode cX4_drawn 55 = .ok (.istore 5, 2) := by decide +kernel
theorem dX4_drawn_57 : decode cX4_drawn 57 = .ok (.iload 4, 2) := by decide +kernel
theorem dX4_drawn_59 : decode cX4_drawn 59 = .ok (.bipush 6, 2) := by decide +kernel
theorem dX4_drawn_61 : decode cX4_drawn 61 = .ok (.idiv, 1) := by decide +kernel
theorem dX4_drawn_62 : decode cX4_drawn 62 = .ok (.bipush 32, 2) := by decide +kernel
theorem dX4_drawn_64 : decode cX4_drawn 64 = .ok (.irem, 1) := by decide +kernel
theorem dX4_drawn_65 : decode cX4_drawn 65 = .ok (.istore 6, 2) := by decide +kernel
theorem dX4_drawn_67 : decode cX4_drawn 67 = .ok (.iload_n 2, 1) := by decide +kernel
theorem dX4_drawn_68 : decode cX4_drawn 68 = .ok (.aload_n 0, 1) := by decide +kernel
theorem dX4_drawn_69 : decode cX4_drawn 69 = .ok (.aload_n 0, 1) := by decide +kernel
theorem dX4_drawn_70 : decode cX4_drawn 70 = .ok (.getfield 16, 3) := by decide +kernel
theorem dX4_drawn_73 : decode cX4_drawn 73 = .ok (.iload 6, 2) := by decide +kernel
theorem dX4_drawn_75 : decode cX4_drawn 75 = .ok (.iload 6, 2) := by decide +kernel
theorem dX4_drawn_77 : decode cX4_drawn 77 = .ok (.iload 5, 2) := by decide +kernel
theorem dX4_drawn_79 : decode cX4_drawn 79 = .ok (.invokestatic 56, 3) := by decide +kernel
theorem dX4_drawn_82 : decode cX4_drawn 82 = .ok (.irem, 1) := by decide +kernel
theorem dX4_drawn_83 : decode cX4_drawn 83 = .ok (.isub, 1) := by decide +kernel
theorem dX4_drawn_84 : decode cX4_drawn 84 = .ok (.iload 5, 2) := by decide +kernel
theorem dX4_drawn_86 : decode cX4_drawn 86 = .ok (.iload 4, 2) := by decide +kernel
theorem dX4_drawn_88 : decode cX4_drawn 88 = .ok (.sipush 192, 3) := by decide +kernel
theorem dX4_drawn_91 : decode cX4_drawn 91 = .ok (.idiv, 1) := by decide +kernel
theorem dX4_drawn_92 : decode cX4_drawn 92 = .ok (.bipush 6, 2) := by decide +kernel
theorem dX4_drawn_94 : decode cX4_drawn 94 = .ok (.irem, 1) := by decide +kernel
theorem dX4_drawn_95 : decode cX4_drawn 95 = .ok (.invokevirtual 138, 3) := by decide +kernel
theorem dX4_drawn_98 : decode cX4_drawn 98 = .ok (.iadd, 1) := by decide +kernel
theorem dX4_drawn_99 : decode cX4_drawn 99 = .ok (.istore_n 2, 1) := by decide +kernel
theorem dX4_drawn_100 : decode cX4_drawn 100 = .ok (.iinc 3 1, 3) := by decide +kernel
theorem dX4_drawn_103 : decode cX4_drawn 103 = .ok (.goto (-84), 3) := by decide +kernel
theorem dX4_drawn_106 : decode cX4_drawn 106 = .ok (.iload_n 2, 1) := by decide +kernel
theorem dX4_drawn_107 : decode cX4_drawn 107 = .ok (.ireturn, 1) := by decide +kernel
theorem dX4_keep_0 : decode cX4_keep 0 = .ok (.iload_n 1, 1) := by decide +kernel
theorem dX4_keep_1 : decode cX4_keep 1 = .ok (.i2l, 1) := by decide +kernel
theorem dX4_keep_2 : decode cX4_keep 2 = .ok (.lconst 0, 1) := by decide +kernel
theorem dX4_keep_3 : decode cX4_keep 3 = .ok (.lconst 1, 1) := by decide +kernel
theorem dX4_keep_4 : decode cX4_keep 4 = .ok (.invokestatic 50, 3) := by decide +kernel
theorem dX4_keep_7 : decode cX4_keep 7 = .ok (.ifCond .ne 5, 3) := by decide +kernel
theorem dX4_keep_10 : decode cX4_keep 10 = .ok (.iconst (-1), 1) := by decide +kernel
theorem dX4_keep_11 : decode cX4_keep 11 = .ok (.ireturn, 1) := by decide +kernel
theorem dX4_keep_12 : decode cX4_keep 12 = .ok (.aload_n 0, 1) := by decide +kernel
theorem dX4_keep_13 : decode cX4_keep 13 = .ok (.getfield 28, 3) := by decide +kernel
theorem dX4_keep_16 : decode cX4_keep 16 = .ok (.iload_n 1, 1) := by decide +kernel
theorem dX4_keep_17 : decode cX4_keep 17 = .ok (.iconst 1, 1) := by decide +kernel
theorem dX4_keep_18 : decode cX4_keep 18 = .ok (.bastore, 1) := by decide +kernel
theorem dX4_keep_19 : decode cX4_keep 19 = .ok (.iconst 0, 1) := by decide +kernel
theorem dX4_keep_20 : decode cX4_keep 20 = .ok (.istore_n 2, 1) := by decide +kernel
theorem dX4_keep_21 : decode cX4_keep 21 = .ok (.iload_n 2, 1) := by decide +kernel
theorem dX4_keep_22 : decode cX4_keep 22 = .ok (.bipush 66, 2) := by decide +kernel
theorem dX4_keep_24 : decode cX4_keep 24 = .ok (.if_icmp .ge 26, 3) := by decide +kernel
theorem dX4_keep_27 : decode cX4_keep 27 = .ok (.aload_n 0, 1) := by decide +kernel
theorem dX4_keep_28 : decode cX4_keep 28 = .ok (.getfield 25, 3) := by decide +kernel
theorem dX4_keep_31 : decode cX4_keep 31 = .ok (.bipush 66, 2) := by decide +kernel
theorem dX4_keep_33 : decode cX4_keep 33 = .ok (.iload_n 1, 1) := by decide +kernel
theorem dX4_keep_34 : decode cX4_keep 34 = .ok (.imul, 1) := by decide +kernel
theorem dX4_keep_35 : decode cX4_keep 35 = .ok (.iload_n 2, 1) := by decide +kernel
theorem dX4_keep_36 : decode cX4_keep 36 = .ok (.iadd, 1) := by decide +kernel
theorem dX4_keep_37 : decode cX4_keep 37 = .ok (.aload_n 0, 1) := by decide +kernel
theorem dX4_keep_38 : decode cX4_keep 38 = .ok (.getfield 16, 3) := by decide +kernel
theorem dX4_keep_41 : decode cX4_keep 41 = .ok (.iload_n 2, 1) := by decide +kernel
theorem dX4_keep_42 : decode cX4_keep 42 = .ok (.iaload, 1) := by decide +kernel
theorem dX4_keep_43 : decode cX4_keep 43 = .ok (.iastore, 1) := by decide +kernel
theorem dX4_keep_44 : decode cX4_keep 44 = .ok (.iinc 2 1, 3) := by decide +kernel
theorem dX4_keep_47 : decode cX4_keep 47 = .ok (.goto (-26), 3) := by decide +kernel
theorem dX4_keep_50 : decode cX4_keep 50 = .ok (.aload_n 0, 1) := by decide +kernel
theorem dX4_keep_51 : decode cX4_keep 51 = .ok (.getfield 16, 3) := by decide +kernel
theorem dX4_keep_54 : decode cX4_keep 54 = .ok (.bipush 41, 2) := by decide +kernel
theorem dX4_keep_56 : decode cX4_keep 56 = .ok (.iaload, 1) := by decide +kernel
theorem dX4_keep_57 : decode cX4_keep 57 = .ok (.ireturn, 1) := by decide +kernel
theorem dX4_again_0 : decode cX4_again 0 = .ok (.iload_n 1, 1) := by decide +kernel
theorem dX4_again_1 : decode cX4_again 1 = .ok (.i2l, 1) := by decide +kernel
theorem dX4_again_2 : decode cX4_again 2 = .ok (.lconst 0, 1) := by decide +kernel
theorem dX4_again_3 : decode cX4_again 3 = .ok (.lconst 1, 1) := by decide +kernel
theorem dX4_again_4 : decode cX4_again 4 = .ok (.invokestatic 50, 3) := by decide +kernel
theorem dX4_again_7 : decode cX4_again 7 = .ok (.ifCond .ne 5, 3) := by decide +kernel
theorem dX4_again_10 : decode cX4_again 10 = .ok (.iconst (-1), 1) := by decide +kernel
theorem dX4_again_11 : decode cX4_again 11 = .ok (.ireturn, 1) := by decide +kernel
theorem dX4_again_12 : decode cX4_again 12 = .ok (.aload_n 0, 1) := by decide +kernel
theorem dX4_again_13 : decode cX4_again 13 = .ok (.getfield 28, 3) := by decide +kernel
theorem dX4_again_16 : decode cX4_again 16 = .ok (.iload_n 1, 1) := by decide +kernel
theorem dX4_again_17 : decode cX4_again 17 = .ok (.baload, 1) := by decide +kernel
theorem dX4_again_18 : decode cX4_again 18 = .ok (.ifCond .ne 6, 3) := by decide +kernel
theorem dX4_again_21 : decode cX4_again 21 = .ok (.bipush (-3), 2) := by decide +kernel
theorem dX4_again_23 : decode cX4_again 23 = .ok (.ireturn, 1) := by decide +kernel
theorem dX4_again_24 : decode cX4_again 24 = .ok (.iconst 0, 1) := by decide +kernel
theorem dX4_again_25 : decode cX4_again 25 = .ok (.istore_n 2, 1) := by decide +kernel
theorem dX4_again_26 : decode cX4_again 26 = .ok (.iload_n 2, 1) := by decide +kernel
theorem dX4_again_27 : decode cX4_again 27 = .ok (.bipush 66, 2) := by decide +kernel
theorem dX4_again_29 : decode cX4_again 29 = .ok (.if_icmp .ge 26, 3) := by decide +kernel
theorem dX4_again_32 : decode cX4_again 32 = .ok (.aload_n 0, 1) := by decide +kernel
theorem dX4_again_33 : decode cX4_again 33 = .ok (.getfield 16, 3) := by decide +kernel
theorem dX4_again_36 : decode cX4_again 36 = .ok (.iload_n 2, 1) := by decide +kernel
theorem dX4_again_37 : decode cX4_again 37 = .ok (.aload_n 0, 1) := by decide +kernel
theorem dX4_again_38 : decode cX4_again 38 = .ok (.getfield 25, 3) := by decide +kernel
theorem dX4_again_41 : decode cX4_again 41 = .ok (.bipush 66, 2) := by decide +kernel
theorem dX4_again_43 : decode cX4_again 43 = .ok (.iload_n 1, 1) := by decide +kernel
theorem dX4_again_44 : decode cX4_again 44 = .ok (.imul, 1) := by decide +kernel
theorem dX4_again_45 : decode cX4_again 45 = .ok (.iload_n 2, 1) := by decide +kernel
theorem dX4_again_46 : decode cX4_again 46 = .ok (.iadd, 1) := by decide +kernel
theorem dX4_again_47 : decode cX4_again 47 = .ok (.iaload, 1) := by decide +kernel
theorem dX4_again_48 : decode cX4_again 48 = .ok (.iastore, 1) := by decide +kernel
theorem dX4_again_49 : decode cX4_again 49 = .ok (.iinc 2 1, 3) := by decide +kernel
theorem dX4_again_52 : decode cX4_again 52 = .ok (.goto (-26), 3) := by decide +kernel
theorem dX4_again_55 : decode cX4_again 55 = .ok (.aload_n 0, 1) := by decide +kernel
theorem dX4_again_56 : decode cX4_again 56 = .ok (.iconst 0, 1) := by decide +kernel
theorem dX4_again_57 : decode cX4_again 57 = .ok (.putfield 117, 3) := by decide +kernel
theorem dX4_again_60 : decode cX4_again 60 = .ok (.aload_n 0, 1) := by decide +kernel
theorem dX4_again_61 : decode cX4_again 61 = .ok (.getfield 16, 3) := by decide +kernel
theorem dX4_again_64 : decode cX4_again 64 = .ok (.bipush 41, 2) := by decide +kernel
theorem dX4_again_66 : decode cX4_again 66 = .ok (.iaload, 1) := by decide +kernel
theorem dX4_again_67 : decode cX4_again 67 = .ok (.ireturn, 1) := by decide +kernel
theorem dJ6_bitCount_0f7a4_0 : decode cJ6_bitCount_0f7a4 0 = .ok (.iload_n 0, 1) := by decide +kernel
theorem dJ6_bitCount_0f7a4_1 : decode cJ6_bitCount_0f7a4 1 = .ok (.iload_n 0, 1) := by decide +kernel
theorem dJ6_bitCount_0f7a4_2 : decode cJ6_bitCount_0f7a4 2 = .ok (.iconst 1, 1) := by decide +kernel
theorem dJ6_bitCount_0f7a4_3 : decode cJ6_bitCount_0f7a4 3 = .ok (.iushr, 1) := by decide +kernel
theorem dJ6_bitCount_0f7a4_4 : decode cJ6_bitCount_0f7a4 4 = .ok (.ldc_w 265, 3) := by decide +kernel
theorem dJ6_bitCount_0f7a4_7 : decode cJ6_bitCount_0f7a4 7 = .ok (.iand, 1) := by decide +kernel
theorem dJ6_bitCount_0f7a4_8 : decode cJ6_bitCount_0f7a4 8 = .ok (.isub, 1) := by decide +kernel
theorem dJ6_bitCount_0f7a4_9 : decode cJ6_bitCount_0f7a4 9 = .ok (.istore_n 0, 1) := by decide +kernel
theorem dJ6_bitCount_0f7a4_10 : decode cJ6_bitCount_0f7a4 10 = .ok (.iload_n 0, 1) := by decide +kernel
theorem dJ6_bitCount_0f7a4_11 : decode cJ6_bitCount_0f7a4 11 = .ok (.ldc_w 266, 3) := by decide +kernel
theorem dJ6_bitCount_0f7a4_14 : decode cJ6_bitCount_0f7a4 14 = .ok (.iand, 1) := by decide +kernel
theorem dJ6_bitCount_0f7a4_15 : decode cJ6_bitCount_0f7a4 15 = .ok (.iload_n 0, 1) := by decide +kernel
theorem dJ6_bitCount_0f7a4_16 : decode cJ6_bitCount_0f7a4 16 = .ok (.iconst 2, 1) := by decide +kernel
theorem dJ6_bitCount_0f7a4_17 : decode cJ6_bitCount_0f7a4 17 = .ok (.iushr, 1) := by decide +kernel
theorem dJ6_bitCount_0f7a4_18 : decode cJ6_bitCount_0f7a4 18 = .ok (.ldc_w 266, 3) := by decide +kernel
theorem dJ6_bitCount_0f7a4_21 : decode cJ6_bitCount_0f7a4 21 = .ok (.iand, 1) := by decide +kernel
theorem dJ6_bitCount_0f7a4_22 : decode cJ6_bitCount_0f7a4 22 = .ok (.iadd, 1) := by decide +kernel
theorem dJ6_bitCount_0f7a4_23 : decode cJ6_bitCount_0f7a4 23 = .ok (.istore_n 0, 1) := by decide +kernel
theorem dJ6_bitCount_0f7a4_24 : decode cJ6_bitCount_0f7a4 24 = .ok (.iload_n 0, 1) := by decide +kernel
theorem dJ6_bitCount_0f7a4_25 : decode cJ6_bitCount_0f7a4 25 = .ok (.iload_n 0, 1) := by decide +kernel
theorem dJ6_bitCount_0f7a4_26 : decode cJ6_bitCount_0f7a4 26 = .ok (.iconst 4, 1) := by decide +kernel
theorem dJ6_bitCount_0f7a4_27 : decode cJ6_bitCount_0f7a4 27 = .ok (.iushr, 1) := by decide +kernel
theorem dJ6_bitCount_0f7a4_28 : decode cJ6_bitCount_0f7a4 28 = .ok (.iadd, 1) := by decide +kernel
theorem dJ6_bitCount_0f7a4_29 : decode cJ6_bitCount_0f7a4 29 = .ok (.ldc_w 267, 3) := by decide +kernel
theorem dJ6_bitCount_0f7a4_32 : decode cJ6_bitCount_0f7a4 32 = .ok (.iand, 1) := by decide +kernel
theorem dJ6_bitCount_0f7a4_33 : decode cJ6_bitCount_0f7a4 33 = .ok (.istore_n 0, 1) := by decide +kernel
theorem dJ6_bitCount_0f7a4_34 : decode cJ6_bitCount_0f7a4 34 = .ok (.iload_n 0, 1) := by decide +kernel
theorem dJ6_bitCount_0f7a4_35 : decode cJ6_bitCount_0f7a4 35 = .ok (.iload_n 0, 1) := by decide +kernel
theorem dJ6_bitCount_0f7a4_36 : decode cJ6_bitCount_0f7a4 36 = .ok (.bipush 8, 2) := by decide +kernel
theorem dJ6_bitCount_0f7a4_38 : decode cJ6_bitCount_0f7a4 38 = .ok (.iushr, 1) := by decide +kernel
theorem dJ6_bitCount_0f7a4_39 : decode cJ6_bitCount_0f7a4 39 = .ok (.iadd, 1) := by decide +kernel
theorem dJ6_bitCount_0f7a4_40 : decode cJ6_bitCount_0f7a4 40 = .ok (.istore_n 0, 1) := by decide +kernel
theorem dJ6_bitCount_0f7a4_41 : decode cJ6_bitCount_0f7a4 41 = .ok (.iload_n 0, 1) := by decide +kernel
theorem dJ6_bitCount_0f7a4_42 : decode cJ6_bitCount_0f7a4 42 = .ok (.iload_n 0, 1) := by decide +kernel
theorem dJ6_bitCount_0f7a4_43 : decode cJ6_bitCount_0f7a4 43 = .ok (.bipush 16, 2) := by decide +kernel
theorem dJ6_bitCount_0f7a4_45 : decode cJ6_bitCount_0f7a4 45 = .ok (.iushr, 1) := by decide +kernel
theorem dJ6_bitCount_0f7a4_46 : decode cJ6_bitCount_0f7a4 46 = .ok (.iadd, 1) := by decide +kernel
theorem dJ6_bitCount_0f7a4_47 : decode cJ6_bitCount_0f7a4 47 = .ok (.istore_n 0, 1) := by decide +kernel
theorem dJ6_bitCount_0f7a4_48 : decode cJ6_bitCount_0f7a4 48 = .ok (.iload_n 0, 1) := by decide +kernel
theorem dJ6_bitCount_0f7a4_49 : decode cJ6_bitCount_0f7a4 49 = .ok (.bipush 63, 2) := by decide +kernel
theorem dJ6_bitCount_0f7a4_51 : decode cJ6_bitCount_0f7a4 51 = .ok (.iand, 1) := by decide +kernel
theorem dJ6_bitCount_0f7a4_52 : decode cJ6_bitCount_0f7a4 52 = .ok (.ireturn, 1) := by decide +kernel
theorem dJ9_max_7cf53_0 : decode cJ9_max_7cf53 0 = .ok (.iload_n 0, 1) := by decide +kernel
theorem dJ9_max_7cf53_1 : decode cJ9_max_7cf53 1 = .ok (.iload_n 1, 1) := by decide +kernel
theorem dJ9_max_7cf53_2 : decode cJ9_max_7cf53 2 = .ok (.if_icmp .lt 7, 3) := by decide +kernel
theorem dJ9_max_7cf53_5 : decode cJ9_max_7cf53 5 = .ok (.iload_n 0, 1) := by decide +kernel
theorem dJ9_max_7cf53_6 : decode cJ9_max_7cf53 6 = .ok (.goto 4, 3) := by decide +kernel
theorem dJ9_max_7cf53_9 : decode cJ9_max_7cf53 9 = .ok (.iload_n 1, 1) := by decide +kernel
theorem dJ9_max_7cf53_10 : decode cJ9_max_7cf53 10 = .ok (.ireturn, 1) := by decide +kernel
theorem dJ9_min_7cf53_0 : decode cJ9_min_7cf53 0 = .ok (.iload_n 0, 1) := by decide +kernel
theorem dJ9_min_7cf53_1 : decode cJ9_min_7cf53 1 = .ok (.iload_n 1, 1) := by decide +kernel
theorem dJ9_min_7cf53_2 : decode cJ9_min_7cf53 2 = .ok (.if_icmp .gt 7, 3) := by decide +kernel
theorem dJ9_min_7cf53_5 : decode cJ9_min_7cf53 5 = .ok (.iload_n 0, 1) := by decide +kernel
theorem dJ9_min_7cf53_6 : decode cJ9_min_7cf53 6 = .ok (.goto 4, 3) := by decide +kernel
theorem dJ9_min_7cf53_9 : decode cJ9_min_7cf53 9 = .ok (.iload_n 1, 1) := by decide +kernel
theorem dJ9_min_7cf53_10 : decode cJ9_min_7cf53 10 = .ok (.ireturn, 1) := by decide +kernel
theorem dL_law_0 : decode cL_law 0 = .ok (.new 7, 3) := by decide +kernel
theorem dL_law_3 : decode cL_law 3 = .ok (.dup, 1) := by decide +kernel
theorem dL_law_4 : decode cL_law 4 = .ok (.invokespecial 9, 3) := by decide +kernel
theorem dL_law_7 : decode cL_law 7 = .ok (.astore_n 1, 1) := by decide +kernel
theorem dL_law_8 : decode cL_law 8 = .ok (.new 10, 3) := by decide +kernel
theorem dL_law_11 : decode cL_law 11 = .ok (.dup, 1) := by decide +kernel
theorem dL_law_12 : decode cL_law 12 = .ok (.invokespecial 12, 3) := by decide +kernel
theorem dL_law_15 : decode cL_law 15 = .ok (.astore_n 2, 1) := by decide +kernel
theorem dL_law_16 : decode cL_law 16 = .ok (.iconst 0, 1) := by decide +kernel
theorem dL_law_17 : decode cL_law 17 = .ok (.istore_n 3, 1) := by decide +kernel
theorem dL_law_18 : decode cL_law 18 = .ok (.iload_n 3, 1) := by decide +kernel
theorem dL_law_19 : decode cL_law 19 = .ok (.aload_n 0, 1) := by decide +kernel
theorem dL_law_20 : decode cL_law 20 = .ok (.arraylength, 1) := by decide +kernel
theorem dL_law_21 : decode cL_law 21 = .ok (.bipush 6, 2) := by decide +kernel
theorem dL_law_23 : decode cL_law 23 = .ok (.isub, 1) := by decide +kernel
theorem dL_law_24 : decode cL_law 24 = .ok (.if_icmp .gt 1083, 3) := by decide +kernel
theorem dL_law_27 : decode cL_law 27 = .ok (.aload_n 0, 1) := by decide +kernel
theorem dL_law_28 : decode cL_law 28 = .ok (.iload_n 3, 1) := by decide +kernel
theorem dL_law_29 : decode cL_law 29 = .ok (.iaload, 1) := by decide +kernel
theorem dL_law_30 : decode cL_law 30 = .ok (.bipush 31, 2) := by decide +kernel
theorem dL_law_32 : decode cL_law 32 = .ok (.iand, 1) := by decide +kernel
theorem dL_law_33 : decode cL_law 33 = .ok (.tableswitch 1068 0 29 #[135, 158, 171, 184, 197, 220, 253, 286, 319, 362, 385, 448, 471, 494, 507, 530, 543, 586, 619, 662, 685, 748, 801, 814, 837, 886, 945, 999, 1022, 1045], 135) := by decide +kernel
theorem dL_law_168 : decode cL_law 168 = .ok (.aload_n 1, 1) := by decide +kernel
theorem dL_law_169 : decode cL_law 169 = .ok (.aload_n 0, 1) := by decide +kernel
theorem dL_law_170 : decode cL_law 170 = .ok (.iload_n 3, 1) := by decide +kernel
theorem dL_law_171 : decode cL_law 171 = .ok (.iconst 1, 1) := by decide +kernel
theorem dL_law_172 : decode cL_law 172 = .ok (.iadd, 1) := by decide +kernel
theorem dL_law_173 : decode cL_law 173 = .ok (.iaload, 1) := by decide +kernel
theorem dL_law_174 : decode cL_law 174 = .ok (.invokevirtual 13, 3) := by decide +kernel
theorem dL_law_177 : decode cL_law 177 = .ok (.aload_n 2, 1) := by decide +kernel
theorem dL_law_178 : decode cL_law 178 = .ok (.aload_n 0, 1) := by decide +kernel
theorem dL_law_179 : decode cL_law 179 = .ok (.iload_n 3, 1) := by decide +kernel
theorem dL_law_180 : decode cL_law 180 = .ok (.iconst 1, 1) := by decide +kernel
theorem dL_law_181 : decode cL_law 181 = .ok (.iadd, 1) := by decide +kernel
theorem dL_law_182 : decode cL_law 182 = .ok (.iaload, 1) := by decide +kernel
theorem dL_law_183 : decode cL_law 183 = .ok (.invokevirtual 17, 3) := by decide +kernel
theorem dL_law_186 : decode cL_law 186 = .ok (.if_icmp .eq 915, 3) := by decide +kernel
theorem dL_law_189 : decode cL_law 189 = .ok (.iconst 0, 1) := by decide +kernel
theorem dL_law_190 : decode cL_law 190 = .ok (.ireturn, 1) := by decide +kernel
theorem dL_law_191 : decode cL_law 191 = .ok (.aload_n 1, 1) := by decide +kernel
theorem dL_law_192 : decode cL_law 192 = .ok (.invokevirtual 18, 3) := by decide +kernel
theorem dL_law_195 : decode cL_law 195 = .ok (.aload_n 2, 1) := by decide +kernel
theorem dL_law_196 : decode cL_law 196 = .ok (.invokevirtual 22, 3) := by decide +kernel
theorem dL_law_199 : decode cL_law 199 = .ok (.if_icmp .eq 902, 3) := by decide +kernel
theorem dL_law_202 : decode cL_law 202 = .ok (.iconst 0, 1) := by decide +kernel
theorem dL_law_203 : decode cL_law 203 = .ok (.ireturn, 1) := by decide +kernel
theorem dL_law_204 : decode cL_law 204 = .ok (.aload_n 1, 1) := by decide +kernel
theorem dL_law_205 : decode cL_law 205 = .ok (.invokevirtual 23, 3) := by decide +kernel
theorem dL_law_208 : decode cL_law 208 = .ok (.aload_n 2, 1) := by decide +kernel
theorem dL_law_209 : decode cL_law 209 = .ok (.invokevirtual 26, 3) := by decide +kernel
theorem dL_law_212 : decode cL_law 212 = .ok (.if_icmp .eq 889, 3) := by decide +kernel
theorem dL_law_215 : decode cL_law 215 = .ok (.iconst 0, 1) := by decide +kernel
theorem dL_law_216 : decode cL_law 216 = .ok (.ireturn, 1) := by decide +kernel
theorem dL_law_217 : decode cL_law 217 = .ok (.aload_n 1, 1) := by decide +kernel
theorem dL_law_218 : decode cL_law 218 = .ok (.invokevirtual 27, 3) := by decide +kernel
theorem dL_law_221 : decode cL_law 221 = .ok (.aload_n 2, 1) := by decide +kernel
theorem dL_law_222 : decode cL_law 222 = .ok (.invokevirtual 30, 3) := by decide +kernel
theorem dL_law_225 : decode cL_law 225 = .ok (.if_icmp .eq 876, 3) := by decide +kernel
theorem dL_law_228 : decode cL_law 228 = .ok (.iconst 0, 1) := by decide +kernel
theorem dL_law_229 : decode cL_law 229 = .ok (.ireturn, 1) := by decide +kernel
theorem dL_law_230 : decode cL_law 230 = .ok (.aload_n 1, 1) := by decide +kernel
theorem dL_law_231 : decode cL_law 231 = .ok (.aload_n 0, 1) := by decide +kernel
theorem dL_law_232 : decode cL_law 232 = .ok (.iload_n 3, 1) := by decide +kernel
theorem dL_law_233 : decode cL_law 233 = .ok (.iconst 1, 1) := by decide +kernel
theorem dL_law_234 : decode cL_law 234 = .ok (.iadd, 1) := by decide +kernel
theorem dL_law_235 : decode cL_law 235 = .ok (.iaload, 1) := by decide +kernel
theorem dL_law_236 : decode cL_law 236 = .ok (.invokevirtual 31, 3) := by decide +kernel
theorem dL_law_239 : decode cL_law 239 = .ok (.aload_n 2, 1) := by decide +kernel
theorem dL_law_240 : decode cL_law 240 = .ok (.aload_n 0, 1) := by decide +kernel
theorem dL_law_241 : decode cL_law 241 = .ok (.iload_n 3, 1) := by decide +kernel
theorem dL_law_242 : decode cL_law 242 = .ok (.iconst 1, 1) := by decide +kernel
theorem dL_law_243 : decode cL_law 243 = .ok (.iadd, 1) := by decide +kernel
theorem dL_law_244 : decode cL_law 244 = .ok (.iaload, 1) := by decide +kernel
theorem dL_law_245 : decode cL_law 245 = .ok (.invokevirtual 34, 3) := by decide +kernel
theorem dL_law_248 : decode cL_law 248 = .ok (.if_icmp .eq 853, 3) := by decide +kernel
theorem dL_law_251 : decode cL_law 251 = .ok (.iconst 0, 1) := by decide +kernel
theorem dL_law_252 : decode cL_law 252 = .ok (.ireturn, 1) := by decide +kernel
theorem dL_law_253 : decode cL_law 253 = .ok (.aload_n 1, 1) := by decide +kernel
theorem dL_law_254 : decode cL_law 254 = .ok (.aload_n 0, 1) := by decide +kernel
theorem dL_law_255 : decode cL_law 255 = .ok (.iload_n 3, 1) := by decide +kernel
theorem dL_law_256 : decode cL_law 256 = .ok (.iconst 1, 1) := by decide +kernel
theorem dL_law_257 : decode cL_law 257 = .ok (.iadd, 1) := by decide +kernel
theorem dL_law_258 : decode cL_law 258 = .ok (.iaload, 1) := by decide +kernel
theorem dL_law_259 : decode cL_law 259 = .ok (.aload_n 0, 1) := by decide +kernel
theorem dL_law_260 : decode cL_law 260 = .ok (.iload_n 3, 1) := by decide +kernel
theorem dL_law_261 : decode cL_law 261 = .ok (.iconst 2, 1) := by decide +kernel
theorem dL_law_262 : decode cL_law 262 = .ok (.iadd, 1) := by decide +kernel
theorem dL_law_263 : decode cL_law 263 = .ok (.iaload, 1) := by decide +kernel
theorem dL_law_264 : decode cL_law 264 = .ok (.invokevirtual 35, 3) := by decide +kernel
theorem dL_law_267 : decode cL_law 267 = .ok (.aload_n 2, 1) := by decide +kernel
theorem dL_law_268 : decode cL_law 268 = .ok (.aload_n 0, 1) := by decide +kernel
theorem dL_law_269 : decode cL_law 269 = .ok (.iload_n 3, 1) := by decide +kernel
theorem dL_law_270 : decode cL_law 270 = .ok (.iconst 1, 1) := by decide +kernel
theorem dL_law_271 : decode cL_law 271 = .ok (.iadd, 1) := by decide +kernel
theorem dL_law_272 : decode cL_law 272 = .ok (.iaload, 1) := by decide +kernel
theorem dL_law_273 : decode cL_law 273 = .ok (.aload_n 0, 1) := by decide +kernel
theorem dL_law_274 : decode cL_law 274 = .ok (.iload_n 3, 1) := by decide +kernel
theorem dL_law_275 : decode cL_law 275 = .ok (.iconst 2, 1) := by decide +kernel
theorem dL_law_276 : decode cL_law 276 = .ok (.iadd, 1) := by decide +kernel
theorem dL_law_277 : decode cL_law 277 = .ok (.iaload, 1) := by decide +kernel
theorem dL_law_278 : decode cL_law 278 = .ok (.invokevirtual 39, 3) := by decide +kernel
theorem dL_law_281 : decode cL_law 281 = .ok (.if_icmp .eq 820, 3) := by decide +kernel
theorem dL_law_284 : decode cL_law 284 = .ok (.iconst 0, 1) := by decide +kernel
theorem dL_law_285 : decode cL_law 285 = .ok (.ireturn, 1) := by decide +kernel
theorem dL_law_286 : decode cL_law 286 = .ok (.aload_n 1, 1) := by decide +kernel
theorem dL_law_287 : decode cL_law 287 = .ok (.aload_n 0, 1) := by decide +kernel
theorem dL_law_288 : decode cL_law 288 = .ok (.iload_n 3, 1) := by decide +kernel
theorem dL_law_289 : decode cL_law 289 = .ok (.iconst 1, 1) := by decide +kernel
theorem dL_law_290 : decode cL_law 290 = .ok (.iadd, 1) := by decide +kernel
theorem dL_law_291 : decode cL_law 291 = .ok (.iaload, 1) := by decide +kernel
theorem dL_law_292 : decode cL_law 292 = .ok (.aload_n 0, 1) := by decide +kernel
theorem dL_law_293 : decode cL_law 293 = .ok (.iload_n 3, 1) := by decide +kernel
theorem dL_law_294 : decode cL_law 294 = .ok (.iconst 2, 1) := by decide +kernel
theorem dL_law_295 : decode cL_law 295 = .ok (.iadd, 1) := by decide +kernel
theorem dL_law_296 : decode cL_law 296 = .ok (.iaload, 1) := by decide +kernel
theorem dL_law_297 : decode cL_law 297 = .ok (.invokevirtual 40, 3) := by decide +kernel
theorem dL_law_300 : decode cL_law 300 = .ok (.aload_n 2, 1) := by decide +kernel
theorem dL_law_301 : decode cL_law 301 = .ok (.aload_n 0, 1) := by decide +kernel
theorem dL_law_302 : decode cL_law 302 = .ok (.iload_n 3, 1) := by decide +kernel
theorem dL_law_303 : decode cL_law 303 = .ok (.iconst 1, 1) := by decide +kernel
theorem dL_law_304 : decode cL_law 304 = .ok (.iadd, 1) := by decide +kernel
theorem dL_law_305 : decode cL_law 305 = .ok (.iaload, 1) := by decide +kernel
theorem dL_law_306 : decode cL_law 306 = .ok (.aload_n 0, 1) := by decide +kernel
theorem dL_law_307 : decode cL_law 307 = .ok (.iload_n 3, 1) := by decide +kernel
theorem dL_law_308 : decode cL_law 308 = .ok (.iconst 2, 1) := by decide +kernel
theorem dL_law_309 : decode cL_law 309 = .ok (.iadd, 1) := by decide +kernel
theorem dL_law_310 : decode cL_law 310 = .ok (.iaload, 1) := by decide +kernel
theorem dL_law_311 : decode cL_law 311 = .ok (.invokevirtual 43, 3) := by decide +kernel
theorem dL_law_314 : decode cL_law 314 = .ok (.if_icmp .eq 787, 3) := by decide +kernel
theorem dL_law_317 : decode cL_law 317 = .ok (.iconst 0, 1) := by decide +kernel
theorem dL_law_318 : decode cL_law 318 = .ok (.ireturn, 1) := by decide +kernel
theorem dL_law_319 : decode cL_law 319 = .ok (.aload_n 1, 1) := by decide +kernel
theorem dL_law_320 : decode cL_law 320 = .ok (.aload_n 0, 1) := by decide +kernel
theorem dL_law_321 : decode cL_law 321 = .ok (.iload_n 3, 1) := by decide +kernel
theorem dL_law_322 : decode cL_law 322 = .ok (.iconst 1, 1) := by decide +kernel
theorem dL_law_323 : decode cL_law 323 = .ok (.iadd, 1) := by decide +kernel
theorem dL_law_324 : decode cL_law 324 = .ok (.iaload, 1) := by decide +kernel
theorem dL_law_325 : decode cL_law 325 = .ok (.aload_n 0, 1) := by decide +kernel
theorem dL_law_326 : decode cL_law 326 = .ok (.iload_n 3, 1) := by decide +kernel
theorem dL_law_327 : decode cL_law 327 = .ok (.iconst 2, 1) := by decide +kernel
theorem dL_law_328 : decode cL_law 328 = .ok (.iadd, 1) := by decide +kernel
theorem dL_law_329 : decode cL_law 329 = .ok (.iaload, 1) := by decide +kernel
theorem dL_law_330 : decode cL_law 330 = .ok (.invokevirtual 44, 3) := by decide +kernel
theorem dL_law_333 : decode cL_law 333 = .ok (.aload_n 2, 1) := by decide +kernel
theorem dL_law_334 : decode cL_law 334 = .ok (.aload_n 0, 1) := by decide +kernel
theorem dL_law_335 : decode cL_law 335 = .ok (.iload_n 3, 1) := by decide +kernel
theorem dL_law_336 : decode cL_law 336 = .ok (.iconst 1, 1) := by decide +kernel
theorem dL_law_337 : decode cL_law 337 = .ok (.iadd, 1) := by decide +kernel
theorem dL_law_338 : decode cL_law 338 = .ok (.iaload, 1) := by decide +kernel
theorem dL_law_339 : decode cL_law 339 = .ok (.aload_n 0, 1) := by decide +kernel
theorem dL_law_340 : decode cL_law 340 = .ok (.iload_n 3, 1) := by decide +kernel
theorem dL_law_341 : decode cL_law 341 = .ok (.iconst 2, 1) := by decide +kernel
theorem dL_law_342 : decode cL_law 342 = .ok (.iadd, 1) := by decide +kernel
theorem dL_law_343 : decode cL_law 343 = .ok (.iaload, 1) := by decide +kernel
theorem dL_law_344 : decode cL_law 344 = .ok (.invokevirtual 47, 3) := by decide +kernel
theorem dL_law_347 : decode cL_law 347 = .ok (.if_icmp .eq 754, 3) := by decide +kernel
theorem dL_law_350 : decode cL_law 350 = .ok (.iconst 0, 1) := by decide +kernel
theorem dL_law_351 : decode cL_law 351 = .ok (.ireturn, 1) := by decide +kernel
theorem dL_law_352 : decode cL_law 352 = .ok (.aload_n 1, 1) := by decide +kernel
theorem dL_law_353 : decode cL_law 353 = .ok (.aload_n 0, 1) := by decide +kernel
theorem dL_law_354 : decode cL_law 354 = .ok (.iload_n 3, 1) := by decide +kernel
theorem dL_law_355 : decode cL_law 355 = .ok (.iconst 1, 1) := by decide +kernel
theorem dL_law_356 : decode cL_law 356 = .ok (.iadd, 1) := by decide +kernel
theorem dL_law_357 : decode cL_law 357 = .ok (.iaload, 1) := by decide +kernel
theorem dL_law_358 : decode cL_law 358 = .ok (.aload_n 0, 1) := by decide +kernel
theorem dL_law_359 : decode cL_law 359 = .ok (.iload_n 3, 1) := by decide +kernel
theorem dL_law_360 : decode cL_law 360 = .ok (.iconst 2, 1) := by decide +kernel
theorem dL_law_361 : decode cL_law 361 = .ok (.iadd, 1) := by decide +kernel
theorem dL_law_362 : decode cL_law 362 = .ok (.iaload, 1) := by decide +kernel
theorem dL_law_363 : decode cL_law 363 = .ok (.aload_n 0, 1) := by decide +kernel
theorem dL_law_364 : decode cL_law 364 = .ok (.iload_n 3, 1) := by decide +kernel
theorem dL_law_365 : decode cL_law 365 = .ok (.iconst 3, 1) := by decide +kernel
theorem dL_law_366 : decode cL_law 366 = .ok (.iadd, 1) := by decide +kernel
theorem dL_law_367 : decode cL_law 367 = .ok (.iaload, 1) := by decide +kernel
theorem dL_law_368 : decode cL_law 368 = .ok (.invokevirtual 48, 3) := by decide +kernel
theorem dL_law_371 : decode cL_law 371 = .ok (.aload_n 2, 1) := by decide +kernel
theorem dL_law_372 : decode cL_law 372 = .ok (.aload_n 0, 1) := by decide +kernel
theorem dL_law_373 : decode cL_law 373 = .ok (.iload_n 3, 1) := by decide +kernel
theorem dL_law_374 : decode cL_law 374 = .ok (.iconst 1, 1) := by decide +kernel
theorem dL_law_375 : decode cL_law 375 = .ok (.iadd, 1) := by decide +kernel
theorem dL_law_376 : decode cL_law 376 = .ok (.iaload, 1) := by decide +kernel
theorem dL_law_377 : decode cL_law 377 = .ok (.aload_n 0, 1) := by decide +kernel
theorem dL_law_378 : decode cL_law 378 = .ok (.iload_n 3, 1) := by decide +kernel
theorem dL_law_379 : decode cL_law 379 = .ok (.iconst 2, 1) := by decide +kernel
theorem dL_law_380 : decode cL_law 380 = .ok (.iadd, 1) := by decide +kernel
theorem dL_law_381 : decode cL_law 381 = .ok (.iaload, 1) := by decide +kernel
theorem dL_law_382 : decode cL_law 382 = .ok (.aload_n 0, 1) := by decide +kernel
theorem dL_law_383 : decode cL_law 383 = .ok (.iload_n 3, 1) := by decide +kernel
theorem dL_law_384 : decode cL_law 384 = .ok (.iconst 3, 1) := by decide +kernel
theorem dL_law_385 : decode cL_law 385 = .ok (.iadd, 1) := by decide +kernel
theorem dL_law_386 : decode cL_law 386 = .ok (.iaload, 1) := by decide +kernel
theorem dL_law_387 : decode cL_law 387 = .ok (.invokevirtual 52, 3) := by decide +kernel
theorem dL_law_390 : decode cL_law 390 = .ok (.if_icmp .eq 711, 3) := by decide +kernel
theorem dL_law_393 : decode cL_law 393 = .ok (.iconst 0, 1) := by decide +kernel
theorem dL_law_394 : decode cL_law 394 = .ok (.ireturn, 1) := by decide +kernel
theorem dL_law_395 : decode cL_law 395 = .ok (.aload_n 1, 1) := by decide +kernel
theorem dL_law_396 : decode cL_law 396 = .ok (.aload_n 0, 1) := by decide +kernel
theorem dL_law_397 : decode cL_law 397 = .ok (.iload_n 3, 1) := by decide +kernel
theorem dL_law_398 : decode cL_law 398 = .ok (.iconst 1, 1) := by decide +kernel
theorem dL_law_399 : decode cL_law 399 = .ok (.iadd, 1) := by decide +kernel
theorem dL_law_400 : decode cL_law 400 = .ok (.iaload, 1) := by decide +kernel
theorem dL_law_401 : decode cL_law 401 = .ok (.invokevirtual 53, 3) := by decide +kernel
theorem dL_law_404 : decode cL_law 404 = .ok (.aload_n 2, 1) := by decide +kernel
theorem dL_law_405 : decode cL_law 405 = .ok (.aload_n 0, 1) := by decide +kernel
theorem dL_law_406 : decode cL_law 406 = .ok (.iload_n 3, 1) := by decide +kernel
theorem dL_law_407 : decode cL_law 407 = .ok (.iconst 1, 1) := by decide +kernel
theorem dL_law_408 : decode cL_law 408 = .ok (.iadd, 1) := by decide +kernel
theorem dL_law_409 : decode cL_law 409 = .ok (.iaload, 1) := by decide +kernel
theorem dL_law_410 : decode cL_law 410 = .ok (.invokevirtual 56, 3) := by decide +kernel
theorem dL_law_413 : decode cL_law 413 = .ok (.if_icmp .eq 688, 3) := by decide +kernel
theorem dL_law_416 : decode cL_law 416 = .ok (.iconst 0, 1) := by decide +kernel
theorem dL_law_417 : decode cL_law 417 = .ok (.ireturn, 1) := by decide +kernel
theorem dL_law_418 : decode cL_law 418 = .ok (.aload_n 1, 1) := by decide +kernel
theorem dL_law_419 : decode cL_law 419 = .ok (.aload_n 0, 1) := by decide +kernel
theorem dL_law_420 : decode cL_law 420 = .ok (.iload_n 3, 1) := by decide +kernel
theorem dL_law_421 : decode cL_law 421 = .ok (.iconst 1, 1) := by decide +kernel
theorem dL_law_422 : decode cL_law 422 = .ok (.iadd, 1) := by decide +kernel
theorem dL_law_423 : decode cL_law 423 = .ok (.iaload, 1) := by decide +kernel
theorem dL_law_424 : decode cL_law 424 = .ok (.aload_n 0, 1) := by decide +kernel
theorem dL_law_425 : decode cL_law 425 = .ok (.iload_n 3, 1) := by decide +kernel
theorem dL_law_426 : decode cL_law 426 = .ok (.iconst 2, 1) := by decide +kernel
theorem dL_law_427 : decode cL_law 427 = .ok (.iadd, 1) := by decide +kernel
theorem dL_law_428 : decode cL_law 428 = .ok (.iaload, 1) := by decide +kernel
theorem dL_law_429 : decode cL_law 429 = .ok (.aload_n 0, 1) := by decide +kernel
theorem dL_law_430 : decode cL_law 430 = .ok (.iload_n 3, 1) := by decide +kernel
theorem dL_law_431 : decode cL_law 431 = .ok (.iconst 3, 1) := by decide +kernel
theorem dL_law_432 : decode cL_law 432 = .ok (.iadd, 1) := by decide +kernel
theorem dL_law_433 : decode cL_law 433 = .ok (.iaload, 1) := by decide +kernel
theorem dL_law_434 : decode cL_law 434 = .ok (.aload_n 0, 1) := by decide +kernel
theorem dL_law_435 : decode cL_law 435 = .ok (.iload_n 3, 1) := by decide +kernel
theorem dL_law_436 : decode cL_law 436 = .ok (.iconst 4, 1) := by decide +kernel
theorem dL_law_437 : decode cL_law 437 = .ok (.iadd, 1) := by decide +kernel
theorem dL_law_438 : decode cL_law 438 = .ok (.iaload, 1) := by decide +kernel
theorem dL_law_439 : decode cL_law 439 = .ok (.aload_n 0, 1) := by decide +kernel
theorem dL_law_440 : decode cL_law 440 = .ok (.iload_n 3, 1) := by decide +kernel
theorem dL_law_441 : decode cL_law 441 = .ok (.iconst 5, 1) := by decide +kernel
theorem dL_law_442 : decode cL_law 442 = .ok (.iadd, 1) := by decide +kernel
theorem dL_law_443 : decode cL_law 443 = .ok (.iaload, 1) := by decide +kernel
theorem dL_law_444 : decode cL_law 444 = .ok (.invokevirtual 57, 3) := by decide +kernel
theorem dL_law_447 : decode cL_law 447 = .ok (.aload_n 2, 1) := by decide +kernel
theorem dL_law_448 : decode cL_law 448 = .ok (.aload_n 0, 1) := by decide +kernel
theorem dL_law_449 : decode cL_law 449 = .ok (.iload_n 3, 1) := by decide +kernel
theorem dL_law_450 : decode cL_law 450 = .ok (.iconst 1, 1) := by decide +kernel
theorem dL_law_451 : decode cL_law 451 = .ok (.iadd, 1) := by decide +kernel
theorem dL_law_452 : decode cL_law 452 = .ok (.iaload, 1) := by decide +kernel
theorem dL_law_453 : decode cL_law 453 = .ok (.aload_n 0, 1) := by decide +kernel
theorem dL_law_454 : decode cL_law 454 = .ok (.iload_n 3, 1) := by decide +kernel
theorem dL_law_455 : decode cL_law 455 = .ok (.iconst 2, 1) := by decide +kernel
theorem dL_law_456 : decode cL_law 456 = .ok (.iadd, 1) := by decide +kernel
theorem dL_law_457 : decode cL_law 457 = .ok (.iaload, 1) := by decide +kernel
theorem dL_law_458 : decode cL_law 458 = .ok (.aload_n 0, 1) := by decide +kernel
theorem dL_law_459 : decode cL_law 459 = .ok (.iload_n 3, 1) := by decide +kernel
theorem dL_law_460 : decode cL_law 460 = .ok (.iconst 3, 1) := by decide +kernel
theorem dL_law_461 : decode cL_law 461 = .ok (.iadd, 1) := by decide +kernel
theorem dL_law_462 : decode cL_law 462 = .ok (.iaload, 1) := by decide +kernel
theorem dL_law_463 : decode cL_law 463 = .ok (.aload_n 0, 1) := by decide +kernel
theorem dL_law_464 : decode cL_law 464 = .ok (.iload_n 3, 1) := by decide +kernel
theorem dL_law_465 : decode cL_law 465 = .ok (.iconst 4, 1) := by decide +kernel
theorem dL_law_466 : decode cL_law 466 = .ok (.iadd, 1) := by decide +kernel
theorem dL_law_467 : decode cL_law 467 = .ok (.iaload, 1) := by decide +kernel
theorem dL_law_468 : decode cL_law 468 = .ok (.aload_n 0, 1) := by decide +kernel
theorem dL_law_469 : decode cL_law 469 = .ok (.iload_n 3, 1) := by decide +kernel
theorem dL_law_470 : decode cL_law 470 = .ok (.iconst 5, 1) := by decide +kernel
theorem dL_law_471 : decode cL_law 471 = .ok (.iadd, 1) := by decide +kernel
theorem dL_law_472 : decode cL_law 472 = .ok (.iaload, 1) := by decide +kernel
theorem dL_law_473 : decode cL_law 473 = .ok (.invokevirtual 61, 3) := by decide +kernel
theorem dL_law_476 : decode cL_law 476 = .ok (.if_icmp .eq 625, 3) := by decide +kernel
theorem dL_law_479 : decode cL_law 479 = .ok (.iconst 0, 1) := by decide +kernel
theorem dL_law_480 : decode cL_law 480 = .ok (.ireturn, 1) := by decide +kernel
theorem dL_law_481 : decode cL_law 481 = .ok (.aload_n 1, 1) := by decide +kernel
theorem dL_law_482 : decode cL_law 482 = .ok (.aload_n 0, 1) := by decide +kernel
theorem dL_law_483 : decode cL_law 483 = .ok (.iload_n 3, 1) := by decide +kernel
theorem dL_law_484 : decode cL_law 484 = .ok (.iconst 1, 1) := by decide +kernel
theorem dL_law_485 : decode cL_law 485 = .ok (.iadd, 1) := by decide +kernel
theorem dL_law_486 : decode cL_law 486 = .ok (.iaload, 1) := by decide +kernel
theorem dL_law_487 : decode cL_law 487 = .ok (.invokevirtual 62, 3) := by decide +kernel
theorem dL_law_490 : decode cL_law 490 = .ok (.aload_n 2, 1) := by decide +kernel
theorem dL_law_491 : decode cL_law 491 = .ok (.aload_n 0, 1) := by decide +kernel
theorem dL_law_492 : decode cL_law 492 = .ok (.iload_n 3, 1) := by decide +kernel
theorem dL_law_493 : decode cL_law 493 = .ok (.iconst 1, 1) := by decide +kernel
theorem dL_law_494 : decode cL_law 494 = .ok (.iadd, 1) := by decide +kernel
theorem dL_law_495 : decode cL_law 495 = .ok (.iaload, 1) := by decide +kernel
theorem dL_law_496 : decode cL_law 496 = .ok (.invokevirtual 65, 3) := by decide +kernel
theorem dL_law_499 : decode cL_law 499 = .ok (.if_icmp .eq 602, 3) := by decide +kernel
theorem dL_law_502 : decode cL_law 502 = .ok (.iconst 0, 1) := by decide +kernel
theorem dL_law_503 : decode cL_law 503 = .ok (.ireturn, 1) := by decide +kernel
theorem dL_law_504 : decode cL_law 504 = .ok (.aload_n 1, 1) := by decide +kernel
theorem dL_law_505 : decode cL_law 505 = .ok (.aload_n 0, 1) := by decide +kernel
theorem dL_law_506 : decode cL_law 506 = .ok (.iload_n 3, 1) := by decide +kernel
theorem dL_law_507 : decode cL_law 507 = .ok (.iconst 1, 1) := by decide +kernel
theorem dL_law_508 : decode cL_law 508 = .ok (.iadd, 1) := by decide +kernel
theorem dL_law_509 : decode cL_law 509 = .ok (.iaload, 1) := by decide +kernel
theorem dL_law_510 : decode cL_law 510 = .ok (.invokevirtual 66, 3) := by decide +kernel
theorem dL_law_513 : decode cL_law 513 = .ok (.aload_n 2, 1) := by decide +kernel
theorem dL_law_514 : decode cL_law 514 = .ok (.aload_n 0, 1) := by decide +kernel
theorem dL_law_515 : decode cL_law 515 = .ok (.iload_n 3, 1) := by decide +kernel
theorem dL_law_516 : decode cL_law 516 = .ok (.iconst 1, 1) := by decide +kernel
theorem dL_law_517 : decode cL_law 517 = .ok (.iadd, 1) := by decide +kernel
theorem dL_law_518 : decode cL_law 518 = .ok (.iaload, 1) := by decide +kernel
theorem dL_law_519 : decode cL_law 519 = .ok (.invokevirtual 69, 3) := by decide +kernel
theorem dL_law_522 : decode cL_law 522 = .ok (.if_icmp .eq 579, 3) := by decide +kernel
theorem dL_law_525 : decode cL_law 525 = .ok (.iconst 0, 1) := by decide +kernel
theorem dL_law_526 : decode cL_law 526 = .ok (.ireturn, 1) := by decide +kernel
theorem dL_law_527 : decode cL_law 527 = .ok (.aload_n 1, 1) := by decide +kernel
theorem dL_law_528 : decode cL_law 528 = .ok (.invokevirtual 70, 3) := by decide +kernel
theorem dL_law_531 : decode cL_law 531 = .ok (.aload_n 2, 1) := by decide +kernel
theorem dL_law_532 : decode cL_law 532 = .ok (.invokevirtual 73, 3) := by decide +kernel
theorem dL_law_535 : decode cL_law 535 = .ok (.if_icmp .eq 566, 3) := by decide +kernel
theorem dL_law_538 : decode cL_law 538 = .ok (.iconst 0, 1) := by decide +kernel
theorem dL_law_539 : decode cL_law 539 = .ok (.ireturn, 1) := by decide +kernel
theorem dL_law_540 : decode cL_law 540 = .ok (.aload_n 1, 1) := by decide +kernel
theorem dL_law_541 : decode cL_law 541 = .ok (.aload_n 0, 1) := by decide +kernel
theorem dL_law_542 : decode cL_law 542 = .ok (.iload_n 3, 1) := by decide +kernel
theorem dL_law_543 : decode cL_law 543 = .ok (.iconst 1, 1) := by decide +kernel
theorem dL_law_544 : decode cL_law 544 = .ok (.iadd, 1) := by decide +kernel
theorem dL_law_545 : decode cL_law 545 = .ok (.iaload, 1) := by decide +kernel
theorem dL_law_546 : decode cL_law 546 = .ok (.invokevirtual 74, 3) := by decide +kernel
theorem dL_law_549 : decode cL_law 549 = .ok (.aload_n 2, 1) := by decide +kernel
theorem dL_law_550 : decode cL_law 550 = .ok (.aload_n 0, 1) := by decide +kernel
theorem dL_law_551 : decode cL_law 551 = .ok (.iload_n 3, 1) := by decide +kernel
theorem dL_law_552 : decode cL_law 552 = .ok (.iconst 1, 1) := by decide +kernel
theorem dL_law_553 : decode cL_law 553 = .ok (.iadd, 1) := by decide +kernel
theorem dL_law_554 : decode cL_law 554 = .ok (.iaload, 1) := by decide +kernel
theorem dL_law_555 : decode cL_law 555 = .ok (.invokevirtual 77, 3) := by decide +kernel
theorem dL_law_558 : decode cL_law 558 = .ok (.if_icmp .eq 543, 3) := by decide +kernel
theorem dL_law_561 : decode cL_law 561 = .ok (.iconst 0, 1) := by decide +kernel
theorem dL_law_562 : decode cL_law 562 = .ok (.ireturn, 1) := by decide +kernel
theorem dL_law_563 : decode cL_law 563 = .ok (.aload_n 1, 1) := by decide +kernel
theorem dL_law_564 : decode cL_law 564 = .ok (.invokevirtual 78, 3) := by decide +kernel
theorem dL_law_567 : decode cL_law 567 = .ok (.aload_n 2, 1) := by decide +kernel
theorem dL_law_568 : decode cL_law 568 = .ok (.invokevirtual 81, 3) := by decide +kernel
theorem dL_law_571 : decode cL_law 571 = .ok (.if_icmp .eq 530, 3) := by decide +kernel
theorem dL_law_574 : decode cL_law 574 = .ok (.iconst 0, 1) := by decide +kernel
theorem dL_law_575 : decode cL_law 575 = .ok (.ireturn, 1) := by decide +kernel
theorem dL_law_576 : decode cL_law 576 = .ok (.aload_n 1, 1) := by decide +kernel
theorem dL_law_577 : decode cL_law 577 = .ok (.aload_n 0, 1) := by decide +kernel
theorem dL_law_578 : decode cL_law 578 = .ok (.iload_n 3, 1) := by decide +kernel
theorem dL_law_579 : decode cL_law 579 = .ok (.iconst 1, 1) := by decide +kernel
theorem dL_law_580 : decode cL_law 580 = .ok (.iadd, 1) := by decide +kernel
theorem dL_law_581 : decode cL_law 581 = .ok (.iaload, 1) := by decide +kernel
theorem dL_law_582 : decode cL_law 582 = .ok (.aload_n 0, 1) := by decide +kernel
theorem dL_law_583 : decode cL_law 583 = .ok (.iload_n 3, 1) := by decide +kernel
theorem dL_law_584 : decode cL_law 584 = .ok (.iconst 2, 1) := by decide +kernel
theorem dL_law_585 : decode cL_law 585 = .ok (.iadd, 1) := by decide +kernel
theorem dL_law_586 : decode cL_law 586 = .ok (.iaload, 1) := by decide +kernel
theorem dL_law_587 : decode cL_law 587 = .ok (.aload_n 0, 1) := by decide +kernel
theorem dL_law_588 : decode cL_law 588 = .ok (.iload_n 3, 1) := by decide +kernel
theorem dL_law_589 : decode cL_law 589 = .ok (.iconst 3, 1) := by decide +kernel
theorem dL_law_590 : decode cL_law 590 = .ok (.iadd, 1) := by decide +kernel
theorem dL_law_591 : decode cL_law 591 = .ok (.iaload, 1) := by decide +kernel
theorem dL_law_592 : decode cL_law 592 = .ok (.invokevirtual 82, 3) := by decide +kernel
theorem dL_law_595 : decode cL_law 595 = .ok (.aload_n 2, 1) := by decide +kernel
theorem dL_law_596 : decode cL_law 596 = .ok (.aload_n 0, 1) := by decide +kernel
theorem dL_law_597 : decode cL_law 597 = .ok (.iload_n 3, 1) := by decide +kernel
theorem dL_law_598 : decode cL_law 598 = .ok (.iconst 1, 1) := by decide +kernel
theorem dL_law_599 : decode cL_law 599 = .ok (.iadd, 1) := by decide +kernel
theorem dL_law_600 : decode cL_law 600 = .ok (.iaload, 1) := by decide +kernel
theorem dL_law_601 : decode cL_law 601 = .ok (.aload_n 0, 1) := by decide +kernel
theorem dL_law_602 : decode cL_law 602 = .ok (.iload_n 3, 1) := by decide +kernel
theorem dL_law_603 : decode cL_law 603 = .ok (.iconst 2, 1) := by decide +kernel
theorem dL_law_604 : decode cL_law 604 = .ok (.iadd, 1) := by decide +kernel
theorem dL_law_605 : decode cL_law 605 = .ok (.iaload, 1) := by decide +kernel
theorem dL_law_606 : decode cL_law 606 = .ok (.aload_n 0, 1) := by decide +kernel
theorem dL_law_607 : decode cL_law 607 = .ok (.iload_n 3, 1) := by decide +kernel
theorem dL_law_608 : decode cL_law 608 = .ok (.iconst 3, 1) := by decide +kernel
theorem dL_law_609 : decode cL_law 609 = .ok (.iadd, 1) := by decide +kernel
theorem dL_law_610 : decode cL_law 610 = .ok (.iaload, 1) := by decide +kernel
theorem dL_law_611 : decode cL_law 611 = .ok (.invokevirtual 85, 3) := by decide +kernel
theorem dL_law_614 : decode cL_law 614 = .ok (.if_icmp .eq 487, 3) := by decide +kernel
theorem dL_law_617 : decode cL_law 617 = .ok (.iconst 0, 1) := by decide +kernel
theorem dL_law_618 : decode cL_law 618 = .ok (.ireturn, 1) := by decide +kernel
theorem dL_law_619 : decode cL_law 619 = .ok (.aload_n 1, 1) := by decide +kernel
theorem dL_law_620 : decode cL_law 620 = .ok (.aload_n 0, 1) := by decide +kernel
theorem dL_law_621 : decode cL_law 621 = .ok (.iload_n 3, 1) := by decide +kernel
theorem dL_law_622 : decode cL_law 622 = .ok (.iconst 1, 1) := by decide +kernel
theorem dL_law_623 : decode cL_law 623 = .ok (.iadd, 1) := by decide +kernel
theorem dL_law_624 : decode cL_law 624 = .ok (.iaload, 1) := by decide +kernel
theorem dL_law_625 : decode cL_law 625 = .ok (.aload_n 0, 1) := by decide +kernel
theorem dL_law_626 : decode cL_law 626 = .ok (.iload_n 3, 1) := by decide +kernel
theorem dL_law_627 : decode cL_law 627 = .ok (.iconst 2, 1) := by decide +kernel
theorem dL_law_628 : decode cL_law 628 = .ok (.iadd, 1) := by decide +kernel
theorem dL_law_629 : decode cL_law 629 = .ok (.iaload, 1) := by decide +kernel
theorem dL_law_630 : decode cL_law 630 = .ok (.invokevirtual 86, 3) := by decide +kernel
theorem dL_law_633 : decode cL_law 633 = .ok (.aload_n 2, 1) := by decide +kernel
theorem dL_law_634 : decode cL_law 634 = .ok (.aload_n 0, 1) := by decide +kernel
theorem dL_law_635 : decode cL_law 635 = .ok (.iload_n 3, 1) := by decide +kernel
theorem dL_law_636 : decode cL_law 636 = .ok (.iconst 1, 1) := by decide +kernel
theorem dL_law_637 : decode cL_law 637 = .ok (.iadd, 1) := by decide +kernel
theorem dL_law_638 : decode cL_law 638 = .ok (.iaload, 1) := by decide +kernel
theorem dL_law_639 : decode cL_law 639 = .ok (.aload_n 0, 1) := by decide +kernel
theorem dL_law_640 : decode cL_law 640 = .ok (.iload_n 3, 1) := by decide +kernel
theorem dL_law_641 : decode cL_law 641 = .ok (.iconst 2, 1) := by decide +kernel
theorem dL_law_642 : decode cL_law 642 = .ok (.iadd, 1) := by decide +kernel
theorem dL_law_643 : decode cL_law 643 = .ok (.iaload, 1) := by decide +kernel
theorem dL_law_644 : decode cL_law 644 = .ok (.invokevirtual 89, 3) := by decide +kernel
theorem dL_law_647 : decode cL_law 647 = .ok (.if_icmp .eq 454, 3) := by decide +kernel
theorem dL_law_650 : decode cL_law 650 = .ok (.iconst 0, 1) := by decide +kernel
theorem dL_law_651 : decode cL_law 651 = .ok (.ireturn, 1) := by decide +kernel
theorem dL_law_652 : decode cL_law 652 = .ok (.aload_n 1, 1) := by decide +kernel
theorem dL_law_653 : decode cL_law 653 = .ok (.aload_n 0, 1) := by decide +kernel
theorem dL_law_654 : decode cL_law 654 = .ok (.iload_n 3, 1) := by decide +kernel
theorem dL_law_655 : decode cL_law 655 = .ok (.iconst 1, 1) := by decide +kernel
theorem dL_law_656 : decode cL_law 656 = .ok (.iadd, 1) := by decide +kernel
theorem dL_law_657 : decode cL_law 657 = .ok (.iaload, 1) := by decide +kernel
theorem dL_law_658 : decode cL_law 658 = .ok (.aload_n 0, 1) := by decide +kernel
theorem dL_law_659 : decode cL_law 659 = .ok (.iload_n 3, 1) := by decide +kernel
theorem dL_law_660 : decode cL_law 660 = .ok (.iconst 2, 1) := by decide +kernel
theorem dL_law_661 : decode cL_law 661 = .ok (.iadd, 1) := by decide +kernel
theorem dL_law_662 : decode cL_law 662 = .ok (.iaload, 1) := by decide +kernel
theorem dL_law_663 : decode cL_law 663 = .ok (.aload_n 0, 1) := by decide +kernel
theorem dL_law_664 : decode cL_law 664 = .ok (.iload_n 3, 1) := by decide +kernel
theorem dL_law_665 : decode cL_law 665 = .ok (.iconst 3, 1) := by decide +kernel
theorem dL_law_666 : decode cL_law 666 = .ok (.iadd, 1) := by decide +kernel
theorem dL_law_667 : decode cL_law 667 = .ok (.iaload, 1) := by decide +kernel
theorem dL_law_668 : decode cL_law 668 = .ok (.invokevirtual 90, 3) := by decide +kernel
theorem dL_law_671 : decode cL_law 671 = .ok (.aload_n 2, 1) := by decide +kernel
theorem dL_law_672 : decode cL_law 672 = .ok (.aload_n 0, 1) := by decide +kernel
theorem dL_law_673 : decode cL_law 673 = .ok (.iload_n 3, 1) := by decide +kernel
theorem dL_law_674 : decode cL_law 674 = .ok (.iconst 1, 1) := by decide +kernel
theorem dL_law_675 : decode cL_law 675 = .ok (.iadd, 1) := by decide +kernel
theorem dL_law_676 : decode cL_law 676 = .ok (.iaload, 1) := by decide +kernel
theorem dL_law_677 : decode cL_law 677 = .ok (.aload_n 0, 1) := by decide +kernel
theorem dL_law_678 : decode cL_law 678 = .ok (.iload_n 3, 1) := by decide +kernel
theorem dL_law_679 : decode cL_law 679 = .ok (.iconst 2, 1) := by decide +kernel
theorem dL_law_680 : decode cL_law 680 = .ok (.iadd, 1) := by decide +kernel
theorem dL_law_681 : decode cL_law 681 = .ok (.iaload, 1) := by decide +kernel
theorem dL_law_682 : decode cL_law 682 = .ok (.aload_n 0, 1) := by decide +kernel
theorem dL_law_683 : decode cL_law 683 = .ok (.iload_n 3, 1) := by decide +kernel
theorem dL_law_684 : decode cL_law 684 = .ok (.iconst 3, 1) := by decide +kernel
theorem dL_law_685 : decode cL_law 685 = .ok (.iadd, 1) := by decide +kernel
theorem dL_law_686 : decode cL_law 686 = .ok (.iaload, 1) := by decide +kernel
theorem dL_law_687 : decode cL_law 687 = .ok (.invokevirtual 93, 3) := by decide +kernel
theorem dL_law_690 : decode cL_law 690 = .ok (.if_icmp .eq 411, 3) := by decide +kernel
theorem dL_law_693 : decode cL_law 693 = .ok (.iconst 0, 1) := by decide +kernel
theorem dL_law_694 : decode cL_law 694 = .ok (.ireturn, 1) := by decide +kernel
theorem dL_law_695 : decode cL_law 695 = .ok (.aload_n 1, 1) := by decide +kernel
theorem dL_law_696 : decode cL_law 696 = .ok (.aload_n 0, 1) := by decide +kernel
theorem dL_law_697 : decode cL_law 697 = .ok (.iload_n 3, 1) := by decide +kernel
theorem dL_law_698 : decode cL_law 698 = .ok (.iconst 1, 1) := by decide +kernel
theorem dL_law_699 : decode cL_law 699 = .ok (.iadd, 1) := by decide +kernel
theorem dL_law_700 : decode cL_law 700 = .ok (.iaload, 1) := by decide +kernel
theorem dL_law_701 : decode cL_law 701 = .ok (.invokevirtual 94, 3) := by decide +kernel
theorem dL_law_704 : decode cL_law 704 = .ok (.aload_n 2, 1) := by decide +kernel
theorem dL_law_705 : decode cL_law 705 = .ok (.aload_n 0, 1) := by decide +kernel
theorem dL_law_706 : decode cL_law 706 = .ok (.iload_n 3, 1) := by decide +kernel
theorem dL_law_707 : decode cL_law 707 = .ok (.iconst 1, 1) := by decide +kernel
theorem dL_law_708 : decode cL_law 708 = .ok (.iadd, 1) := by decide +kernel
theorem dL_law_709 : decode cL_law 709 = .ok (.iaload, 1) := by decide +kernel
theorem dL_law_710 : decode cL_law 710 = .ok (.invokevirtual 97, 3) := by decide +kernel
theorem dL_law_713 : decode cL_law 713 = .ok (.if_icmp .eq 388, 3) := by decide +kernel
theorem dL_law_716 : decode cL_law 716 = .ok (.iconst 0, 1) := by decide +kernel
theorem dL_law_717 : decode cL_law 717 = .ok (.ireturn, 1) := by decide +kernel
theorem dL_law_718 : decode cL_law 718 = .ok (.aload_n 1, 1) := by decide +kernel
theorem dL_law_719 : decode cL_law 719 = .ok (.aload_n 0, 1) := by decide +kernel
theorem dL_law_720 : decode cL_law 720 = .ok (.iload_n 3, 1) := by decide +kernel
theorem dL_law_721 : decode cL_law 721 = .ok (.iconst 1, 1) := by decide +kernel
theorem dL_law_722 : decode cL_law 722 = .ok (.iadd, 1) := by decide +kernel
theorem dL_law_723 : decode cL_law 723 = .ok (.iaload, 1) := by decide +kernel
theorem dL_law_724 : decode cL_law 724 = .ok (.aload_n 0, 1) := by decide +kernel
theorem dL_law_725 : decode cL_law 725 = .ok (.iload_n 3, 1) := by decide +kernel
theorem dL_law_726 : decode cL_law 726 = .ok (.iconst 2, 1) := by decide +kernel
theorem dL_law_727 : decode cL_law 727 = .ok (.iadd, 1) := by decide +kernel
theorem dL_law_728 : decode cL_law 728 = .ok (.iaload, 1) := by decide +kernel
theorem dL_law_729 : decode cL_law 729 = .ok (.i2l, 1) := by decide +kernel
theorem dL_law_730 : decode cL_law 730 = .ok (.bipush 32, 2) := by decide +kernel
theorem dL_law_732 : decode cL_law 732 = .ok (.lshl, 1) := by decide +kernel
theorem dL_law_733 : decode cL_law 733 = .ok (.aload_n 0, 1) := by decide +kernel
theorem dL_law_734 : decode cL_law 734 = .ok (.iload_n 3, 1) := by decide +kernel
theorem dL_law_735 : decode cL_law 735 = .ok (.iconst 3, 1) := by decide +kernel
theorem dL_law_736 : decode cL_law 736 = .ok (.iadd, 1) := by decide +kernel
theorem dL_law_737 : decode cL_law 737 = .ok (.iaload, 1) := by decide +kernel
theorem dL_law_738 : decode cL_law 738 = .ok (.i2l, 1) := by decide +kernel
theorem dL_law_739 : decode cL_law 739 = .ok (.ldc2_w 98, 3) := by decide +kernel
theorem dL_law_742 : decode cL_law 742 = .ok (.land, 1) := by decide +kernel
theorem dL_law_743 : decode cL_law 743 = .ok (.lor, 1) := by decide +kernel
theorem dL_law_744 : decode cL_law 744 = .ok (.invokevirtual 100, 3) := by decide +kernel
theorem dL_law_747 : decode cL_law 747 = .ok (.aload_n 2, 1) := by decide +kernel
theorem dL_law_748 : decode cL_law 748 = .ok (.aload_n 0, 1) := by decide +kernel
theorem dL_law_749 : decode cL_law 749 = .ok (.iload_n 3, 1) := by decide +kernel
theorem dL_law_750 : decode cL_law 750 = .ok (.iconst 1, 1) := by decide +kernel
theorem dL_law_751 : decode cL_law 751 = .ok (.iadd, 1) := by decide +kernel
theorem dL_law_752 : decode cL_law 752 = .ok (.iaload, 1) := by decide +kernel
theorem dL_law_753 : decode cL_law 753 = .ok (.aload_n 0, 1) := by decide +kernel
theorem dL_law_754 : decode cL_law 754 = .ok (.iload_n 3, 1) := by decide +kernel
theorem dL_law_755 : decode cL_law 755 = .ok (.iconst 2, 1) := by decide +kernel
theorem dL_law_756 : decode cL_law 756 = .ok (.iadd, 1) := by decide +kernel
theorem dL_law_757 : decode cL_law 757 = .ok (.iaload, 1) := by decide +kernel
theorem dL_law_758 : decode cL_law 758 = .ok (.i2l, 1) := by decide +kernel
theorem dL_law_759 : decode cL_law 759 = .ok (.bipush 32, 2) := by decide +kernel
theorem dL_law_761 : decode cL_law 761 = .ok (.lshl, 1) := by decide +kernel
theorem dL_law_762 : decode cL_law 762 = .ok (.aload_n 0, 1) := by decide +kernel
theorem dL_law_763 : decode cL_law 763 = .ok (.iload_n 3, 1) := by decide +kernel
theorem dL_law_764 : decode cL_law 764 = .ok (.iconst 3, 1) := by decide +kernel
theorem dL_law_765 : decode cL_law 765 = .ok (.iadd, 1) := by decide +kernel
theorem dL_law_766 : decode cL_law 766 = .ok (.iaload, 1) := by decide +kernel
theorem dL_law_767 : decode cL_law 767 = .ok (.i2l, 1) := by decide +kernel
theorem dL_law_768 : decode cL_law 768 = .ok (.ldc2_w 98, 3) := by decide +kernel
theorem dL_law_771 : decode cL_law 771 = .ok (.land, 1) := by decide +kernel
theorem dL_law_772 : decode cL_law 772 = .ok (.lor, 1) := by decide +kernel
theorem dL_law_773 : decode cL_law 773 = .ok (.invokevirtual 104, 3) := by decide +kernel
theorem dL_law_776 : decode cL_law 776 = .ok (.if_icmp .eq 325, 3) := by decide +kernel
theorem dL_law_779 : decode cL_law 779 = .ok (.iconst 0, 1) := by decide +kernel
theorem dL_law_780 : decode cL_law 780 = .ok (.ireturn, 1) := by decide +kernel
theorem dL_law_781 : decode cL_law 781 = .ok (.aload_n 1, 1) := by decide +kernel
theorem dL_law_782 : decode cL_law 782 = .ok (.aload_n 0, 1) := by decide +kernel
theorem dL_law_783 : decode cL_law 783 = .ok (.iload_n 3, 1) := by decide +kernel
theorem dL_law_784 : decode cL_law 784 = .ok (.iconst 1, 1) := by decide +kernel
theorem dL_law_785 : decode cL_law 785 = .ok (.iadd, 1) := by decide +kernel
theorem dL_law_786 : decode cL_law 786 = .ok (.iaload, 1) := by decide +kernel
theorem dL_law_787 : decode cL_law 787 = .ok (.aload_n 0, 1) := by decide +kernel
theorem dL_law_788 : decode cL_law 788 = .ok (.iload_n 3, 1) := by decide +kernel
theorem dL_law_789 : decode cL_law 789 = .ok (.iconst 2, 1) := by decide +kernel
theorem dL_law_790 : decode cL_law 790 = .ok (.iadd, 1) := by decide +kernel
theorem dL_law_791 : decode cL_law 791 = .ok (.iaload, 1) := by decide +kernel
theorem dL_law_792 : decode cL_law 792 = .ok (.aload_n 0, 1) := by decide +kernel
theorem dL_law_793 : decode cL_law 793 = .ok (.iload_n 3, 1) := by decide +kernel
theorem dL_law_794 : decode cL_law 794 = .ok (.iconst 3, 1) := by decide +kernel
theorem dL_law_795 : decode cL_law 795 = .ok (.iadd, 1) := by decide +kernel
theorem dL_law_796 : decode cL_law 796 = .ok (.iaload, 1) := by decide +kernel
theorem dL_law_797 : decode cL_law 797 = .ok (.aload_n 0, 1) := by decide +kernel
theorem dL_law_798 : decode cL_law 798 = .ok (.iload_n 3, 1) := by decide +kernel
theorem dL_law_799 : decode cL_law 799 = .ok (.iconst 4, 1) := by decide +kernel
theorem dL_law_800 : decode cL_law 800 = .ok (.iadd, 1) := by decide +kernel
theorem dL_law_801 : decode cL_law 801 = .ok (.iaload, 1) := by decide +kernel
theorem dL_law_802 : decode cL_law 802 = .ok (.invokevirtual 105, 3) := by decide +kernel
theorem dL_law_805 : decode cL_law 805 = .ok (.aload_n 2, 1) := by decide +kernel
theorem dL_law_806 : decode cL_law 806 = .ok (.aload_n 0, 1) := by decide +kernel
theorem dL_law_807 : decode cL_law 807 = .ok (.iload_n 3, 1) := by decide +kernel
theorem dL_law_808 : decode cL_law 808 = .ok (.iconst 1, 1) := by decide +kernel
theorem dL_law_809 : decode cL_law 809 = .ok (.iadd, 1) := by decide +kernel
theorem dL_law_810 : decode cL_law 810 = .ok (.iaload, 1) := by decide +kernel
theorem dL_law_811 : decode cL_law 811 = .ok (.aload_n 0, 1) := by decide +kernel
theorem dL_law_812 : decode cL_law 812 = .ok (.iload_n 3, 1) := by decide +kernel
theorem dL_law_813 : decode cL_law 813 = .ok (.iconst 2, 1) := by decide +kernel
theorem dL_law_814 : decode cL_law 814 = .ok (.iadd, 1) := by decide +kernel
theorem dL_law_815 : decode cL_law 815 = .ok (.iaload, 1) := by decide +kernel
theorem dL_law_816 : decode cL_law 816 = .ok (.aload_n 0, 1) := by decide +kernel
theorem dL_law_817 : decode cL_law 817 = .ok (.iload_n 3, 1) := by decide +kernel
theorem dL_law_818 : decode cL_law 818 = .ok (.iconst 3, 1) := by decide +kernel
theorem dL_law_819 : decode cL_law 819 = .ok (.iadd, 1) := by decide +kernel
theorem dL_law_820 : decode cL_law 820 = .ok (.iaload, 1) := by decide +kernel
theorem dL_law_821 : decode cL_law 821 = .ok (.aload_n 0, 1) := by decide +kernel
theorem dL_law_822 : decode cL_law 822 = .ok (.iload_n 3, 1) := by decide +kernel
theorem dL_law_823 : decode cL_law 823 = .ok (.iconst 4, 1) := by decide +kernel
theorem dL_law_824 : decode cL_law 824 = .ok (.iadd, 1) := by decide +kernel
theorem dL_law_825 : decode cL_law 825 = .ok (.iaload, 1) := by decide +kernel
theorem dL_law_826 : decode cL_law 826 = .ok (.invokevirtual 109, 3) := by decide +kernel
theorem dL_law_829 : decode cL_law 829 = .ok (.if_icmp .eq 272, 3) := by decide +kernel
theorem dL_law_832 : decode cL_law 832 = .ok (.iconst 0, 1) := by decide +kernel
theorem dL_law_833 : decode cL_law 833 = .ok (.ireturn, 1) := by decide +kernel
theorem dL_law_834 : decode cL_law 834 = .ok (.aload_n 1, 1) := by decide +kernel
theorem dL_law_835 : decode cL_law 835 = .ok (.invokevirtual 110, 3) := by decide +kernel
theorem dL_law_838 : decode cL_law 838 = .ok (.aload_n 2, 1) := by decide +kernel
theorem dL_law_839 : decode cL_law 839 = .ok (.invokevirtual 113, 3) := by decide +kernel
theorem dL_law_842 : decode cL_law 842 = .ok (.if_icmp .eq 259, 3) := by decide +kernel
theorem dL_law_845 : decode cL_law 845 = .ok (.iconst 0, 1) := by decide +kernel
theorem dL_law_846 : decode cL_law 846 = .ok (.ireturn, 1) := by decide +kernel
theorem dL_law_847 : decode cL_law 847 = .ok (.aload_n 1, 1) := by decide +kernel
theorem dL_law_848 : decode cL_law 848 = .ok (.aload_n 0, 1) := by decide +kernel
theorem dL_law_849 : decode cL_law 849 = .ok (.iload_n 3, 1) := by decide +kernel
theorem dL_law_850 : decode cL_law 850 = .ok (.iconst 1, 1) := by decide +kernel
theorem dL_law_851 : decode cL_law 851 = .ok (.iadd, 1) := by decide +kernel
theorem dL_law_852 : decode cL_law 852 = .ok (.iaload, 1) := by decide +kernel
theorem dL_law_853 : decode cL_law 853 = .ok (.invokevirtual 114, 3) := by decide +kernel
theorem dL_law_856 : decode cL_law 856 = .ok (.aload_n 2, 1) := by decide +kernel
theorem dL_law_857 : decode cL_law 857 = .ok (.aload_n 0, 1) := by decide +kernel
theorem dL_law_858 : decode cL_law 858 = .ok (.iload_n 3, 1) := by decide +kernel
theorem dL_law_859 : decode cL_law 859 = .ok (.iconst 1, 1) := by decide +kernel
theorem dL_law_860 : decode cL_law 860 = .ok (.iadd, 1) := by decide +kernel
theorem dL_law_861 : decode cL_law 861 = .ok (.iaload, 1) := by decide +kernel
theorem dL_law_862 : decode cL_law 862 = .ok (.invokevirtual 117, 3) := by decide +kernel
theorem dL_law_865 : decode cL_law 865 = .ok (.if_icmp .eq 236, 3) := by decide +kernel
theorem dL_law_868 : decode cL_law 868 = .ok (.iconst 0, 1) := by decide +kernel
theorem dL_law_869 : decode cL_law 869 = .ok (.ireturn, 1) := by decide +kernel
theorem dL_law_870 : decode cL_law 870 = .ok (.aload_n 1, 1) := by decide +kernel
theorem dL_law_871 : decode cL_law 871 = .ok (.aload_n 0, 1) := by decide +kernel
theorem dL_law_872 : decode cL_law 872 = .ok (.iload_n 3, 1) := by decide +kernel
theorem dL_law_873 : decode cL_law 873 = .ok (.iconst 1, 1) := by decide +kernel
theorem dL_law_874 : decode cL_law 874 = .ok (.iadd, 1) := by decide +kernel
theorem dL_law_875 : decode cL_law 875 = .ok (.iaload, 1) := by decide +kernel
theorem dL_law_876 : decode cL_law 876 = .ok (.aload_n 0, 1) := by decide +kernel
theorem dL_law_877 : decode cL_law 877 = .ok (.iload_n 3, 1) := by decide +kernel
theorem dL_law_878 : decode cL_law 878 = .ok (.iconst 2, 1) := by decide +kernel
theorem dL_law_879 : decode cL_law 879 = .ok (.iadd, 1) := by decide +kernel
theorem dL_law_880 : decode cL_law 880 = .ok (.iaload, 1) := by decide +kernel
theorem dL_law_881 : decode cL_law 881 = .ok (.ifCond .eq 7, 3) := by decide +kernel
theorem dL_law_884 : decode cL_law 884 = .ok (.iconst 1, 1) := by decide +kernel
theorem dL_law_885 : decode cL_law 885 = .ok (.goto 4, 3) := by decide +kernel
theorem dL_law_888 : decode cL_law 888 = .ok (.iconst 0, 1) := by decide +kernel
theorem dL_law_889 : decode cL_law 889 = .ok (.invokevirtual 118, 3) := by decide +kernel
theorem dL_law_892 : decode cL_law 892 = .ok (.aload_n 2, 1) := by decide +kernel
theorem dL_law_893 : decode cL_law 893 = .ok (.aload_n 0, 1) := by decide +kernel
theorem dL_law_894 : decode cL_law 894 = .ok (.iload_n 3, 1) := by decide +kernel
theorem dL_law_895 : decode cL_law 895 = .ok (.iconst 1, 1) := by decide +kernel
theorem dL_law_896 : decode cL_law 896 = .ok (.iadd, 1) := by decide +kernel
theorem dL_law_897 : decode cL_law 897 = .ok (.iaload, 1) := by decide +kernel
theorem dL_law_898 : decode cL_law 898 = .ok (.aload_n 0, 1) := by decide +kernel
theorem dL_law_899 : decode cL_law 899 = .ok (.iload_n 3, 1) := by decide +kernel
theorem dL_law_900 : decode cL_law 900 = .ok (.iconst 2, 1) := by decide +kernel
theorem dL_law_901 : decode cL_law 901 = .ok (.iadd, 1) := by decide +kernel
theorem dL_law_902 : decode cL_law 902 = .ok (.iaload, 1) := by decide +kernel
theorem dL_law_903 : decode cL_law 903 = .ok (.ifCond .eq 7, 3) := by decide +kernel
theorem dL_law_906 : decode cL_law 906 = .ok (.iconst 1, 1) := by decide +kernel
theorem dL_law_907 : decode cL_law 907 = .ok (.goto 4, 3) := by decide +kernel
theorem dL_law_910 : decode cL_law 910 = .ok (.iconst 0, 1) := by decide +kernel
theorem dL_law_911 : decode cL_law 911 = .ok (.invokevirtual 122, 3) := by decide +kernel
theorem dL_law_914 : decode cL_law 914 = .ok (.if_icmp .eq 187, 3) := by decide +kernel
theorem dL_law_917 : decode cL_law 917 = .ok (.iconst 0, 1) := by decide +kernel
theorem dL_law_918 : decode cL_law 918 = .ok (.ireturn, 1) := by decide +kernel
theorem dL_law_919 : decode cL_law 919 = .ok (.aload_n 1, 1) := by decide +kernel
theorem dL_law_920 : decode cL_law 920 = .ok (.aload_n 0, 1) := by decide +kernel
theorem dL_law_921 : decode cL_law 921 = .ok (.iload_n 3, 1) := by decide +kernel
theorem dL_law_922 : decode cL_law 922 = .ok (.iconst 1, 1) := by decide +kernel
theorem dL_law_923 : decode cL_law 923 = .ok (.iadd, 1) := by decide +kernel
theorem dL_law_924 : decode cL_law 924 = .ok (.iaload, 1) := by decide +kernel
theorem dL_law_925 : decode cL_law 925 = .ok (.aload_n 0, 1) := by decide +kernel
theorem dL_law_926 : decode cL_law 926 = .ok (.iload_n 3, 1) := by decide +kernel
theorem dL_law_927 : decode cL_law 927 = .ok (.iconst 2, 1) := by decide +kernel
theorem dL_law_928 : decode cL_law 928 = .ok (.iadd, 1) := by decide +kernel
theorem dL_law_929 : decode cL_law 929 = .ok (.iaload, 1) := by decide +kernel
theorem dL_law_930 : decode cL_law 930 = .ok (.aload_n 0, 1) := by decide +kernel
theorem dL_law_931 : decode cL_law 931 = .ok (.iload_n 3, 1) := by decide +kernel
theorem dL_law_932 : decode cL_law 932 = .ok (.iconst 3, 1) := by decide +kernel
theorem dL_law_933 : decode cL_law 933 = .ok (.iadd, 1) := by decide +kernel
theorem dL_law_934 : decode cL_law 934 = .ok (.iaload, 1) := by decide +kernel
theorem dL_law_935 : decode cL_law 935 = .ok (.ifCond .eq 7, 3) := by decide +kernel
theorem dL_law_938 : decode cL_law 938 = .ok (.iconst 1, 1) := by decide +kernel
theorem dL_law_939 : decode cL_law 939 = .ok (.goto 4, 3) := by decide +kernel
theorem dL_law_942 : decode cL_law 942 = .ok (.iconst 0, 1) := by decide +kernel
theorem dL_law_943 : decode cL_law 943 = .ok (.invokevirtual 123, 3) := by decide +kernel
theorem dL_law_946 : decode cL_law 946 = .ok (.aload_n 2, 1) := by decide +kernel
theorem dL_law_947 : decode cL_law 947 = .ok (.aload_n 0, 1) := by decide +kernel
theorem dL_law_948 : decode cL_law 948 = .ok (.iload_n 3, 1) := by decide +kernel
theorem dL_law_949 : decode cL_law 949 = .ok (.iconst 1, 1) := by decide +kernel
theorem dL_law_950 : decode cL_law 950 = .ok (.iadd, 1) := by decide +kernel
theorem dL_law_951 : decode cL_law 951 = .ok (.iaload, 1) := by decide +kernel
theorem dL_law_952 : decode cL_law 952 = .ok (.aload_n 0, 1) := by decide +kernel
theorem dL_law_953 : decode cL_law 953 = .ok (.iload_n 3, 1) := by decide +kernel
theorem dL_law_954 : decode cL_law 954 = .ok (.iconst 2, 1) := by decide +kernel
theorem dL_law_955 : decode cL_law 955 = .ok (.iadd, 1) := by decide +kernel
theorem dL_law_956 : decode cL_law 956 = .ok (.iaload, 1) := by decide +kernel
theorem dL_law_957 : decode cL_law 957 = .ok (.aload_n 0, 1) := by decide +kernel
theorem dL_law_958 : decode cL_law 958 = .ok (.iload_n 3, 1) := by decide +kernel
theorem dL_law_959 : decode cL_law 959 = .ok (.iconst 3, 1) := by decide +kernel
theorem dL_law_960 : decode cL_law 960 = .ok (.iadd, 1) := by decide +kernel
theorem dL_law_961 : decode cL_law 961 = .ok (.iaload, 1) := by decide +kernel
theorem dL_law_962 : decode cL_law 962 = .ok (.ifCond .eq 7, 3) := by decide +kernel
theorem dL_law_965 : decode cL_law 965 = .ok (.iconst 1, 1) := by decide +kernel
theorem dL_law_966 : decode cL_law 966 = .ok (.goto 4, 3) := by decide +kernel
theorem dL_law_969 : decode cL_law 969 = .ok (.iconst 0, 1) := by decide +kernel
theorem dL_law_970 : decode cL_law 970 = .ok (.invokevirtual 127, 3) := by decide +kernel
theorem dL_law_973 : decode cL_law 973 = .ok (.if_icmp .eq 128, 3) := by decide +kernel
theorem dL_law_976 : decode cL_law 976 = .ok (.iconst 0, 1) := by decide +kernel
theorem dL_law_977 : decode cL_law 977 = .ok (.ireturn, 1) := by decide +kernel
theorem dL_law_978 : decode cL_law 978 = .ok (.aload_n 1, 1) := by decide +kernel
theorem dL_law_979 : decode cL_law 979 = .ok (.aload_n 0, 1) := by decide +kernel
theorem dL_law_980 : decode cL_law 980 = .ok (.iload_n 3, 1) := by decide +kernel
theorem dL_law_981 : decode cL_law 981 = .ok (.iconst 1, 1) := by decide +kernel
theorem dL_law_982 : decode cL_law 982 = .ok (.iadd, 1) := by decide +kernel
theorem dL_law_983 : decode cL_law 983 = .ok (.iaload, 1) := by decide +kernel
theorem dL_law_984 : decode cL_law 984 = .ok (.i2l, 1) := by decide +kernel
theorem dL_law_985 : decode cL_law 985 = .ok (.bipush 32, 2) := by decide +kernel
theorem dL_law_987 : decode cL_law 987 = .ok (.lshl, 1) := by decide +kernel
theorem dL_law_988 : decode cL_law 988 = .ok (.aload_n 0, 1) := by decide +kernel
theorem dL_law_989 : decode cL_law 989 = .ok (.iload_n 3, 1) := by decide +kernel
theorem dL_law_990 : decode cL_law 990 = .ok (.iconst 2, 1) := by decide +kernel
theorem dL_law_991 : decode cL_law 991 = .ok (.iadd, 1) := by decide +kernel
theorem dL_law_992 : decode cL_law 992 = .ok (.iaload, 1) := by decide +kernel
theorem dL_law_993 : decode cL_law 993 = .ok (.i2l, 1) := by decide +kernel
theorem dL_law_994 : decode cL_law 994 = .ok (.ldc2_w 98, 3) := by decide +kernel
theorem dL_law_997 : decode cL_law 997 = .ok (.land, 1) := by decide +kernel
theorem dL_law_998 : decode cL_law 998 = .ok (.lor, 1) := by decide +kernel
theorem dL_law_999 : decode cL_law 999 = .ok (.invokevirtual 128, 3) := by decide +kernel
theorem dL_law_1002 : decode cL_law 1002 = .ok (.aload_n 2, 1) := by decide +kernel
theorem dL_law_1003 : decode cL_law 1003 = .ok (.aload_n 0, 1) := by decide +kernel
theorem dL_law_1004 : decode cL_law 1004 = .ok (.iload_n 3, 1) := by decide +kernel
theorem dL_law_1005 : decode cL_law 1005 = .ok (.iconst 1, 1) := by decide +kernel
theorem dL_law_1006 : decode cL_law 1006 = .ok (.iadd, 1) := by decide +kernel
theorem dL_law_1007 : decode cL_law 1007 = .ok (.iaload, 1) := by decide +kernel
theorem dL_law_1008 : decode cL_law 1008 = .ok (.i2l, 1) := by decide +kernel
theorem dL_law_1009 : decode cL_law 1009 = .ok (.bipush 32, 2) := by decide +kernel
theorem dL_law_1011 : decode cL_law 1011 = .ok (.lshl, 1) := by decide +kernel
theorem dL_law_1012 : decode cL_law 1012 = .ok (.aload_n 0, 1) := by decide +kernel
theorem dL_law_1013 : decode cL_law 1013 = .ok (.iload_n 3, 1) := by decide +kernel
theorem dL_law_1014 : decode cL_law 1014 = .ok (.iconst 2, 1) := by decide +kernel
theorem dL_law_1015 : decode cL_law 1015 = .ok (.iadd, 1) := by decide +kernel
theorem dL_law_1016 : decode cL_law 1016 = .ok (.iaload, 1) := by decide +kernel
theorem dL_law_1017 : decode cL_law 1017 = .ok (.i2l, 1) := by decide +kernel
theorem dL_law_1018 : decode cL_law 1018 = .ok (.ldc2_w 98, 3) := by decide +kernel
theorem dL_law_1021 : decode cL_law 1021 = .ok (.land, 1) := by decide +kernel
theorem dL_law_1022 : decode cL_law 1022 = .ok (.lor, 1) := by decide +kernel
theorem dL_law_1023 : decode cL_law 1023 = .ok (.invokevirtual 132, 3) := by decide +kernel
theorem dL_law_1026 : decode cL_law 1026 = .ok (.lcmp, 1) := by decide +kernel
theorem dL_law_1027 : decode cL_law 1027 = .ok (.ifCond .eq 74, 3) := by decide +kernel
theorem dL_law_1030 : decode cL_law 1030 = .ok (.iconst 0, 1) := by decide +kernel
theorem dL_law_1031 : decode cL_law 1031 = .ok (.ireturn, 1) := by decide +kernel
theorem dL_law_1032 : decode cL_law 1032 = .ok (.aload_n 1, 1) := by decide +kernel
theorem dL_law_1033 : decode cL_law 1033 = .ok (.aload_n 0, 1) := by decide +kernel
theorem dL_law_1034 : decode cL_law 1034 = .ok (.iload_n 3, 1) := by decide +kernel
theorem dL_law_1035 : decode cL_law 1035 = .ok (.iconst 1, 1) := by decide +kernel
theorem dL_law_1036 : decode cL_law 1036 = .ok (.iadd, 1) := by decide +kernel
theorem dL_law_1037 : decode cL_law 1037 = .ok (.iaload, 1) := by decide +kernel
theorem dL_law_1038 : decode cL_law 1038 = .ok (.invokevirtual 133, 3) := by decide +kernel
theorem dL_law_1041 : decode cL_law 1041 = .ok (.aload_n 2, 1) := by decide +kernel
theorem dL_law_1042 : decode cL_law 1042 = .ok (.aload_n 0, 1) := by decide +kernel
theorem dL_law_1043 : decode cL_law 1043 = .ok (.iload_n 3, 1) := by decide +kernel
theorem dL_law_1044 : decode cL_law 1044 = .ok (.iconst 1, 1) := by decide +kernel
theorem dL_law_1045 : decode cL_law 1045 = .ok (.iadd, 1) := by decide +kernel
theorem dL_law_1046 : decode cL_law 1046 = .ok (.iaload, 1) := by decide +kernel
theorem dL_law_1047 : decode cL_law 1047 = .ok (.invokevirtual 136, 3) := by decide +kernel
theorem dL_law_1050 : decode cL_law 1050 = .ok (.if_icmp .eq 51, 3) := by decide +kernel
theorem dL_law_1053 : decode cL_law 1053 = .ok (.iconst 0, 1) := by decide +kernel
theorem dL_law_1054 : decode cL_law 1054 = .ok (.ireturn, 1) := by decide +kernel
theorem dL_law_1055 : decode cL_law 1055 = .ok (.aload_n 1, 1) := by decide +kernel
theorem dL_law_1056 : decode cL_law 1056 = .ok (.aload_n 0, 1) := by decide +kernel
theorem dL_law_1057 : decode cL_law 1057 = .ok (.iload_n 3, 1) := by decide +kernel
theorem dL_law_1058 : decode cL_law 1058 = .ok (.iconst 1, 1) := by decide +kernel
theorem dL_law_1059 : decode cL_law 1059 = .ok (.iadd, 1) := by decide +kernel
theorem dL_law_1060 : decode cL_law 1060 = .ok (.iaload, 1) := by decide +kernel
theorem dL_law_1061 : decode cL_law 1061 = .ok (.invokevirtual 137, 3) := by decide +kernel
theorem dL_law_1064 : decode cL_law 1064 = .ok (.aload_n 2, 1) := by decide +kernel
theorem dL_law_1065 : decode cL_law 1065 = .ok (.aload_n 0, 1) := by decide +kernel
theorem dL_law_1066 : decode cL_law 1066 = .ok (.iload_n 3, 1) := by decide +kernel
theorem dL_law_1067 : decode cL_law 1067 = .ok (.iconst 1, 1) := by decide +kernel
theorem dL_law_1068 : decode cL_law 1068 = .ok (.iadd, 1) := by decide +kernel
theorem dL_law_1069 : decode cL_law 1069 = .ok (.iaload, 1) := by decide +kernel
theorem dL_law_1070 : decode cL_law 1070 = .ok (.invokevirtual 140, 3) := by decide +kernel
theorem dL_law_1073 : decode cL_law 1073 = .ok (.if_icmp .eq 28, 3) := by decide +kernel
theorem dL_law_1076 : decode cL_law 1076 = .ok (.iconst 0, 1) := by decide +kernel
theorem dL_law_1077 : decode cL_law 1077 = .ok (.ireturn, 1) := by decide +kernel
theorem dL_law_1078 : decode cL_law 1078 = .ok (.aload_n 1, 1) := by decide +kernel
theorem dL_law_1079 : decode cL_law 1079 = .ok (.aload_n 0, 1) := by decide +kernel
theorem dL_law_1080 : decode cL_law 1080 = .ok (.iload_n 3, 1) := by decide +kernel
theorem dL_law_1081 : decode cL_law 1081 = .ok (.iconst 1, 1) := by decide +kernel
theorem dL_law_1082 : decode cL_law 1082 = .ok (.iadd, 1) := by decide +kernel
theorem dL_law_1083 : decode cL_law 1083 = .ok (.iaload, 1) := by decide +kernel
theorem dL_law_1084 : decode cL_law 1084 = .ok (.invokevirtual 141, 3) := by decide +kernel
theorem dL_law_1087 : decode cL_law 1087 = .ok (.aload_n 2, 1) := by decide +kernel
theorem dL_law_1088 : decode cL_law 1088 = .ok (.aload_n 0, 1) := by decide +kernel
theorem dL_law_1089 : decode cL_law 1089 = .ok (.iload_n 3, 1) := by decide +kernel
theorem dL_law_1090 : decode cL_law 1090 = .ok (.iconst 1, 1) := by decide +kernel
theorem dL_law_1091 : decode cL_law 1091 = .ok (.iadd, 1) := by decide +kernel
theorem dL_law_1092 : decode cL_law 1092 = .ok (.iaload, 1) := by decide +kernel
theorem dL_law_1093 : decode cL_law 1093 = .ok (.invokevirtual 144, 3) := by decide +kernel
theorem dL_law_1096 : decode cL_law 1096 = .ok (.if_icmp .eq 5, 3) := by decide +kernel
theorem dL_law_1099 : decode cL_law 1099 = .ok (.iconst 0, 1) := by decide +kernel
theorem dL_law_1100 : decode cL_law 1100 = .ok (.ireturn, 1) := by decide +kernel
theorem dL_law_1101 : decode cL_law 1101 = .ok (.iinc 3 6, 3) := by decide +kernel
theorem dL_law_1104 : decode cL_law 1104 = .ok (.goto (-1086), 3) := by decide +kernel
theorem dL_law_1107 : decode cL_law 1107 = .ok (.iconst 1, 1) := by decide +kernel
theorem dL_law_1108 : decode cL_law 1108 = .ok (.ireturn, 1) := by decide +kernel
