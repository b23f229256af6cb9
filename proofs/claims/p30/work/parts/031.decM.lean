theorem dX10_init_0 : decode cX10_init 0 = .ok (.aload_n 0, 1) := by decide +kernel
theorem dX10_init_1 : decode cX10_init 1 = .ok (.invokespecial 1, 3) := by decide +kernel
theorem dX10_init_4 : decode cX10_init 4 = .ok (.aload_n 0, 1) := by decide +kernel
theorem dX10_init_5 : decode cX10_init 5 = .ok (.bipush 24, 2) := by decide +kernel
theorem dX10_init_7 : decode cX10_init 7 = .ok (.newarray .int, 2) := by decide +kernel
theorem dX10_init_9 : decode cX10_init 9 = .ok (.putfield 7, 3) := by decide +kernel
theorem dX10_init_12 : decode cX10_init 12 = .ok (.aload_n 0, 1) := by decide +kernel
theorem dX10_init_13 : decode cX10_init 13 = .ok (.bipush 24, 2) := by decide +kernel
theorem dX10_init_15 : decode cX10_init 15 = .ok (.newarray .int, 2) := by decide +kernel
theorem dX10_init_17 : decode cX10_init 17 = .ok (.putfield 13, 3) := by decide +kernel
theorem dX10_init_20 : decode cX10_init 20 = .ok (.aload_n 0, 1) := by decide +kernel
theorem dX10_init_21 : decode cX10_init 21 = .ok (.bipush 24, 2) := by decide +kernel
theorem dX10_init_23 : decode cX10_init 23 = .ok (.newarray .int, 2) := by decide +kernel
theorem dX10_init_25 : decode cX10_init 25 = .ok (.putfield 16, 3) := by decide +kernel
theorem dX10_init_28 : decode cX10_init 28 = .ok (.aload_n 0, 1) := by decide +kernel
theorem dX10_init_29 : decode cX10_init 29 = .ok (.bipush 24, 2) := by decide +kernel
theorem dX10_init_31 : decode cX10_init 31 = .ok (.newarray .int, 2) := by decide +kernel
theorem dX10_init_33 : decode cX10_init 33 = .ok (.putfield 19, 3) := by decide +kernel
theorem dX10_init_36 : decode cX10_init 36 = .ok (.aload_n 0, 1) := by decide +kernel
theorem dX10_init_37 : decode cX10_init 37 = .ok (.bipush 24, 2) := by decide +kernel
theorem dX10_init_39 : decode cX10_init 39 = .ok (.newarray .boolean, 2) := by decide +kernel
theorem dX10_init_41 : decode cX10_init 41 = .ok (.putfield 22, 3) := by decide +kernel
theorem dX10_init_44 : decode cX10_init 44 = .ok (.aload_n 0, 1) := by decide +kernel
theorem dX10_init_45 : decode cX10_init 45 = .ok (.bipush 24, 2) := by decide +kernel
theorem dX10_init_47 : decode cX10_init 47 = .ok (.newarray .int, 2) := by decide +kernel
theorem dX10_init_49 : decode cX10_init 49 = .ok (.putfield 26, 3) := by decide +kernel
theorem dX10_init_52 : decode cX10_init 52 = .ok (.aload_n 0, 1) := by decide +kernel
theorem dX10_init_53 : decode cX10_init 53 = .ok (.bipush 8, 2) := by decide +kernel
theorem dX10_init_55 : decode cX10_init 55 = .ok (.newarray .boolean, 2) := by decide +kernel
theorem dX10_init_57 : decode cX10_init 57 = .ok (.putfield 29, 3) := by decide +kernel
theorem dX10_init_60 : decode cX10_init 60 = .ok (.aload_n 0, 1) := by decide +kernel
theorem dX10_init_61 : decode cX10_init 61 = .ok (.iconst (-1), 1) := by decide +kernel
theorem dX10_init_62 : decode cX10_init 62 = .ok (.putfield 32, 3) := by decide +kernel
theorem dX10_init_65 : decode cX10_init 65 = .ok (.aload_n 0, 1) := by decide +kernel
theorem dX10_init_66 : decode cX10_init 66 = .ok (.bipush 24, 2) := by decide +kernel
theorem dX10_init_68 : decode cX10_init 68 = .ok (.newarray .int, 2) := by decide +kernel
theorem dX10_init_70 : decode cX10_init 70 = .ok (.putfield 36, 3) := by decide +kernel
theorem dX10_init_73 : decode cX10_init 73 = .ok (.aload_n 0, 1) := by decide +kernel
theorem dX10_init_74 : decode cX10_init 74 = .ok (.bipush 24, 2) := by decide +kernel
theorem dX10_init_76 : decode cX10_init 76 = .ok (.newarray .boolean, 2) := by decide +kernel
theorem dX10_init_78 : decode cX10_init 78 = .ok (.putfield 39, 3) := by decide +kernel
theorem dX10_init_81 : decode cX10_init 81 = .ok (.aload_n 0, 1) := by decide +kernel
theorem dX10_init_82 : decode cX10_init 82 = .ok (.bipush 24, 2) := by decide +kernel
theorem dX10_init_84 : decode cX10_init 84 = .ok (.newarray .int, 2) := by decide +kernel
theorem dX10_init_86 : decode cX10_init 86 = .ok (.putfield 42, 3) := by decide +kernel
theorem dX10_init_89 : decode cX10_init 89 = .ok (.aload_n 0, 1) := by decide +kernel
theorem dX10_init_90 : decode cX10_init 90 = .ok (.bipush 24, 2) := by decide +kernel
theorem dX10_init_92 : decode cX10_init 92 = .ok (.newarray .int, 2) := by decide +kernel
theorem dX10_init_94 : decode cX10_init 94 = .ok (.putfield 45, 3) := by decide +kernel
theorem dX10_init_97 : decode cX10_init 97 = .ok (.aload_n 0, 1) := by decide +kernel
theorem dX10_init_98 : decode cX10_init 98 = .ok (.bipush 24, 2) := by decide +kernel
theorem dX10_init_100 : decode cX10_init 100 = .ok (.newarray .int, 2) := by decide +kernel
theorem dX10_init_102 : decode cX10_init 102 = .ok (.putfield 48, 3) := by decide +kernel
theorem dX10_init_105 : decode cX10_init 105 = .ok (.aload_n 0, 1) := by decide +kernel
theorem dX10_init_106 : decode cX10_init 106 = .ok (.sipush 4800, 3) := by decide +kernel
theorem dX10_init_109 : decode cX10_init 109 = .ok (.newarray .int, 2) := by decide +kernel
theorem dX10_init_111 : decode cX10_init 111 = .ok (.putfield 51, 3) := by decide +kernel
theorem dX10_init_114 : decode cX10_init 114 = .ok (.aload_n 0, 1) := by decide +kernel
theorem dX10_init_115 : decode cX10_init 115 = .ok (.sipush 576, 3) := by decide +kernel
theorem dX10_init_118 : decode cX10_init 118 = .ok (.newarray .int, 2) := by decide +kernel
theorem dX10_init_120 : decode cX10_init 120 = .ok (.putfield 54, 3) := by decide +kernel
theorem dX10_init_123 : decode cX10_init 123 = .ok (.aload_n 0, 1) := by decide +kernel
theorem dX10_init_124 : decode cX10_init 124 = .ok (.sipush 576, 3) := by decide +kernel
theorem dX10_init_127 : decode cX10_init 127 = .ok (.newarray .int, 2) := by decide +kernel
theorem dX10_init_129 : decode cX10_init 129 = .ok (.putfield 57, 3) := by decide +kernel
theorem dX10_init_132 : decode cX10_init 132 = .ok (.aload_n 0, 1) := by decide +kernel
theorem dX10_init_133 : decode cX10_init 133 = .ok (.sipush 576, 3) := by decide +kernel
theorem dX10_init_136 : decode cX10_init 136 = .ok (.newarray .int, 2) := by decide +kernel
theorem dX10_init_138 : decode cX10_init 138 = .ok (.putfield 60, 3) := by decide +kernel
theorem dX10_init_141 : decode cX10_init 141 = .ok (.aload_n 0, 1) := by decide +kernel
theorem dX10_init_142 : decode cX10_init 142 = .ok (.sipush 400, 3) := by decide +kernel
theorem dX10_init_145 : decode cX10_init 145 = .ok (.newarray .int, 2) := by decide +kernel
theorem dX10_init_147 : decode cX10_init 147 = .ok (.putfield 63, 3) := by decide +kernel
theorem dX10_init_150 : decode cX10_init 150 = .ok (.aload_n 0, 1) := by decide +kernel
theorem dX10_init_151 : decode cX10_init 151 = .ok (.bipush 64, 2) := by decide +kernel
theorem dX10_init_153 : decode cX10_init 153 = .ok (.newarray .int, 2) := by decide +kernel
theorem dX10_init_155 : decode cX10_init 155 = .ok (.dup, 1) := by decide +kernel
theorem dX10_init_156 : decode cX10_init 156 = .ok (.iconst 0, 1) := by decide +kernel
theorem dX10_init_157 : decode cX10_init 157 = .ok (.bipush 32, 2) := by decide +kernel
theorem dX10_init_159 : decode cX10_init 159 = .ok (.iastore, 1) := by decide +kernel
theorem dX10_init_160 : decode cX10_init 160 = .ok (.dup, 1) := by decide +kernel
theorem dX10_init_161 : decode cX10_init 161 = .ok (.iconst 1, 1) := by decide +kernel
theorem dX10_init_162 : decode cX10_init 162 = .ok (.bipush 109, 2) := by decide +kernel
theorem dX10_init_164 : decode cX10_init 164 = .ok (.iastore, 1) := by decide +kernel
theorem dX10_init_165 : decode cX10_init 165 = .ok (.dup, 1) := by decide +kernel
theorem dX10_init_166 : decode cX10_init 166 = .ok (.iconst 2, 1) := by decide +kernel
theorem dX10_init_167 : decode cX10_init 167 = .ok (.bipush 97, 2) := by decide +kernel
theorem dX10_init_169 : decode cX10_init 169 = .ok (.iastore, 1) := by decide +kernel
theorem dX10_init_170 : decode cX10_init 170 = .ok (.dup, 1) := by decide +kernel
theorem dX10_init_171 : decode cX10_init 171 = .ok (.iconst 3, 1) := by decide +kernel
theorem dX10_init_172 : decode cX10_init 172 = .ok (.bipush 114, 2) := by decide +kernel
theorem dX10_init_174 : decode cX10_init 174 = .ok (.iastore, 1) := by decide +kernel
theorem dX10_init_175 : decode cX10_init 175 = .ok (.dup, 1) := by decide +kernel
theorem dX10_init_176 : decode cX10_init 176 = .ok (.iconst 4, 1) := by decide +kernel
theorem dX10_init_177 : decode cX10_init 177 = .ok (.bipush 107, 2) := by decide +kernel
theorem dX10_init_179 : decode cX10_init 179 = .ok (.iastore, 1) := by decide +kernel
theorem dX10_init_180 : decode cX10_init 180 = .ok (.dup, 1) := by decide +kernel
theorem dX10_init_181 : decode cX10_init 181 = .ok (.iconst 5, 1) := by decide +kernel
theorem dX10_init_182 : decode cX10_init 182 = .ok (.bipush 115, 2) := by decide +kernel
theorem dX10_init_184 : decode cX10_init 184 = .ok (.iastore, 1) := by decide +kernel
theorem dX10_init_185 : decode cX10_init 185 = .ok (.dup, 1) := by decide +kernel
theorem dX10_init_186 : decode cX10_init 186 = .ok (.bipush 6, 2) := by decide +kernel
theorem dX10_init_188 : decode cX10_init 188 = .ok (.bipush 32, 2) := by decide +kernel
theorem dX10_init_190 : decode cX10_init 190 = .ok (.iastore, 1) := by decide +kernel
theorem dX10_init_191 : decode cX10_init 191 = .ok (.dup, 1) := by decide +kernel
theorem dX10_init_192 : decode cX10_init 192 = .ok (.bipush 7, 2) := by decide +kernel
theorem dX10_init_194 : decode cX10_init 194 = .ok (.bipush 119, 2) := by decide +kernel
theorem dX10_init_196 : decode cX10_init 196 = .ok (.iastore, 1) := by decide +kernel
theorem dX10_init_197 : decode cX10_init 197 = .ok (.dup, 1) := by decide +kernel
theorem dX10_init_198 : decode cX10_init 198 = .ok (.bipush 8, 2) := by decide +kernel
theorem dX10_init_200 : decode cX10_init 200 = .ok (.bipush 104, 2) := by decide +kernel
theorem dX10_init_202 : decode cX10_init 202 = .ok (.iastore, 1) := by decide +kernel
theorem dX10_init_203 : decode cX10_init 203 = .ok (.dup, 1) := by decide +kernel
theorem dX10_init_204 : decode cX10_init 204 = .ok (.bipush 9, 2) := by decide +kernel
theorem dX10_init_206 : decode cX10_init 206 = .ok (.bipush 101, 2) := by decide +kernel
theorem dX10_init_208 : decode cX10_init 208 = .ok (.iastore, 1) := by decide +kernel
theorem dX10_init_209 : decode cX10_init 209 = .ok (.dup, 1) := by decide +kernel
theorem dX10_init_210 : decode cX10_init 210 = .ok (.bipush 10, 2) := by decide +kernel
theorem dX10_init_212 : decode cX10_init 212 = .ok (.bipush 110, 2) := by decide +kernel
theorem dX10_init_214 : decode cX10_init 214 = .ok (.iastore, 1) := by decide +kernel
theorem dX10_init_215 : decode cX10_init 215 = .ok (.dup, 1) := by decide +kernel
theorem dX10_init_216 : decode cX10_init 216 = .ok (.bipush 11, 2) := by decide +kernel
theorem dX10_init_218 : decode cX10_init 218 = .ok (.bipush 32, 2) := by decide +kernel
theorem dX10_init_220 : decode cX10_init 220 = .ok (.iastore, 1) := by decide +kernel
theorem dX10_init_221 : decode cX10_init 221 = .ok (.dup, 1) := by decide +kernel
theorem dX10_init_222 : decode cX10_init 222 = .ok (.bipush 12, 2) := by decide +kernel
theorem dX10_init_224 : decode cX10_init 224 = .ok (.bipush 117, 2) := by decide +kernel
theorem dX10_init_226 : decode cX10_init 226 = .ok (.iastore, 1) := by decide +kernel
theorem dX10_init_227 : decode cX10_init 227 = .ok (.dup, 1) := by decide +kernel
theorem dX10_init_228 : decode cX10_init 228 = .ok (.bipush 13, 2) := by decide +kernel
theorem dX10_init_230 : decode cX10_init 230 = .ok (.bipush 110, 2) := by decide +kernel
theorem dX10_init_232 : decode cX10_init 232 = .ok (.iastore, 1) := by decide +kernel
theorem dX10_init_233 : decode cX10_init 233 = .ok (.dup, 1) := by decide +kernel
theorem dX10_init_234 : decode cX10_init 234 = .ok (.bipush 14, 2) := by decide +kernel
theorem dX10_init_236 : decode cX10_init 236 = .ok (.bipush 108, 2) := by decide +kernel
theorem dX10_init_238 : decode cX10_init 238 = .ok (.iastore, 1) := by decide +kernel
theorem dX10_init_239 : decode cX10_init 239 = .ok (.dup, 1) := by decide +kernel
theorem dX10_init_240 : decode cX10_init 240 = .ok (.bipush 15, 2) := by decide +kernel
theorem dX10_init_242 : decode cX10_init 242 = .ok (.bipush 101, 2) := by decide +kernel
theorem dX10_init_244 : decode cX10_init 244 = .ok (.iastore, 1) := by decide +kernel
theorem dX10_init_245 : decode cX10_init 245 = .ok (.dup, 1) := by decide +kernel
theorem dX10_init_246 : decode cX10_init 246 = .ok (.bipush 16, 2) := by decide +kernel
theorem dX10_init_248 : decode cX10_init 248 = .ok (.bipush 115, 2) := by decide +kernel
theorem dX10_init_250 : decode cX10_init 250 = .ok (.iastore, 1) := by decide +kernel
theorem dX10_init_251 : decode cX10_init 251 = .ok (.dup, 1) := by decide +kernel
theorem dX10_init_252 : decode cX10_init 252 = .ok (.bipush 17, 2) := by decide +kernel
theorem dX10_init_254 : decode cX10_init 254 = .ok (.bipush 115, 2) := by decide +kernel
theorem dX10_init_256 : decode cX10_init 256 = .ok (.iastore, 1) := by decide +kernel
theorem dX10_init_257 : decode cX10_init 257 = .ok (.dup, 1) := by decide +kernel
theorem dX10_init_258 : decode cX10_init 258 = .ok (.bipush 18, 2) := by decide +kernel
theorem dX10_init_260 : decode cX10_init 260 = .ok (.bipush 32, 2) := by decide +kernel
theorem dX10_init_262 : decode cX10_init 262 = .ok (.iastore, 1) := by decide +kernel
theorem dX10_init_263 : decode cX10_init 263 = .ok (.dup, 1) := by decide +kernel
theorem dX10_init_264 : decode cX10_init 264 = .ok (.bipush 19, 2) := by decide +kernel
theorem dX10_init_266 : decode cX10_init 266 = .ok (.bipush 111, 2) := by decide +kernel
theorem dX10_init_268 : decode cX10_init 268 = .ok (.iastore, 1) := by decide +kernel
theorem dX10_init_269 : decode cX10_init 269 = .ok (.dup, 1) := by decide +kernel
theorem dX10_init_270 : decode cX10_init 270 = .ok (.bipush 20, 2) := by decide +kernel
theorem dX10_init_272 : decode cX10_init 272 = .ok (.bipush 114, 2) := by decide +kernel
theorem dX10_init_274 : decode cX10_init 274 = .ok (.iastore, 1) := by decide +kernel
theorem dX10_init_275 : decode cX10_init 275 = .ok (.dup, 1) := by decide +kernel
theorem dX10_init_276 : decode cX10_init 276 = .ok (.bipush 21, 2) := by decide +kernel
theorem dX10_init_278 : decode cX10_init 278 = .ok (.bipush 32, 2) := by decide +kernel
theorem dX10_init_280 : decode cX10_init 280 = .ok (.iastore, 1) := by decide +kernel
theorem dX10_init_281 : decode cX10_init 281 = .ok (.dup, 1) := by decide +kernel
theorem dX10_init_282 : decode cX10_init 282 = .ok (.bipush 22, 2) := by decide +kernel
theorem dX10_init_284 : decode cX10_init 284 = .ok (.bipush 97, 2) := by decide +kernel
theorem dX10_init_286 : decode cX10_init 286 = .ok (.iastore, 1) := by decide +kernel
theorem dX10_init_287 : decode cX10_init 287 = .ok (.dup, 1) := by decide +kernel
theorem dX10_init_288 : decode cX10_init 288 = .ok (.bipush 23, 2) := by decide +kernel
theorem dX10_init_290 : decode cX10_init 290 = .ok (.bipush 110, 2) := by decide +kernel
theorem dX10_init_292 : decode cX10_init 292 = .ok (.iastore, 1) := by decide +kernel
theorem dX10_init_293 : decode cX10_init 293 = .ok (.dup, 1) := by decide +kernel
theorem dX10_init_294 : decode cX10_init 294 = .ok (.bipush 24, 2) := by decide +kernel
theorem dX10_init_296 : decode cX10_init 296 = .ok (.bipush 100, 2) := by decide +kernel
theorem dX10_init_298 : decode cX10_init 298 = .ok (.iastore, 1) := by decide +kernel
theorem dX10_init_299 : decode cX10_init 299 = .ok (.dup, 1) := by decide +kernel
theorem dX10_init_300 : decode cX10_init 300 = .ok (.bipush 25, 2) := by decide +kernel
theorem dX10_init_302 : decode cX10_init 302 = .ok (.bipush 32, 2) := by decide +kernel
theorem dX10_init_304 : decode cX10_init 304 = .ok (.iastore, 1) := by decide +kernel
theorem dX10_init_305 : decode cX10_init 305 = .ok (.dup, 1) := by decide +kernel
theorem dX10_init_306 : decode cX10_init 306 = .ok (.bipush 26, 2) := by decide +kernel
theorem dX10_init_308 : decode cX10_init 308 = .ok (.bipush 110, 2) := by decide +kernel
theorem dX10_init_310 : decode cX10_init 310 = .ok (.iastore, 1) := by decide +kernel
theorem dX10_init_311 : decode cX10_init 311 = .ok (.dup, 1) := by decide +kernel
theorem dX10_init_312 : decode cX10_init 312 = .ok (.bipush 27, 2) := by decide +kernel
theorem dX10_init_314 : decode cX10_init 314 = .ok (.bipush 111, 2) := by decide +kernel
theorem dX10_init_316 : decode cX10_init 316 = .ok (.iastore, 1) := by decide +kernel
theorem dX10_init_317 : decode cX10_init 317 = .ok (.dup, 1) := by decide +kernel
theorem dX10_init_318 : decode cX10_init 318 = .ok (.bipush 28, 2) := by decide +kernel
theorem dX10_init_320 : decode cX10_init 320 = .ok (.bipush 116, 2) := by decide +kernel
theorem dX10_init_322 : decode cX10_init 322 = .ok (.iastore, 1) := by decide +kernel
theorem dX10_init_323 : decode cX10_init 323 = .ok (.dup, 1) := by decide +kernel
theorem dX10_init_324 : decode cX10_init 324 = .ok (.bipush 29, 2) := by decide +kernel
theorem dX10_init_326 : decode cX10_init 326 = .ok (.bipush 32, 2) := by decide +kernel
theorem dX10_init_328 : decode cX10_init 328 = .ok (.iastore, 1) := by decide +kernel
theorem dX10_init_329 : decode cX10_init 329 = .ok (.dup, 1) := by decide +kernel
theorem dX10_init_330 : decode cX10_init 330 = .ok (.bipush 30, 2) := by decide +kernel
theorem dX10_init_332 : decode cX10_init 332 = .ok (.bipush 104, 2) := by decide +kernel
theorem dX10_init_334 : decode cX10_init 334 = .ok (.iastore, 1) := by decide +kernel
theorem dX10_init_335 : decode cX10_init 335 = .ok (.dup, 1) := by decide +kernel
theorem dX10_init_336 : decode cX10_init 336 = .ok (.bipush 31, 2) := by decide +kernel
theorem dX10_init_338 : decode cX10_init 338 = .ok (.bipush 97, 2) := by decide +kernel
theorem dX10_init_340 : decode cX10_init 340 = .ok (.iastore, 1) := by decide +kernel
theorem dX10_init_341 : decode cX10_init 341 = .ok (.dup, 1) := by decide +kernel
theorem dX10_init_342 : decode cX10_init 342 = .ok (.bipush 32, 2) := by decide +kernel
theorem dX10_init_344 : decode cX10_init 344 = .ok (.bipush 114, 2) := by decide +kernel
theorem dX10_init_346 : decode cX10_init 346 = .ok (.iastore, 1) := by decide +kernel
theorem dX10_init_347 : decode cX10_init 347 = .ok (.dup, 1) := by decide +kernel
theorem dX10_init_348 : decode cX10_init 348 = .ok (.bipush 33, 2) := by decide +kernel
theorem dX10_init_350 : decode cX10_init 350 = .ok (.bipush 109, 2) := by decide +kernel
theorem dX10_init_352 : decode cX10_init 352 = .ok (.iastore, 1) := by decide +kernel
theorem dX10_init_353 : decode cX10_init 353 = .ok (.dup, 1) := by decide +kernel
theorem dX10_init_354 : decode cX10_init 354 = .ok (.bipush 34, 2) := by decide +kernel
theorem dX10_init_356 : decode cX10_init 356 = .ok (.bipush 32, 2) := by decide +kernel
theorem dX10_init_358 : decode cX10_init 358 = .ok (.iastore, 1) := by decide +kernel
theorem dX10_init_359 : decode cX10_init 359 = .ok (.dup, 1) := by decide +kernel
theorem dX10_init_360 : decode cX10_init 360 = .ok (.bipush 35, 2) := by decide +kernel
theorem dX10_init_362 : decode cX10_init 362 = .ok (.bipush 119, 2) := by decide +kernel
theorem dX10_init_364 : decode cX10_init 364 = .ok (.iastore, 1) := by decide +kernel
theorem dX10_init_365 : decode cX10_init 365 = .ok (.dup, 1) := by decide +kernel
theorem dX10_init_366 : decode cX10_init 366 = .ok (.bipush 36, 2) := by decide +kernel
theorem dX10_init_368 : decode cX10_init 368 = .ok (.bipush 105, 2) := by decide +kernel
theorem dX10_init_370 : decode cX10_init 370 = .ok (.iastore, 1) := by decide +kernel
theorem dX10_init_371 : decode cX10_init 371 = .ok (.dup, 1) := by decide +kernel
theorem dX10_init_372 : decode cX10_init 372 = .ok (.bipush 37, 2) := by decide +kernel
theorem dX10_init_374 : decode cX10_init 374 = .ok (.bipush 116, 2) := by decide +kernel
theorem dX10_init_376 : decode cX10_init 376 = .ok (.iastore, 1) := by decide +kernel
theorem dX10_init_377 : decode cX10_init 377 = .ok (.dup, 1) := by decide +kernel
theorem dX10_init_378 : decode cX10_init 378 = .ok (.bipush 38, 2) := by decide +kernel
theorem dX10_init_380 : decode cX10_init 380 = .ok (.bipush 110, 2) := by decide +kernel
theorem dX10_init_382 : decode cX10_init 382 = .ok (.iastore, 1) := by decide +kernel
theorem dX10_init_383 : decode cX10_init 383 = .ok (.dup, 1) := by decide +kernel
theorem dX10_init_384 : decode cX10_init 384 = .ok (.bipush 39, 2) := by decide +kernel
theorem dX10_init_386 : decode cX10_init 386 = .ok (.bipush 101, 2) := by decide +kernel
theorem dX10_init_388 : decode cX10_init 388 = .ok (.iastore, 1) := by decide +kernel
theorem dX10_init_389 : decode cX10_init 389 = .ok (.dup, 1) := by decide +kernel
theorem dX10_init_390 : decode cX10_init 390 = .ok (.bipush 40, 2) := by decide +kernel
theorem dX10_init_392 : decode cX10_init 392 = .ok (.bipush 115, 2) := by decide +kernel
theorem dX10_init_394 : decode cX10_init 394 = .ok (.iastore, 1) := by decide +kernel
theorem dX10_init_395 : decode cX10_init 395 = .ok (.dup, 1) := by decide +kernel
theorem dX10_init_396 : decode cX10_init 396 = .ok (.bipush 41, 2) := by decide +kernel
theorem dX10_init_398 : decode cX10_init 398 = .ok (.bipush 115, 2) := by decide +kernel
theorem dX10_init_400 : decode cX10_init 400 = .ok (.iastore, 1) := by decide +kernel
theorem dX10_init_401 : decode cX10_init 401 = .ok (.dup, 1) := by decide +kernel
theorem dX10_init_402 : decode cX10_init 402 = .ok (.bipush 42, 2) := by decide +kernel
theorem dX10_init_404 : decode cX10_init 404 = .ok (.bipush 101, 2) := by decide +kernel
theorem dX10_init_406 : decode cX10_init 406 = .ok (.iastore, 1) := by decide +kernel
theorem dX10_init_407 : decode cX10_init 407 = .ok (.dup, 1) := by decide +kernel
theorem dX10_init_408 : decode cX10_init 408 = .ok (.bipush 43, 2) := by decide +kernel
theorem dX10_init_410 : decode cX10_init 410 = .ok (.bipush 115, 2) := by decide +kernel
theorem dX10_init_412 : decode cX10_init 412 = .ok (.iastore, 1) := by decide +kernel
theorem dX10_init_413 : decode cX10_init 413 = .ok (.dup, 1) := by decide +kernel
theorem dX10_init_414 : decode cX10_init 414 = .ok (.bipush 44, 2) := by decide +kernel
theorem dX10_init_416 : decode cX10_init 416 = .ok (.bipush 32, 2) := by decide +kernel
theorem dX10_init_418 : decode cX10_init 418 = .ok (.iastore, 1) := by decide +kernel
theorem dX10_init_419 : decode cX10_init 419 = .ok (.dup, 1) := by decide +kernel
theorem dX10_init_420 : decode cX10_init 420 = .ok (.bipush 45, 2) := by decide +kernel
theorem dX10_init_422 : decode cX10_init 422 = .ok (.bipush 121, 2) := by decide +kernel
theorem dX10_init_424 : decode cX10_init 424 = .ok (.iastore, 1) := by decide +kernel
theorem dX10_init_425 : decode cX10_init 425 = .ok (.dup, 1) := by decide +kernel
theorem dX10_init_426 : decode cX10_init 426 = .ok (.bipush 46, 2) := by decide +kernel
theorem dX10_init_428 : decode cX10_init 428 = .ok (.bipush 101, 2) := by decide +kernel
theorem dX10_init_430 : decode cX10_init 430 = .ok (.iastore, 1) := by decide +kernel
theorem dX10_init_431 : decode cX10_init 431 = .ok (.dup, 1) := by decide +kernel
theorem dX10_init_432 : decode cX10_init 432 = .ok (.bipush 47, 2) := by decide +kernel
theorem dX10_init_434 : decode cX10_init 434 = .ok (.bipush 97, 2) := by decide +kernel
theorem dX10_init_436 : decode cX10_init 436 = .ok (.iastore, 1) := by decide +kernel
theorem dX10_init_437 : decode cX10_init 437 = .ok (.dup, 1) := by decide +kernel
theorem dX10_init_438 : decode cX10_init 438 = .ok (.bipush 48, 2) := by decide +kernel
theorem dX10_init_440 : decode cX10_init 440 = .ok (.bipush 114, 2) := by decide +kernel
theorem dX10_init_442 : decode cX10_init 442 = .ok (.iastore, 1) := by decide +kernel
theorem dX10_init_443 : decode cX10_init 443 = .ok (.dup, 1) := by decide +kernel
theorem dX10_init_444 : decode cX10_init 444 = .ok (.bipush 49, 2) := by decide +kernel
theorem dX10_init_446 : decode cX10_init 446 = .ok (.bipush 115, 2) := by decide +kernel
theorem dX10_init_448 : decode cX10_init 448 = .ok (.iastore, 1) := by decide +kernel
theorem dX10_init_449 : decode cX10_init 449 = .ok (.dup, 1) := by decide +kernel
theorem dX10_init_450 : decode cX10_init 450 = .ok (.bipush 50, 2) := by decide +kernel
theorem dX10_init_452 : decode cX10_init 452 = .ok (.bipush 32, 2) := by decide +kernel
theorem dX10_init_454 : decode cX10_init 454 = .ok (.iastore, 1) := by decide +kernel
theorem dX10_init_455 : decode cX10_init 455 = .ok (.dup, 1) := by decide +kernel
theorem dX10_init_456 : decode cX10_init 456 = .ok (.bipush 51, 2) := by decide +kernel
theorem dX10_init_458 : decode cX10_init 458 = .ok (.bipush 107, 2) := by decide +kernel
theorem dX10_init_460 : decode cX10_init 460 = .ok (.iastore, 1) := by decide +kernel
theorem dX10_init_461 : decode cX10_init 461 = .ok (.dup, 1) := by decide +kernel
theorem dX10_init_462 : decode cX10_init 462 = .ok (.bipush 52, 2) := by decide +kernel
theorem dX10_init_464 : decode cX10_init 464 = .ok (.bipush 105, 2) := by decide +kernel
theorem dX10_init_466 : decode cX10_init 466 = .ok (.iastore, 1) := by decide +kernel
theorem dX10_init_467 : decode cX10_init 467 = .ok (.dup, 1) := by decide +kernel
theorem dX10_init_468 : decode cX10_init 468 = .ok (.bipush 53, 2) := by decide +kernel
theorem dX10_init_470 : decode cX10_init 470 = .ok (.bipush 110, 2) := by decide +kernel
theorem dX10_init_472 : decode cX10_init 472 = .ok (.iastore, 1) := by decide +kernel
theorem dX10_init_473 : decode cX10_init 473 = .ok (.dup, 1) := by decide +kernel
theorem dX10_init_474 : decode cX10_init 474 = .ok (.bipush 54, 2) := by decide +kernel
theorem dX10_init_476 : decode cX10_init 476 = .ok (.bipush 32, 2) := by decide +kernel
theorem dX10_init_478 : decode cX10_init 478 = .ok (.iastore, 1) := by decide +kernel
theorem dX10_init_479 : decode cX10_init 479 = .ok (.dup, 1) := by decide +kernel
theorem dX10_init_480 : decode cX10_init 480 = .ok (.bipush 55, 2) := by decide +kernel
theorem dX10_init_482 : decode cX10_init 482 = .ok (.bipush 97, 2) := by decide +kernel
theorem dX10_init_484 : decode cX10_init 484 = .ok (.iastore, 1) := by decide +kernel
theorem dX10_init_485 : decode cX10_init 485 = .ok (.dup, 1) := by decide +kernel
theorem dX10_init_486 : decode cX10_init 486 = .ok (.bipush 56, 2) := by decide +kernel
theorem dX10_init_488 : decode cX10_init 488 = .ok (.bipush 103, 2) := by decide +kernel
theorem dX10_init_490 : decode cX10_init 490 = .ok (.iastore, 1) := by decide +kernel
theorem dX10_init_491 : decode cX10_init 491 = .ok (.dup, 1) := by decide +kernel
theorem dX10_init_492 : decode cX10_init 492 = .ok (.bipush 57, 2) := by decide +kernel
theorem dX10_init_494 : decode cX10_init 494 = .ok (.bipush 101, 2) := by decide +kernel
theorem dX10_init_496 : decode cX10_init 496 = .ok (.iastore, 1) := by decide +kernel
theorem dX10_init_497 : decode cX10_init 497 = .ok (.dup, 1) := by decide +kernel
theorem dX10_init_498 : decode cX10_init 498 = .ok (.bipush 58, 2) := by decide +kernel
theorem dX10_init_500 : decode cX10_init 500 = .ok (.bipush 32, 2) := by decide +kernel
theorem dX10_init_502 : decode cX10_init 502 = .ok (.iastore, 1) := by decide +kernel
theorem dX10_init_503 : decode cX10_init 503 = .ok (.dup, 1) := by decide +kernel
theorem dX10_init_504 : decode cX10_init 504 = .ok (.bipush 59, 2) := by decide +kernel
theorem dX10_init_506 : decode cX10_init 506 = .ok (.bipush 108, 2) := by decide +kernel
theorem dX10_init_508 : decode cX10_init 508 = .ok (.iastore, 1) := by decide +kernel
theorem dX10_init_509 : decode cX10_init 509 = .ok (.dup, 1) := by decide +kernel
theorem dX10_init_510 : decode cX10_init 510 = .ok (.bipush 60, 2) := by decide +kernel
theorem dX10_init_512 : decode cX10_init 512 = .ok (.bipush 105, 2) := by decide +kernel
theorem dX10_init_514 : decode cX10_init 514 = .ok (.iastore, 1) := by decide +kernel
theorem dX10_init_515 : decode cX10_init 515 = .ok (.dup, 1) := by decide +kernel
theorem dX10_init_516 : decode cX10_init 516 = .ok (.bipush 61, 2) := by decide +kernel
theorem dX10_init_518 : decode cX10_init 518 = .ok (.bipush 110, 2) := by decide +kernel
theorem dX10_init_520 : decode cX10_init 520 = .ok (.iastore, 1) := by decide +kernel
theorem dX10_init_521 : decode cX10_init 521 = .ok (.dup, 1) := by decide +kernel
theorem dX10_init_522 : decode cX10_init 522 = .ok (.bipush 62, 2) := by decide +kernel
theorem dX10_init_524 : decode cX10_init 524 = .ok (.bipush 101, 2) := by decide +kernel
theorem dX10_init_526 : decode cX10_init 526 = .ok (.iastore, 1) := by decide +kernel
theorem dX10_init_527 : decode cX10_init 527 = .ok (.dup, 1) := by decide +kernel
theorem dX10_init_528 : decode cX10_init 528 = .ok (.bipush 63, 2) := by decide +kernel
theorem dX10_init_530 : decode cX10_init 530 = .ok (.bipush 32, 2) := by decide +kernel
theorem dX10_init_532 : decode cX10_init 532 = .ok (.iastore, 1) := by decide +kernel
theorem dX10_init_533 : decode cX10_init 533 = .ok (.putfield 66, 3) := by decide +kernel
theorem dX10_init_536 : decode cX10_init 536 = .ok (.aload_n 0, 1) := by decide +kernel
theorem dX10_init_537 : decode cX10_init 537 = .ok (.sipush 12800, 3) := by decide +kernel
theorem dX10_init_540 : decode cX10_init 540 = .ok (.newarray .int, 2) := by decide +kernel
theorem dX10_init_542 : decode cX10_init 542 = .ok (.putfield 69, 3) := by decide +kernel
theorem dX10_init_545 : decode cX10_init 545 = .ok (.aload_n 0, 1) := by decide +kernel
theorem dX10_init_546 : decode cX10_init 546 = .ok (.bipush 32, 2) := by decide +kernel
theorem dX10_init_548 : decode cX10_init 548 = .ok (.newarray .int, 2) := by decide +kernel
theorem dX10_init_550 : decode cX10_init 550 = .ok (.putfield 72, 3) := by decide +kernel
theorem dX10_init_553 : decode cX10_init 553 = .ok (.aload_n 0, 1) := by decide +kernel
theorem dX10_init_554 : decode cX10_init 554 = .ok (.sipush 12800, 3) := by decide +kernel
theorem dX10_init_557 : decode cX10_init 557 = .ok (.newarray .int, 2) := by decide +kernel
theorem dX10_init_559 : decode cX10_init 559 = .ok (.putfield 75, 3) := by decide +kernel
theorem dX10_init_562 : decode cX10_init 562 = .ok (.aload_n 0, 1) := by decide +kernel
theorem dX10_init_563 : decode cX10_init 563 = .ok (.sipush 12800, 3) := by decide +kernel
theorem dX10_init_566 : decode cX10_init 566 = .ok (.newarray .int, 2) := by decide +kernel
theorem dX10_init_568 : decode cX10_init 568 = .ok (.putfield 78, 3) := by decide +kernel
theorem dX10_init_571 : decode cX10_init 571 = .ok (.aload_n 0, 1) := by decide +kernel
theorem dX10_init_572 : decode cX10_init 572 = .ok (.bipush 32, 2) := by decide +kernel
theorem dX10_init_574 : decode cX10_init 574 = .ok (.newarray .int, 2) := by decide +kernel
theorem dX10_init_576 : decode cX10_init 576 = .ok (.putfield 81, 3) := by decide +kernel
theorem dX10_init_579 : decode cX10_init 579 = .ok (.aload_n 0, 1) := by decide +kernel
theorem dX10_init_580 : decode cX10_init 580 = .ok (.bipush 32, 2) := by decide +kernel
theorem dX10_init_582 : decode cX10_init 582 = .ok (.newarray .int, 2) := by decide +kernel
theorem dX10_init_584 : decode cX10_init 584 = .ok (.putfield 84, 3) := by decide +kernel
theorem dX10_init_587 : decode cX10_init 587 = .ok (.aload_n 0, 1) := by decide +kernel
theorem dX10_init_588 : decode cX10_init 588 = .ok (.bipush 32, 2) := by decide +kernel
theorem dX10_init_590 : decode cX10_init 590 = .ok (.newarray .int, 2) := by decide +kernel
theorem dX10_init_592 : decode cX10_init 592 = .ok (.putfield 87, 3) := by decide +kernel
theorem dX10_init_595 : decode cX10_init 595 = .ok (.aload_n 0, 1) := by decide +kernel
theorem dX10_init_596 : decode cX10_init 596 = .ok (.bipush 40, 2) := by decide +kernel
theorem dX10_init_598 : decode cX10_init 598 = .ok (.newarray .int, 2) := by decide +kernel
theorem dX10_init_600 : decode cX10_init 600 = .ok (.putfield 90, 3) := by decide +kernel
theorem dX10_init_603 : decode cX10_init 603 = .ok (.aload_n 0, 1) := by decide +kernel
theorem dX10_init_604 : decode cX10_init 604 = .ok (.iconst (-1), 1) := by decide +kernel
theorem dX10_init_605 : decode cX10_init 605 = .ok (.putfield 93, 3) := by decide +kernel
theorem dX10_init_608 : decode cX10_init 608 = .ok (.aload_n 0, 1) := by decide +kernel
theorem dX10_init_609 : decode cX10_init 609 = .ok (.iconst 5, 1) := by decide +kernel
theorem dX10_init_610 : decode cX10_init 610 = .ok (.newarray .int, 2) := by decide +kernel
theorem dX10_init_612 : decode cX10_init 612 = .ok (.putfield 96, 3) := by decide +kernel
theorem dX10_init_615 : decode cX10_init 615 = .ok (.aload_n 0, 1) := by decide +kernel
theorem dX10_init_616 : decode cX10_init 616 = .ok (.bipush 24, 2) := by decide +kernel
theorem dX10_init_618 : decode cX10_init 618 = .ok (.newarray .int, 2) := by decide +kernel
theorem dX10_init_620 : decode cX10_init 620 = .ok (.putfield 99, 3) := by decide +kernel
theorem dX10_init_623 : decode cX10_init 623 = .ok (.aload_n 0, 1) := by decide +kernel
theorem dX10_init_624 : decode cX10_init 624 = .ok (.sipush 420, 3) := by decide +kernel
theorem dX10_init_627 : decode cX10_init 627 = .ok (.newarray .int, 2) := by decide +kernel
theorem dX10_init_629 : decode cX10_init 629 = .ok (.putfield 102, 3) := by decide +kernel
theorem dX10_init_632 : decode cX10_init 632 = .ok (.aload_n 0, 1) := by decide +kernel
theorem dX10_init_633 : decode cX10_init 633 = .ok (.bipush 100, 2) := by decide +kernel
theorem dX10_init_635 : decode cX10_init 635 = .ok (.newarray .int, 2) := by decide +kernel
theorem dX10_init_637 : decode cX10_init 637 = .ok (.putfield 105, 3) := by decide +kernel
theorem dX10_init_640 : decode cX10_init 640 = .ok (.aload_n 0, 1) := by decide +kernel
theorem dX10_init_641 : decode cX10_init 641 = .ok (.bipush 100, 2) := by decide +kernel
theorem dX10_init_643 : decode cX10_init 643 = .ok (.newarray .int, 2) := by decide +kernel
theorem dX10_init_645 : decode cX10_init 645 = .ok (.putfield 108, 3) := by decide +kernel
theorem dX10_init_648 : decode cX10_init 648 = .ok (.aload_n 0, 1) := by decide +kernel
theorem dX10_init_649 : decode cX10_init 649 = .ok (.bipush 100, 2) := by decide +kernel
theorem dX10_init_651 : decode cX10_init 651 = .ok (.newarray .int, 2) := by decide +kernel
theorem dX10_init_653 : decode cX10_init 653 = .ok (.putfield 111, 3) := by decide +kernel
theorem dX10_init_656 : decode cX10_init 656 = .ok (.aload_n 0, 1) := by decide +kernel
theorem dX10_init_657 : decode cX10_init 657 = .ok (.bipush 100, 2) := by decide +kernel
theorem dX10_init_659 : decode cX10_init 659 = .ok (.newarray .int, 2) := by decide +kernel
theorem dX10_init_661 : decode cX10_init 661 = .ok (.putfield 114, 3) := by decide +kernel
theorem dX10_init_664 : decode cX10_init 664 = .ok (.aload_n 0, 1) := by decide +kernel
theorem dX10_init_665 : decode cX10_init 665 = .ok (.bipush 100, 2) := by decide +kernel
theorem dX10_init_667 : decode cX10_init 667 = .ok (.newarray .int, 2) := by decide +kernel
theorem dX10_init_669 : decode cX10_init 669 = .ok (.putfield 117, 3) := by decide +kernel
theorem dX10_init_672 : decode cX10_init 672 = .ok (.aload_n 0, 1) := by decide +kernel
theorem dX10_init_673 : decode cX10_init 673 = .ok (.bipush 100, 2) := by decide +kernel
theorem dX10_init_675 : decode cX10_init 675 = .ok (.newarray .boolean, 2) := by decide +kernel
theorem dX10_init_677 : decode cX10_init 677 = .ok (.putfield 120, 3) := by decide +kernel
theorem dX10_init_680 : decode cX10_init 680 = .ok (.aload_n 0, 1) := by decide +kernel
theorem dX10_init_681 : decode cX10_init 681 = .ok (.sipush 2400, 3) := by decide +kernel
theorem dX10_init_684 : decode cX10_init 684 = .ok (.newarray .int, 2) := by decide +kernel
theorem dX10_init_686 : decode cX10_init 686 = .ok (.putfield 123, 3) := by decide +kernel
theorem dX10_init_689 : decode cX10_init 689 = .ok (.aload_n 0, 1) := by decide +kernel
theorem dX10_init_690 : decode cX10_init 690 = .ok (.bipush 24, 2) := by decide +kernel
theorem dX10_init_692 : decode cX10_init 692 = .ok (.newarray .boolean, 2) := by decide +kernel
theorem dX10_init_694 : decode cX10_init 694 = .ok (.putfield 126, 3) := by decide +kernel
theorem dX10_init_697 : decode cX10_init 697 = .ok (.aload_n 0, 1) := by decide +kernel
theorem dX10_init_698 : decode cX10_init 698 = .ok (.bipush 32, 2) := by decide +kernel
theorem dX10_init_700 : decode cX10_init 700 = .ok (.newarray .int, 2) := by decide +kernel
theorem dX10_init_702 : decode cX10_init 702 = .ok (.putfield 129, 3) := by decide +kernel
theorem dX10_init_705 : decode cX10_init 705 = .ok (.aload_n 0, 1) := by decide +kernel
theorem dX10_init_706 : decode cX10_init 706 = .ok (.bipush 32, 2) := by decide +kernel
theorem dX10_init_708 : decode cX10_init 708 = .ok (.newarray .int, 2) := by decide +kernel
theorem dX10_init_710 : decode cX10_init 710 = .ok (.putfield 132, 3) := by decide +kernel
theorem dX10_init_713 : decode cX10_init 713 = .ok (.aload_n 0, 1) := by decide +kernel
theorem dX10_init_714 : decode cX10_init 714 = .ok (.sipush 401, 3) := by decide +kernel
theorem dX10_init_717 : decode cX10_init 717 = .ok (.newarray .int, 2) := by decide +kernel
theorem dX10_init_719 : decode cX10_init 719 = .ok (.putfield 135, 3) := by decide +kernel
theorem dX10_init_722 : decode cX10_init 722 = .ok (.aload_n 0, 1) := by decide +kernel
theorem dX10_init_723 : decode cX10_init 723 = .ok (.sipush 401, 3) := by decide +kernel
theorem dX10_init_726 : decode cX10_init 726 = .ok (.newarray .int, 2) := by decide +kernel
theorem dX10_init_728 : decode cX10_init 728 = .ok (.putfield 138, 3) := by decide +kernel
theorem dX10_init_731 : decode cX10_init 731 = .ok (.aload_n 0, 1) := by decide +kernel
theorem dX10_init_732 : decode cX10_init 732 = .ok (.sipush 1024, 3) := by decide +kernel
theorem dX10_init_735 : decode cX10_init 735 = .ok (.newarray .int, 2) := by decide +kernel
theorem dX10_init_737 : decode cX10_init 737 = .ok (.putfield 141, 3) := by decide +kernel
theorem dX10_init_740 : decode cX10_init 740 = .ok (.aload_n 0, 1) := by decide +kernel
theorem dX10_init_741 : decode cX10_init 741 = .ok (.bipush 32, 2) := by decide +kernel
theorem dX10_init_743 : decode cX10_init 743 = .ok (.newarray .boolean, 2) := by decide +kernel
theorem dX10_init_745 : decode cX10_init 745 = .ok (.putfield 144, 3) := by decide +kernel
theorem dX10_init_748 : decode cX10_init 748 = .ok (.aload_n 0, 1) := by decide +kernel
theorem dX10_init_749 : decode cX10_init 749 = .ok (.bipush 32, 2) := by decide +kernel
theorem dX10_init_751 : decode cX10_init 751 = .ok (.newarray .int, 2) := by decide +kernel
theorem dX10_init_753 : decode cX10_init 753 = .ok (.putfield 147, 3) := by decide +kernel
theorem dX10_init_756 : decode cX10_init 756 = .ok (.aload_n 0, 1) := by decide +kernel
theorem dX10_init_757 : decode cX10_init 757 = .ok (.iconst 4, 1) := by decide +kernel
theorem dX10_init_758 : decode cX10_init 758 = .ok (.newarray .int, 2) := by decide +kernel
theorem dX10_init_760 : decode cX10_init 760 = .ok (.putfield 150, 3) := by decide +kernel
theorem dX10_init_763 : decode cX10_init 763 = .ok (.aload_n 0, 1) := by decide +kernel
theorem dX10_init_764 : decode cX10_init 764 = .ok (.sipush 6400, 3) := by decide +kernel
theorem dX10_init_767 : decode cX10_init 767 = .ok (.newarray .int, 2) := by decide +kernel
theorem dX10_init_769 : decode cX10_init 769 = .ok (.putfield 153, 3) := by decide +kernel
theorem dX10_init_772 : decode cX10_init 772 = .ok (.aload_n 0, 1) := by decide +kernel
theorem dX10_init_773 : decode cX10_init 773 = .ok (.bipush 24, 2) := by decide +kernel
theorem dX10_init_775 : decode cX10_init 775 = .ok (.newarray .int, 2) := by decide +kernel
theorem dX10_init_777 : decode cX10_init 777 = .ok (.putfield 156, 3) := by decide +kernel
theorem dX10_init_780 : decode cX10_init 780 = .ok (.return_, 1) := by decide +kernel
theorem dX10_isIn_0 : decode cX10_isIn 0 = .ok (.iload_n 1, 1) := by decide +kernel
theorem dX10_isIn_1 : decode cX10_isIn 1 = .ok (.iload_n 2, 1) := by decide +kernel
theorem dX10_isIn_2 : decode cX10_isIn 2 = .ok (.if_icmp .lt 12, 3) := by decide +kernel
theorem dX10_isIn_5 : decode cX10_isIn 5 = .ok (.iload_n 1, 1) := by decide +kernel
theorem dX10_isIn_6 : decode cX10_isIn 6 = .ok (.iload_n 3, 1) := by decide +kernel
theorem dX10_isIn_7 : decode cX10_isIn 7 = .ok (.if_icmp .gt 7, 3) := by decide +kernel
theorem dX10_isIn_10 : decode cX10_isIn 10 = .ok (.iconst 1, 1) := by decide +kernel
theorem dX10_isIn_11 : decode cX10_isIn 11 = .ok (.goto 4, 3) := by decide +kernel
theorem dX10_isIn_14 : decode cX10_isIn 14 = .ok (.iconst 0, 1) := by decide +kernel
theorem dX10_isIn_15 : decode cX10_isIn 15 = .ok (.ireturn, 1) := by decide +kernel
theorem dX10_isPerson_0 : decode cX10_isPerson 0 = .ok (.iload_n 1, 1) := by decide +kernel
theorem dX10_isPerson_1 : decode cX10_isPerson 1 = .ok (.ifCond .lt 15, 3) := by decide +kernel
theorem dX10_isPerson_4 : decode cX10_isPerson 4 = .ok (.iload_n 1, 1) := by decide +kernel
theorem dX10_isPerson_5 : decode cX10_isPerson 5 = .ok (.aload_n 0, 1) := by decide +kernel
theorem dX10_isPerson_6 : decode cX10_isPerson 6 = .ok (.getfield 162, 3) := by decide +kernel
theorem dX10_isPerson_9 : decode cX10_isPerson 9 = .ok (.if_icmp .ge 7, 3) := by decide +kernel
theorem dX10_isPerson_12 : decode cX10_isPerson 12 = .ok (.iconst 1, 1) := by decide +kernel
theorem dX10_isPerson_13 : decode cX10_isPerson 13 = .ok (.goto 4, 3) := by decide +kernel
theorem dX10_isPerson_16 : decode cX10_isPerson 16 = .ok (.iconst 0, 1) := by decide +kernel
theorem dX10_isPerson_17 : decode cX10_isPerson 17 = .ok (.ireturn, 1) := by decide +kernel
theorem dX10_isLiving_0 : decode cX10_isLiving 0 = .ok (.aload_n 0, 1) := by decide +kernel
theorem dX10_isLiving_1 : decode cX10_isLiving 1 = .ok (.iload_n 1, 1) := by decide +kernel
theorem dX10_isLiving_2 : decode cX10_isLiving 2 = .ok (.invokevirtual 165, 3) := by decide +kernel
theorem dX10_isLiving_5 : decode cX10_isLiving 5 = .ok (.ifCond .eq 17, 3) := by decide +kernel
theorem dX10_isLiving_8 : decode cX10_isLiving 8 = .ok (.aload_n 0, 1) := by decide +kernel
theorem dX10_isLiving_9 : decode cX10_isLiving 9 = .ok (.getfield 19, 3) := by decide +kernel
theorem dX10_isLiving_12 : decode cX10_isLiving 12 = .ok (.iload_n 1, 1) := by decide +kernel
theorem dX10_isLiving_13 : decode cX10_isLiving 13 = .ok (.iaload, 1) := by decide +kernel
theorem dX10_isLiving_14 : decode cX10_isLiving 14 = .ok (.iconst (-1), 1) := by decide +kernel
theorem dX10_isLiving_15 : decode cX10_isLiving 15 = .ok (.if_icmp .ne 7, 3) := by decide +kernel
theorem dX10_isLiving_18 : decode cX10_isLiving 18 = .ok (.iconst 1, 1) := by decide +kernel
theorem dX10_isLiving_19 : decode cX10_isLiving 19 = .ok (.goto 4, 3) := by decide +kernel
theorem dX10_isLiving_22 : decode cX10_isLiving 22 = .ok (.iconst 0, 1) := by decide +kernel
theorem dX10_isLiving_23 : decode cX10_isLiving 23 = .ok (.ireturn, 1) := by decide +kernel
theorem dX10_isFact_0 : decode cX10_isFact 0 = .ok (.aload_n 0, 1) := by decide +kernel
theorem dX10_isFact_1 : decode cX10_isFact 1 = .ok (.iload_n 1, 1) := by decide +kernel
theorem dX10_isFact_2 : decode cX10_isFact 2 = .ok (.iconst 0, 1) := by decide +kernel
theorem dX10_isFact_3 : decode cX10_isFact 3 = .ok (.iload_n 2, 1) := by decide +kernel
theorem dX10_isFact_4 : decode cX10_isFact 4 = .ok (.invokevirtual 169, 3) := by decide +kernel
theorem dX10_isFact_7 : decode cX10_isFact 7 = .ok (.ireturn, 1) := by decide +kernel
theorem dX10_person_0 : decode cX10_person 0 = .ok (.aload_n 0, 1) := by decide +kernel
theorem dX10_person_1 : decode cX10_person 1 = .ok (.iconst 0, 1) := by decide +kernel
theorem dX10_person_2 : decode cX10_person 2 = .ok (.putfield 159, 3) := by decide +kernel
theorem dX10_person_5 : decode cX10_person 5 = .ok (.aload_n 0, 1) := by decide +kernel
theorem dX10_person_6 : decode cX10_person 6 = .ok (.iload_n 1, 1) := by decide +kernel
theorem dX10_person_7 : decode cX10_person 7 = .ok (.iconst 0, 1) := by decide +kernel
theorem dX10_person_8 : decode cX10_person 8 = .ok (.iconst 3, 1) := by decide +kernel
theorem dX10_person_9 : decode cX10_person 9 = .ok (.invokevirtual 169, 3) := by decide +kernel
theorem dX10_person_12 : decode cX10_person 12 = .ok (.ifCond .eq 37, 3) := by decide +kernel
theorem dX10_person_15 : decode cX10_person 15 = .ok (.aload_n 0, 1) := by decide +kernel
theorem dX10_person_16 : decode cX10_person 16 = .ok (.iload_n 2, 1) := by decide +kernel
theorem dX10_person_17 : decode cX10_person 17 = .ok (.iconst 0, 1) := by decide +kernel
theorem dX10_person_18 : decode cX10_person 18 = .ok (.bipush 7, 2) := by decide +kernel
theorem dX10_person_20 : decode cX10_person 20 = .ok (.invokevirtual 169, 3) := by decide +kernel
theorem dX10_person_23 : decode cX10_person 23 = .ok (.ifCond .eq 26, 3) := by decide +kernel
theorem dX10_person_26 : decode cX10_person 26 = .ok (.aload_n 0, 1) := by decide +kernel
theorem dX10_person_27 : decode cX10_person 27 = .ok (.iload_n 3, 1) := by decide +kernel
theorem dX10_person_28 : decode cX10_person 28 = .ok (.bipush (-90), 2) := by decide +kernel
theorem dX10_person_30 : decode cX10_person 30 = .ok (.aload_n 0, 1) := by decide +kernel
theorem dX10_person_31 : decode cX10_person 31 = .ok (.getfield 173, 3) := by decide +kernel
theorem dX10_person_34 : decode cX10_person 34 = .ok (.invokevirtual 169, 3) := by decide +kernel
theorem dX10_person_37 : decode cX10_person 37 = .ok (.ifCond .eq 12, 3) := by decide +kernel
theorem dX10_person_40 : decode cX10_person 40 = .ok (.aload_n 0, 1) := by decide +kernel
theorem dX10_person_41 : decode cX10_person 41 = .ok (.getfield 162, 3) := by decide +kernel
theorem dX10_person_44 : decode cX10_person 44 = .ok (.bipush 24, 2) := by decide +kernel
theorem dX10_person_46 : decode cX10_person 46 = .ok (.if_icmp .ne 5, 3) := by decide +kernel
theorem dX10_person_49 : decode cX10_person 49 = .ok (.iconst (-1), 1) := by decide +kernel
theorem dX10_person_50 : decode cX10_person 50 = .ok (.ireturn, 1) := by decide +kernel
theorem dX10_person_51 : decode cX10_person 51 = .ok (.aload_n 0, 1) := by decide +kernel
theorem dX10_person_52 : decode cX10_person 52 = .ok (.getfield 7, 3) := by decide +kernel
theorem dX10_person_55 : decode cX10_person 55 = .ok (.aload_n 0, 1) := by decide +kernel
theorem dX10_person_56 : decode cX10_person 56 = .ok (.getfield 162, 3) := by decide +kernel
theorem dX10_person_59 : decode cX10_person 59 = .ok (.iload_n 1, 1) := by decide +kernel
theorem dX10_person_60 : decode cX10_person 60 = .ok (.iastore, 1) := by decide +kernel
theorem dX10_person_61 : decode cX10_person 61 = .ok (.aload_n 0, 1) := by decide +kernel
theorem dX10_person_62 : decode cX10_person 62 = .ok (.getfield 13, 3) := by decide +kernel
theorem dX10_person_65 : decode cX10_person 65 = .ok (.aload_n 0, 1) := by decide +kernel
theorem dX10_person_66 : decode cX10_person 66 = .ok (.getfield 162, 3) := by decide +kernel
theorem dX10_person_69 : decode cX10_person 69 = .ok (.iload_n 2, 1) := by decide +kernel
theorem dX10_person_70 : decode cX10_person 70 = .ok (.iastore, 1) := by decide +kernel
theorem dX10_person_71 : decode cX10_person 71 = .ok (.aload_n 0, 1) := by decide +kernel
theorem dX10_person_72 : decode cX10_person 72 = .ok (.getfield 16, 3) := by decide +kernel
theorem dX10_person_75 : decode cX10_person 75 = .ok (.aload_n 0, 1) := by decide +kernel
theorem dX10_person_76 : decode cX10_person 76 = .ok (.getfield 162, 3) := by decide +kernel
theorem dX10_person_79 : decode cX10_person 79 = .ok (.iload_n 3, 1) := by decide +kernel
theorem dX10_person_80 : decode cX10_person 80 = .ok (.iastore, 1) := by decide +kernel
theorem dX10_person_81 : decode cX10_person 81 = .ok (.aload_n 0, 1) := by decide +kernel
theorem dX10_person_82 : decode cX10_person 82 = .ok (.getfield 19, 3) := by decide +kernel
theorem dX10_person_85 : decode cX10_person 85 = .ok (.aload_n 0, 1) := by decide +kernel
theorem dX10_person_86 : decode cX10_person 86 = .ok (.getfield 162, 3) := by decide +kernel
theorem dX10_person_89 : decode cX10_person 89 = .ok (.iconst (-1), 1) := by decide +kernel
theorem dX10_person_90 : decode cX10_person 90 = .ok (.iastore, 1) := by decide +kernel
theorem dX10_person_91 : decode cX10_person 91 = .ok (.aload_n 0, 1) := by decide +kernel
theorem dX10_person_92 : decode cX10_person 92 = .ok (.getfield 26, 3) := by decide +kernel
theorem dX10_person_95 : decode cX10_person 95 = .ok (.aload_n 0, 1) := by decide +kernel
theorem dX10_person_96 : decode cX10_person 96 = .ok (.getfield 162, 3) := by decide +kernel
theorem dX10_person_99 : decode cX10_person 99 = .ok (.iconst (-1), 1) := by decide +kernel
theorem dX10_person_100 : decode cX10_person 100 = .ok (.iastore, 1) := by decide +kernel
theorem dX10_person_101 : decode cX10_person 101 = .ok (.aload_n 0, 1) := by decide +kernel
theorem dX10_person_102 : decode cX10_person 102 = .ok (.aload_n 0, 1) := by decide +kernel
theorem dX10_person_103 : decode cX10_person 103 = .ok (.getfield 162, 3) := by decide +kernel
theorem dX10_person_106 : decode cX10_person 106 = .ok (.iconst 1, 1) := by decide +kernel
theorem dX10_person_107 : decode cX10_person 107 = .ok (.iadd, 1) := by decide +kernel
theorem dX10_person_108 : decode cX10_person 108 = .ok (.putfield 162, 3) := by decide +kernel
theorem dX10_person_111 : decode cX10_person 111 = .ok (.aload_n 0, 1) := by decide +kernel
theorem dX10_person_112 : decode cX10_person 112 = .ok (.getfield 162, 3) := by decide +kernel
theorem dX10_person_115 : decode cX10_person 115 = .ok (.iconst 1, 1) := by decide +kernel
theorem dX10_person_116 : decode cX10_person 116 = .ok (.isub, 1) := by decide +kernel
theorem dX10_person_117 : decode cX10_person 117 = .ok (.ireturn, 1) := by decide +kernel
theorem dX10_dies_0 : decode cX10_dies 0 = .ok (.aload_n 0, 1) := by decide +kernel
theorem dX10_dies_1 : decode cX10_dies 1 = .ok (.iconst 0, 1) := by decide +kernel
theorem dX10_dies_2 : decode cX10_dies 2 = .ok (.putfield 159, 3) := by decide +kernel
theorem dX10_dies_5 : decode cX10_dies 5 = .ok (.aload_n 0, 1) := by decide +kernel
theorem dX10_dies_6 : decode cX10_dies 6 = .ok (.iload_n 1, 1) := by decide +kernel
theorem dX10_dies_7 : decode cX10_dies 7 = .ok (.invokevirtual 176, 3) := by decide +kernel
theorem dX10_dies_10 : decode cX10_dies 10 = .ok (.ifCond .ne 5, 3) := by decide +kernel
theorem dX10_dies_13 : decode cX10_dies 13 = .ok (.iconst 0, 1) := by decide +kernel
theorem dX10_dies_14 : decode cX10_dies 14 = .ok (.ireturn, 1) := by decide +kernel
theorem dX10_dies_15 : decode cX10_dies 15 = .ok (.aload_n 0, 1) := by decide +kernel
theorem dX10_dies_16 : decode cX10_dies 16 = .ok (.getfield 19, 3) := by decide +kernel
theorem dX10_dies_19 : decode cX10_dies 19 = .ok (.iload_n 1, 1) := by decide +kernel
theorem dX10_dies_20 : decode cX10_dies 20 = .ok (.aload_n 0, 1) := by decide +kernel
theorem dX10_dies_21 : decode cX10_dies 21 = .ok (.getfield 173, 3) := by decide +kernel
theorem dX10_dies_24 : decode cX10_dies 24 = .ok (.iastore, 1) := by decide +kernel
theorem dX10_dies_25 : decode cX10_dies 25 = .ok (.iconst 1, 1) := by decide +kernel
theorem dX10_dies_26 : decode cX10_dies 26 = .ok (.ireturn, 1) := by decide +kernel
theorem dX10_holds_0 : decode cX10_holds 0 = .ok (.aload_n 0, 1) := by decide +kernel
theorem dX10_holds_1 : decode cX10_holds 1 = .ok (.iconst 0, 1) := by decide +kernel
theorem dX10_holds_2 : decode cX10_holds 2 = .ok (.putfield 159, 3) := by decide +kernel
theorem dX10_holds_5 : decode cX10_holds 5 = .ok (.aload_n 0, 1) := by decide +kernel
theorem dX10_holds_6 : decode cX10_holds 6 = .ok (.iload_n 1, 1) := by decide +kernel
theorem dX10_holds_7 : decode cX10_holds 7 = .ok (.iconst 0, 1) := by decide +kernel
theorem dX10_holds_8 : decode cX10_holds 8 = .ok (.bipush 7, 2) := by decide +kernel
theorem dX10_holds_10 : decode cX10_holds 10 = .ok (.invokevirtual 169, 3) := by decide +kernel
theorem dX10_holds_13 : decode cX10_holds 13 = .ok (.ifCond .ne 5, 3) := by decide +kernel
theorem dX10_holds_16 : decode cX10_holds 16 = .ok (.iconst 0, 1) := by decide +kernel
theorem dX10_holds_17 : decode cX10_holds 17 = .ok (.ireturn, 1) := by decide +kernel
theorem dX10_holds_18 : decode cX10_holds 18 = .ok (.aload_n 0, 1) := by decide +kernel
theorem dX10_holds_19 : decode cX10_holds 19 = .ok (.getfield 29, 3) := by decide +kernel
theorem dX10_holds_22 : decode cX10_holds 22 = .ok (.iload_n 1, 1) := by decide +kernel
theorem dX10_holds_23 : decode cX10_holds 23 = .ok (.iload_n 2, 1) := by decide +kernel
theorem dX10_holds_24 : decode cX10_holds 24 = .ok (.bastore, 1) := by decide +kernel
theorem dX10_holds_25 : decode cX10_holds 25 = .ok (.iconst 1, 1) := by decide +kernel
theorem dX10_holds_26 : decode cX10_holds 26 = .ok (.ireturn, 1) := by decide +kernel
theorem dX10_away_0 : decode cX10_away 0 = .ok (.aload_n 0, 1) := by decide +kernel
theorem dX10_away_1 : decode cX10_away 1 = .ok (.iconst 0, 1) := by decide +kernel
theorem dX10_away_2 : decode cX10_away 2 = .ok (.putfield 159, 3) := by decide +kernel
theorem dX10_away_5 : decode cX10_away 5 = .ok (.aload_n 0, 1) := by decide +kernel
theorem dX10_away_6 : decode cX10_away 6 = .ok (.iload_n 1, 1) := by decide +kernel
theorem dX10_away_7 : decode cX10_away 7 = .ok (.invokevirtual 176, 3) := by decide +kernel
theorem dX10_away_10 : decode cX10_away 10 = .ok (.ifCond .eq 12, 3) := by decide +kernel
theorem dX10_away_13 : decode cX10_away 13 = .ok (.aload_n 0, 1) := by decide +kernel
theorem dX10_away_14 : decode cX10_away 14 = .ok (.getfield 22, 3) := by decide +kernel
theorem dX10_away_17 : decode cX10_away 17 = .ok (.iload_n 1, 1) := by decide +kernel
theorem dX10_away_18 : decode cX10_away 18 = .ok (.baload, 1) := by decide +kernel
theorem dX10_away_19 : decode cX10_away 19 = .ok (.ifCond .eq 5, 3) := by decide +kernel
theorem dX10_away_22 : decode cX10_away 22 = .ok (.iconst 0, 1) := by decide +kernel
theorem dX10_away_23 : decode cX10_away 23 = .ok (.ireturn, 1) := by decide +kernel
theorem dX10_away_24 : decode cX10_away 24 = .ok (.aload_n 0, 1) := by decide +kernel
theorem dX10_away_25 : decode cX10_away 25 = .ok (.getfield 22, 3) := by decide +kernel
theorem dX10_away_28 : decode cX10_away 28 = .ok (.iload_n 1, 1) := by decide +kernel
theorem dX10_away_29 : decode cX10_away 29 = .ok (.iconst 1, 1) := by decide +kernel
theorem dX10_away_30 : decode cX10_away 30 = .ok (.bastore, 1) := by decide +kernel
theorem dX10_away_31 : decode cX10_away 31 = .ok (.iconst 1, 1) := by decide +kernel
theorem dX10_away_32 : decode cX10_away 32 = .ok (.ireturn, 1) := by decide +kernel
theorem dX10_speaker_0 : decode cX10_speaker 0 = .ok (.aload_n 0, 1) := by decide +kernel
theorem dX10_speaker_1 : decode cX10_speaker 1 = .ok (.iconst 0, 1) := by decide +kernel
theorem dX10_speaker_2 : decode cX10_speaker 2 = .ok (.putfield 159, 3) := by decide +kernel
theorem dX10_speaker_5 : decode cX10_speaker 5 = .ok (.iload_n 1, 1) := by decide +kernel
theorem dX10_speaker_6 : decode cX10_speaker 6 = .ok (.iconst (-1), 1) := by decide +kernel
theorem dX10_speaker_7 : decode cX10_speaker 7 = .ok (.if_icmp .eq 13, 3) := by decide +kernel
theorem dX10_speaker_10 : decode cX10_speaker 10 = .ok (.aload_n 0, 1) := by decide +kernel
theorem dX10_speaker_11 : decode cX10_speaker 11 = .ok (.iload_n 1, 1) := by decide +kernel
theorem dX10_speaker_12 : decode cX10_speaker 12 = .ok (.invokevirtual 176, 3) := by decide +kernel
theorem dX10_speaker_15 : decode cX10_speaker 15 = .ok (.ifCond .ne 5, 3) := by decide +kernel
theorem dX10_speaker_18 : decode cX10_speaker 18 = .ok (.iconst 0, 1) := by decide +kernel
theorem dX10_speaker_19 : decode cX10_speaker 19 = .ok (.ireturn, 1) := by decide +kernel
theorem dX10_speaker_20 : decode cX10_speaker 20 = .ok (.aload_n 0, 1) := by decide +kernel
theorem dX10_speaker_21 : decode cX10_speaker 21 = .ok (.iload_n 1, 1) := by decide +kernel
theorem dX10_speaker_22 : decode cX10_speaker 22 = .ok (.putfield 32, 3) := by decide +kernel
theorem dX10_speaker_25 : decode cX10_speaker 25 = .ok (.iconst 1, 1) := by decide +kernel
theorem dX10_speaker_26 : decode cX10_speaker 26 = .ok (.ireturn, 1) := by decide +kernel
theorem dX10_way_0 : decode cX10_way 0 = .ok (.aload_n 0, 1) := by decide +kernel
theorem dX10_way_1 : decode cX10_way 1 = .ok (.iconst 0, 1) := by decide +kernel
theorem dX10_way_2 : decode cX10_way 2 = .ok (.putfield 159, 3) := by decide +kernel
theorem dX10_way_5 : decode cX10_way 5 = .ok (.aload_n 0, 1) := by decide +kernel
theorem dX10_way_6 : decode cX10_way 6 = .ok (.iload_n 1, 1) := by decide +kernel
theorem dX10_way_7 : decode cX10_way 7 = .ok (.iconst 0, 1) := by decide +kernel
theorem dX10_way_8 : decode cX10_way 8 = .ok (.iconst 2, 1) := by decide +kernel
theorem dX10_way_9 : decode cX10_way 9 = .ok (.invokevirtual 169, 3) := by decide +kernel
theorem dX10_way_12 : decode cX10_way 12 = .ok (.ifCond .ne 5, 3) := by decide +kernel
theorem dX10_way_15 : decode cX10_way 15 = .ok (.iconst 0, 1) := by decide +kernel
theorem dX10_way_16 : decode cX10_way 16 = .ok (.ireturn, 1) := by decide +kernel
theorem dX10_way_17 : decode cX10_way 17 = .ok (.aload_n 0, 1) := by decide +kernel
theorem dX10_way_18 : decode cX10_way 18 = .ok (.iload_n 1, 1) := by decide +kernel
theorem dX10_way_19 : decode cX10_way 19 = .ok (.putfield 179, 3) := by decide +kernel
theorem dX10_way_22 : decode cX10_way 22 = .ok (.iconst 1, 1) := by decide +kernel
theorem dX10_way_23 : decode cX10_way 23 = .ok (.ireturn, 1) := by decide +kernel
theorem dX10_of_0 : decode cX10_of 0 = .ok (.aload_n 0, 1) := by decide +kernel
theorem dX10_of_1 : decode cX10_of 1 = .ok (.iconst 0, 1) := by decide +kernel
theorem dX10_of_2 : decode cX10_of 2 = .ok (.putfield 159, 3) := by decide +kernel
theorem dX10_of_5 : decode cX10_of 5 = .ok (.aload_n 0, 1) := by decide +kernel
theorem dX10_of_6 : decode cX10_of 6 = .ok (.iload_n 1, 1) := by decide +kernel
theorem dX10_of_7 : decode cX10_of 7 = .ok (.invokevirtual 165, 3) := by decide +kernel
theorem dX10_of_10 : decode cX10_of 10 = .ok (.ifCond .ne 6, 3) := by decide +kernel
theorem dX10_of_13 : decode cX10_of 13 = .ok (.bipush (-100), 2) := by decide +kernel
theorem dX10_of_15 : decode cX10_of 15 = .ok (.ireturn, 1) := by decide +kernel
theorem dX10_of_16 : decode cX10_of 16 = .ok (.iload_n 2, 1) := by decide +kernel
theorem dX10_of_17 : decode cX10_of 17 = .ok (.ifCond .ne 10, 3) := by decide +kernel
theorem dX10_of_20 : decode cX10_of 20 = .ok (.aload_n 0, 1) := by decide +kernel
theorem dX10_of_21 : decode cX10_of 21 = .ok (.getfield 7, 3) := by decide +kernel
theorem dX10_of_24 : decode cX10_of 24 = .ok (.iload_n 1, 1) := by decide +kernel
theorem dX10_of_25 : decode cX10_of 25 = .ok (.iaload, 1) := by decide +kernel
theorem dX10_of_26 : decode cX10_of 26 = .ok (.ireturn, 1) := by decide +kernel
theorem dX10_of_27 : decode cX10_of 27 = .ok (.iload_n 2, 1) := by decide +kernel
theorem dX10_of_28 : decode cX10_of 28 = .ok (.iconst 1, 1) := by decide +kernel
theorem dX10_of_29 : decode cX10_of 29 = .ok (.if_icmp .ne 10, 3) := by decide +kernel
theorem dX10_of_32 : decode cX10_of 32 = .ok (.aload_n 0, 1) := by decide +kernel
theorem dX10_of_33 : decode cX10_of 33 = .ok (.getfield 13, 3) := by decide +kernel
theorem dX10_of_36 : decode cX10_of 36 = .ok (.iload_n 1, 1) := by decide +kernel
theorem dX10_of_37 : decode cX10_of 37 = .ok (.iaload, 1) := by decide +kernel
theorem dX10_of_38 : decode cX10_of 38 = .ok (.ireturn, 1) := by decide +kernel
theorem dX10_of_39 : decode cX10_of 39 = .ok (.iload_n 2, 1) := by decide +kernel
theorem dX10_of_40 : decode cX10_of 40 = .ok (.iconst 2, 1) := by decide +kernel
theorem dX10_of_41 : decode cX10_of 41 = .ok (.if_icmp .ne 10, 3) := by decide +kernel
theorem dX10_of_44 : decode cX10_of 44 = .ok (.aload_n 0, 1) := by decide +kernel
theorem dX10_of_45 : decode cX10_of 45 = .ok (.getfield 16, 3) := by decide +kernel
theorem dX10_of_48 : decode cX10_of 48 = .ok (.iload_n 1, 1) := by decide +kernel
theorem dX10_of_49 : decode cX10_of 49 = .ok (.iaload, 1) := by decide +kernel
theorem dX10_of_50 : decode cX10_of 50 = .ok (.ireturn, 1) := by decide +kernel
theorem dX10_of_51 : decode cX10_of 51 = .ok (.iload_n 2, 1) := by decide +kernel
theorem dX10_of_52 : decode cX10_of 52 = .ok (.iconst 3, 1) := by decide +kernel
theorem dX10_of_53 : decode cX10_of 53 = .ok (.if_icmp .ne 10, 3) := by decide +kernel
theorem dX10_of_56 : decode cX10_of 56 = .ok (.aload_n 0, 1) := by decide +kernel
theorem dX10_of_57 : decode cX10_of 57 = .ok (.getfield 19, 3) := by decide +kernel
theorem dX10_of_60 : decode cX10_of 60 = .ok (.iload_n 1, 1) := by decide +kernel
theorem dX10_of_61 : decode cX10_of 61 = .ok (.iaload, 1) := by decide +kernel
theorem dX10_of_62 : decode cX10_of 62 = .ok (.ireturn, 1) := by decide +kernel
theorem dX10_of_63 : decode cX10_of 63 = .ok (.iload_n 2, 1) := by decide +kernel
theorem dX10_of_64 : decode cX10_of 64 = .ok (.iconst 4, 1) := by decide +kernel
theorem dX10_of_65 : decode cX10_of 65 = .ok (.if_icmp .ne 17, 3) := by decide +kernel
theorem dX10_of_68 : decode cX10_of 68 = .ok (.aload_n 0, 1) := by decide +kernel
theorem dX10_of_69 : decode cX10_of 69 = .ok (.iload_n 1, 1) := by decide +kernel
theorem dX10_of_70 : decode cX10_of 70 = .ok (.invokevirtual 182, 3) := by decide +kernel
theorem dX10_of_73 : decode cX10_of 73 = .ok (.ifCond .eq 7, 3) := by decide +kernel
theorem dX10_of_76 : decode cX10_of 76 = .ok (.iconst 1, 1) := by decide +kernel
theorem dX10_of_77 : decode cX10_of 77 = .ok (.goto 4, 3) := by decide +kernel
theorem dX10_of_80 : decode cX10_of 80 = .ok (.iconst 0, 1) := by decide +kernel
theorem dX10_of_81 : decode cX10_of 81 = .ok (.ireturn, 1) := by decide +kernel
theorem dX10_of_82 : decode cX10_of 82 = .ok (.iload_n 2, 1) := by decide +kernel
theorem dX10_of_83 : decode cX10_of 83 = .ok (.iconst 5, 1) := by decide +kernel
theorem dX10_of_84 : decode cX10_of 84 = .ok (.if_icmp .ne 44, 3) := by decide +kernel
theorem dX10_of_87 : decode cX10_of 87 = .ok (.iconst 0, 1) := by decide +kernel
theorem dX10_of_88 : decode cX10_of 88 = .ok (.istore_n 3, 1) := by decide +kernel
theorem dX10_of_89 : decode cX10_of 89 = .ok (.iconst 0, 1) := by decide +kernel
theorem dX10_of_90 : decode cX10_of 90 = .ok (.istore 4, 2) := by decide +kernel
theorem dX10_of_92 : decode cX10_of 92 = .ok (.iload 4, 2) := by decide +kernel
theorem dX10_of_94 : decode cX10_of 94 = .ok (.aload_n 0, 1) := by decide +kernel
theorem dX10_of_95 : decode cX10_of 95 = .ok (.getfield 185, 3) := by decide +kernel
theorem dX10_of_98 : decode cX10_of 98 = .ok (.if_icmp .ge 28, 3) := by decide +kernel
theorem dX10_of_101 : decode cX10_of 101 = .ok (.aload_n 0, 1) := by decide +kernel
theorem dX10_of_102 : decode cX10_of 102 = .ok (.getfield 54, 3) := by decide +kernel
theorem dX10_of_105 : decode cX10_of 105 = .ok (.bipush 24, 2) := by decide +kernel
theorem dX10_of_107 : decode cX10_of 107 = .ok (.iload_n 1, 1) := by decide +kernel
theorem dX10_of_108 : decode cX10_of 108 = .ok (.imul, 1) := by decide +kernel
theorem dX10_of_109 : decode cX10_of 109 = .ok (.iload 4, 2) := by decide +kernel
theorem dX10_of_111 : decode cX10_of 111 = .ok (.iadd, 1) := by decide +kernel
theorem dX10_of_112 : decode cX10_of 112 = .ok (.iaload, 1) := by decide +kernel
theorem dX10_of_113 : decode cX10_of 113 = .ok (.ifCond .le 7, 3) := by decide +kernel
theorem dX10_of_116 : decode cX10_of 116 = .ok (.iload_n 3, 1) := by decide +kernel
theorem dX10_of_117 : decode cX10_of 117 = .ok (.iconst 1, 1) := by decide +kernel
theorem dX10_of_118 : decode cX10_of 118 = .ok (.iadd, 1) := by decide +kernel
theorem dX10_of_119 : decode cX10_of 119 = .ok (.istore_n 3, 1) := by decide +kernel
theorem dX10_of_120 : decode cX10_of 120 = .ok (.iinc 4 1, 3) := by decide +kernel
theorem dX10_of_123 : decode cX10_of 123 = .ok (.goto (-31), 3) := by decide +kernel
theorem dX10_of_126 : decode cX10_of 126 = .ok (.iload_n 3, 1) := by decide +kernel
theorem dX10_of_127 : decode cX10_of 127 = .ok (.ireturn, 1) := by decide +kernel
theorem dX10_of_128 : decode cX10_of 128 = .ok (.iload_n 2, 1) := by decide +kernel
theorem dX10_of_129 : decode cX10_of 129 = .ok (.bipush 6, 2) := by decide +kernel
theorem dX10_of_131 : decode cX10_of 131 = .ok (.if_icmp .ne 20, 3) := by decide +kernel
theorem dX10_of_134 : decode cX10_of 134 = .ok (.aload_n 0, 1) := by decide +kernel
theorem dX10_of_135 : decode cX10_of 135 = .ok (.getfield 22, 3) := by decide +kernel
theorem dX10_of_138 : decode cX10_of 138 = .ok (.iload_n 1, 1) := by decide +kernel
theorem dX10_of_139 : decode cX10_of 139 = .ok (.baload, 1) := by decide +kernel
theorem dX10_of_140 : decode cX10_of 140 = .ok (.ifCond .eq 7, 3) := by decide +kernel
theorem dX10_of_143 : decode cX10_of 143 = .ok (.iconst 1, 1) := by decide +kernel
theorem dX10_of_144 : decode cX10_of 144 = .ok (.goto 9, 3) := by decide +kernel
theorem dX10_of_147 : decode cX10_of 147 = .ok (.iconst 0, 1) := by decide +kernel
theorem dX10_of_148 : decode cX10_of 148 = .ok (.goto 5, 3) := by decide +kernel
theorem dX10_of_151 : decode cX10_of 151 = .ok (.bipush (-100), 2) := by decide +kernel
theorem dX10_of_153 : decode cX10_of 153 = .ok (.ireturn, 1) := by decide +kernel
theorem dX10_isLine_0 : decode cX10_isLine 0 = .ok (.iload_n 1, 1) := by decide +kernel
theorem dX10_isLine_1 : decode cX10_isLine 1 = .ok (.ifCond .lt 15, 3) := by decide +kernel
theorem dX10_isLine_4 : decode cX10_isLine 4 = .ok (.iload_n 1, 1) := by decide +kernel
theorem dX10_isLine_5 : decode cX10_isLine 5 = .ok (.aload_n 0, 1) := by decide +kernel
theorem dX10_isLine_6 : decode cX10_isLine 6 = .ok (.getfield 185, 3) := by decide +kernel
theorem dX10_isLine_9 : decode cX10_isLine 9 = .ok (.if_icmp .ge 7, 3) := by decide +kernel
theorem dX10_isLine_12 : decode cX10_isLine 12 = .ok (.iconst 1, 1) := by decide +kernel
theorem dX10_isLine_13 : decode cX10_isLine 13 = .ok (.goto 4, 3) := by decide +kernel
theorem dX10_isLine_16 : decode cX10_isLine 16 = .ok (.iconst 0, 1) := by decide +kernel
theorem dX10_isLine_17 : decode cX10_isLine 17 = .ok (.ireturn, 1) := by decide +kernel
theorem dX10_hasLine_0 : decode cX10_hasLine 0 = .ok (.aload_n 0, 1) := by decide +kernel
theorem dX10_hasLine_1 : decode cX10_hasLine 1 = .ok (.getfield 54, 3) := by decide +kernel
theorem dX10_hasLine_4 : decode cX10_hasLine 4 = .ok (.bipush 24, 2) := by decide +kernel
theorem dX10_hasLine_6 : decode cX10_hasLine 6 = .ok (.iload_n 1, 1) := by decide +kernel
theorem dX10_hasLine_7 : decode cX10_hasLine 7 = .ok (.imul, 1) := by decide +kernel
theorem dX10_hasLine_8 : decode cX10_hasLine 8 = .ok (.iload_n 2, 1) := by decide +kernel
theorem dX10_hasLine_9 : decode cX10_hasLine 9 = .ok (.iadd, 1) := by decide +kernel
theorem dX10_hasLine_10 : decode cX10_hasLine 10 = .ok (.iaload, 1) := by decide +kernel
theorem dX10_hasLine_11 : decode cX10_hasLine 11 = .ok (.ifCond .le 7, 3) := by decide +kernel
theorem dX10_hasLine_14 : decode cX10_hasLine 14 = .ok (.iconst 1, 1) := by decide +kernel
theorem dX10_hasLine_15 : decode cX10_hasLine 15 = .ok (.goto 4, 3) := by decide +kernel
theorem dX10_hasLine_18 : decode cX10_hasLine 18 = .ok (.iconst 0, 1) := by decide +kernel
theorem dX10_hasLine_19 : decode cX10_hasLine 19 = .ok (.ireturn, 1) := by decide +kernel
theorem dX10_line_0 : decode cX10_line 0 = .ok (.aload_n 0, 1) := by decide +kernel
theorem dX10_line_1 : decode cX10_line 1 = .ok (.iconst 0, 1) := by decide +kernel
theorem dX10_line_2 : decode cX10_line 2 = .ok (.putfield 159, 3) := by decide +kernel
theorem dX10_line_5 : decode cX10_line 5 = .ok (.aload_n 0, 1) := by decide +kernel
theorem dX10_line_6 : decode cX10_line 6 = .ok (.iload_n 1, 1) := by decide +kernel
theorem dX10_line_7 : decode cX10_line 7 = .ok (.iconst 0, 1) := by decide +kernel
theorem dX10_line_8 : decode cX10_line 8 = .ok (.iconst 2, 1) := by decide +kernel
theorem dX10_line_9 : decode cX10_line 9 = .ok (.invokevirtual 169, 3) := by decide +kernel
theorem dX10_line_12 : decode cX10_line 12 = .ok (.ifCond .eq 12, 3) := by decide +kernel
theorem dX10_line_15 : decode cX10_line 15 = .ok (.aload_n 0, 1) := by decide +kernel
theorem dX10_line_16 : decode cX10_line 16 = .ok (.getfield 185, 3) := by decide +kernel
theorem dX10_line_19 : decode cX10_line 19 = .ok (.bipush 24, 2) := by decide +kernel
theorem dX10_line_21 : decode cX10_line 21 = .ok (.if_icmp .ne 5, 3) := by decide +kernel
theorem dX10_line_24 : decode cX10_line 24 = .ok (.iconst (-1), 1) := by decide +kernel
theorem dX10_line_25 : decode cX10_line 25 = .ok (.ireturn, 1) := by decide +kernel
theorem dX10_line_26 : decode cX10_line 26 = .ok (.aload_n 0, 1) := by decide +kernel
theorem dX10_line_27 : decode cX10_line 27 = .ok (.getfield 36, 3) := by decide +kernel
theorem dX10_line_30 : decode cX10_line 30 = .ok (.aload_n 0, 1) := by decide +kernel
theorem dX10_line_31 : decode cX10_line 31 = .ok (.getfield 185, 3) := by decide +kernel
theorem dX10_line_34 : decode cX10_line 34 = .ok (.iload_n 1, 1) := by decide +kernel
theorem dX10_line_35 : decode cX10_line 35 = .ok (.iastore, 1) := by decide +kernel
theorem dX10_line_36 : decode cX10_line 36 = .ok (.aload_n 0, 1) := by decide +kernel
theorem dX10_line_37 : decode cX10_line 37 = .ok (.getfield 39, 3) := by decide +kernel
theorem dX10_line_40 : decode cX10_line 40 = .ok (.aload_n 0, 1) := by decide +kernel
theorem dX10_line_41 : decode cX10_line 41 = .ok (.getfield 185, 3) := by decide +kernel
theorem dX10_line_44 : decode cX10_line 44 = .ok (.iload_n 2, 1) := by decide +kernel
theorem dX10_line_45 : decode cX10_line 45 = .ok (.bastore, 1) := by decide +kernel
theorem dX10_line_46 : decode cX10_line 46 = .ok (.aload_n 0, 1) := by decide +kernel
theorem dX10_line_47 : decode cX10_line 47 = .ok (.getfield 45, 3) := by decide +kernel
theorem dX10_line_50 : decode cX10_line 50 = .ok (.aload_n 0, 1) := by decide +kernel
theorem dX10_line_51 : decode cX10_line 51 = .ok (.getfield 185, 3) := by decide +kernel
theorem dX10_line_54 : decode cX10_line 54 = .ok (.iconst (-1), 1) := by decide +kernel
theorem dX10_line_55 : decode cX10_line 55 = .ok (.iastore, 1) := by decide +kernel
theorem dX10_line_56 : decode cX10_line 56 = .ok (.aload_n 0, 1) := by decide +kernel
theorem dX10_line_57 : decode cX10_line 57 = .ok (.getfield 156, 3) := by decide +kernel
theorem dX10_line_60 : decode cX10_line 60 = .ok (.aload_n 0, 1) := by decide +kernel
theorem dX10_line_61 : decode cX10_line 61 = .ok (.getfield 185, 3) := by decide +kernel
theorem dX10_line_64 : decode cX10_line 64 = .ok (.iconst (-1), 1) := by decide +kernel
theorem dX10_line_65 : decode cX10_line 65 = .ok (.iastore, 1) := by decide +kernel
theorem dX10_line_66 : decode cX10_line 66 = .ok (.iconst 0, 1) := by decide +kernel
theorem dX10_line_67 : decode cX10_line 67 = .ok (.istore_n 3, 1) := by decide +kernel
theorem dX10_line_68 : decode cX10_line 68 = .ok (.iload_n 3, 1) := by decide +kernel
theorem dX10_line_69 : decode cX10_line 69 = .ok (.sipush 200, 3) := by decide +kernel
theorem dX10_line_72 : decode cX10_line 72 = .ok (.if_icmp .ge 26, 3) := by decide +kernel
theorem dX10_line_75 : decode cX10_line 75 = .ok (.aload_n 0, 1) := by decide +kernel
theorem dX10_line_76 : decode cX10_line 76 = .ok (.getfield 51, 3) := by decide +kernel
theorem dX10_line_79 : decode cX10_line 79 = .ok (.sipush 200, 3) := by decide +kernel
theorem dX10_line_82 : decode cX10_line 82 = .ok (.aload_n 0, 1) := by decide +kernel
theorem dX10_line_83 : decode cX10_line 83 = .ok (.getfield 185, 3) := by decide +kernel
theorem dX10_line_86 : decode cX10_line 86 = .ok (.imul, 1) := by decide +kernel
theorem dX10_line_87 : decode cX10_line 87 = .ok (.iload_n 3, 1) := by decide +kernel
theorem dX10_line_88 : decode cX10_line 88 = .ok (.iadd, 1) := by decide +kernel
theorem dX10_line_89 : decode cX10_line 89 = .ok (.bipush (-2), 2) := by decide +kernel
theorem dX10_line_91 : decode cX10_line 91 = .ok (.iastore, 1) := by decide +kernel
theorem dX10_line_92 : decode cX10_line 92 = .ok (.iinc 3 1, 3) := by decide +kernel
theorem dX10_line_95 : decode cX10_line 95 = .ok (.goto (-27), 3) := by decide +kernel
theorem dX10_line_98 : decode cX10_line 98 = .ok (.aload_n 0, 1) := by decide +kernel
theorem dX10_line_99 : decode cX10_line 99 = .ok (.aload_n 0, 1) := by decide +kernel
theorem dX10_line_100 : decode cX10_line 100 = .ok (.getfield 185, 3) := by decide +kernel
theorem dX10_line_103 : decode cX10_line 103 = .ok (.iconst 1, 1) := by decide +kernel
theorem dX10_line_104 : decode cX10_line 104 = .ok (.iadd, 1) := by decide +kernel
theorem dX10_line_105 : decode cX10_line 105 = .ok (.putfield 185, 3) := by decide +kernel
theorem dX10_line_108 : decode cX10_line 108 = .ok (.aload_n 0, 1) := by decide +kernel
theorem dX10_line_109 : decode cX10_line 109 = .ok (.getfield 185, 3) := by decide +kernel
theorem dX10_line_112 : decode cX10_line 112 = .ok (.iconst 1, 1) := by decide +kernel
theorem dX10_line_113 : decode cX10_line 113 = .ok (.isub, 1) := by decide +kernel
theorem dX10_line_114 : decode cX10_line 114 = .ok (.ireturn, 1) := by decide +kernel
theorem dX10_gets_0 : decode cX10_gets 0 = .ok (.aload_n 0, 1) := by decide +kernel
theorem dX10_gets_1 : decode cX10_gets 1 = .ok (.getfield 54, 3) := by decide +kernel
theorem dX10_gets_4 : decode cX10_gets 4 = .ok (.bipush 24, 2) := by decide +kernel
theorem dX10_gets_6 : decode cX10_gets 6 = .ok (.iload_n 1, 1) := by decide +kernel
theorem dX10_gets_7 : decode cX10_gets 7 = .ok (.imul, 1) := by decide +kernel
theorem dX10_gets_8 : decode cX10_gets 8 = .ok (.iload_n 2, 1) := by decide +kernel
theorem dX10_gets_9 : decode cX10_gets 9 = .ok (.iadd, 1) := by decide +kernel
theorem dX10_gets_10 : decode cX10_gets 10 = .ok (.iload 4, 2) := by decide +kernel
theorem dX10_gets_12 : decode cX10_gets 12 = .ok (.iastore, 1) := by decide +kernel
theorem dX10_gets_13 : decode cX10_gets 13 = .ok (.aload_n 0, 1) := by decide +kernel
theorem dX10_gets_14 : decode cX10_gets 14 = .ok (.getfield 57, 3) := by decide +kernel
theorem dX10_gets_17 : decode cX10_gets 17 = .ok (.bipush 24, 2) := by decide +kernel
theorem dX10_gets_19 : decode cX10_gets 19 = .ok (.iload_n 1, 1) := by decide +kernel
theorem dX10_gets_20 : decode cX10_gets 20 = .ok (.imul, 1) := by decide +kernel
theorem dX10_gets_21 : decode cX10_gets 21 = .ok (.iload_n 2, 1) := by decide +kernel
theorem dX10_gets_22 : decode cX10_gets 22 = .ok (.iadd, 1) := by decide +kernel
theorem dX10_gets_23 : decode cX10_gets 23 = .ok (.iload_n 3, 1) := by decide +kernel
theorem dX10_gets_24 : decode cX10_gets 24 = .ok (.iastore, 1) := by decide +kernel
theorem dX10_gets_25 : decode cX10_gets 25 = .ok (.aload_n 0, 1) := by decide +kernel
theorem dX10_gets_26 : decode cX10_gets 26 = .ok (.getfield 60, 3) := by decide +kernel
theorem dX10_gets_29 : decode cX10_gets 29 = .ok (.bipush 24, 2) := by decide +kernel
theorem dX10_gets_31 : decode cX10_gets 31 = .ok (.iload_n 1, 1) := by decide +kernel
theorem dX10_gets_32 : decode cX10_gets 32 = .ok (.imul, 1) := by decide +kernel
theorem dX10_gets_33 : decode cX10_gets 33 = .ok (.iload_n 2, 1) := by decide +kernel
theorem dX10_gets_34 : decode cX10_gets 34 = .ok (.iadd, 1) := by decide +kernel
theorem dX10_gets_35 : decode cX10_gets 35 = .ok (.iload 5, 2) := by decide +kernel
theorem dX10_gets_37 : decode cX10_gets 37 = .ok (.iastore, 1) := by decide +kernel
theorem dX10_gets_38 : decode cX10_gets 38 = .ok (.return_, 1) := by decide +kernel
theorem dX10_know_0 : decode cX10_know 0 = .ok (.aload_n 0, 1) := by decide +kernel
theorem dX10_know_1 : decode cX10_know 1 = .ok (.iconst 0, 1) := by decide +kernel
theorem dX10_know_2 : decode cX10_know 2 = .ok (.putfield 159, 3) := by decide +kernel
theorem dX10_know_5 : decode cX10_know 5 = .ok (.aload_n 0, 1) := by decide +kernel
theorem dX10_know_6 : decode cX10_know 6 = .ok (.iload_n 1, 1) := by decide +kernel
theorem dX10_know_7 : decode cX10_know 7 = .ok (.invokevirtual 176, 3) := by decide +kernel
theorem dX10_know_10 : decode cX10_know 10 = .ok (.ifCond .eq 31, 3) := by decide +kernel
theorem dX10_know_13 : decode cX10_know 13 = .ok (.aload_n 0, 1) := by decide +kernel
theorem dX10_know_14 : decode cX10_know 14 = .ok (.iload_n 2, 1) := by decide +kernel
theorem dX10_know_15 : decode cX10_know 15 = .ok (.invokevirtual 188, 3) := by decide +kernel
theorem dX10_know_18 : decode cX10_know 18 = .ok (.ifCond .eq 23, 3) := by decide +kernel
theorem dX10_know_21 : decode cX10_know 21 = .ok (.aload_n 0, 1) := by decide +kernel
theorem dX10_know_22 : decode cX10_know 22 = .ok (.iload_n 3, 1) := by decide +kernel
theorem dX10_know_23 : decode cX10_know 23 = .ok (.invokevirtual 191, 3) := by decide +kernel
theorem dX10_know_26 : decode cX10_know 26 = .ok (.ifCond .eq 15, 3) := by decide +kernel
theorem dX10_know_29 : decode cX10_know 29 = .ok (.aload_n 0, 1) := by decide +kernel
theorem dX10_know_30 : decode cX10_know 30 = .ok (.iload 4, 2) := by decide +kernel
theorem dX10_know_32 : decode cX10_know 32 = .ok (.iconst 1, 1) := by decide +kernel
theorem dX10_know_33 : decode cX10_know 33 = .ok (.bipush 9, 2) := by decide +kernel
theorem dX10_know_35 : decode cX10_know 35 = .ok (.invokevirtual 169, 3) := by decide +kernel
theorem dX10_know_38 : decode cX10_know 38 = .ok (.ifCond .ne 5, 3) := by decide +kernel
theorem dX10_know_41 : decode cX10_know 41 = .ok (.iconst 0, 1) := by decide +kernel
theorem dX10_know_42 : decode cX10_know 42 = .ok (.ireturn, 1) := by decide +kernel
theorem dX10_know_43 : decode cX10_know 43 = .ok (.aload_n 0, 1) := by decide +kernel
theorem dX10_know_44 : decode cX10_know 44 = .ok (.iload_n 1, 1) := by decide +kernel
theorem dX10_know_45 : decode cX10_know 45 = .ok (.iload_n 2, 1) := by decide +kernel
theorem dX10_know_46 : decode cX10_know 46 = .ok (.iload_n 3, 1) := by decide +kernel
theorem dX10_know_47 : decode cX10_know 47 = .ok (.iload 4, 2) := by decide +kernel
theorem dX10_know_49 : decode cX10_know 49 = .ok (.iconst (-1), 1) := by decide +kernel
theorem dX10_know_50 : decode cX10_know 50 = .ok (.invokevirtual 194, 3) := by decide +kernel
theorem dX10_know_53 : decode cX10_know 53 = .ok (.iconst 1, 1) := by decide +kernel
theorem dX10_know_54 : decode cX10_know 54 = .ok (.ireturn, 1) := by decide +kernel
theorem dX10_teach_0 : decode cX10_teach 0 = .ok (.aload_n 0, 1) := by decide +kernel
theorem dX10_teach_1 : decode cX10_teach 1 = .ok (.iconst 0, 1) := by decide +kernel
theorem dX10_teach_2 : decode cX10_teach 2 = .ok (.putfield 159, 3) := by decide +kernel
theorem dX10_teach_5 : decode cX10_teach 5 = .ok (.aload_n 0, 1) := by decide +kernel
theorem dX10_teach_6 : decode cX10_teach 6 = .ok (.iload_n 1, 1) := by decide +kernel
theorem dX10_teach_7 : decode cX10_teach 7 = .ok (.invokevirtual 176, 3) := by decide +kernel
theorem dX10_teach_10 : decode cX10_teach 10 = .ok (.ifCond .eq 55, 3) := by decide +kernel
theorem dX10_teach_13 : decode cX10_teach 13 = .ok (.aload_n 0, 1) := by decide +kernel
theorem dX10_teach_14 : decode cX10_teach 14 = .ok (.iload_n 2, 1) := by decide +kernel
theorem dX10_teach_15 : decode cX10_teach 15 = .ok (.invokevirtual 176, 3) := by decide +kernel
theorem dX10_teach_18 : decode cX10_teach 18 = .ok (.ifCond .eq 47, 3) := by decide +kernel
theorem dX10_teach_21 : decode cX10_teach 21 = .ok (.iload_n 1, 1) := by decide +kernel
theorem dX10_teach_22 : decode cX10_teach 22 = .ok (.iload_n 2, 1) := by decide +kernel
theorem dX10_teach_23 : decode cX10_teach 23 = .ok (.if_icmp .eq 42, 3) := by decide +kernel
theorem dX10_teach_26 : decode cX10_teach 26 = .ok (.aload_n 0, 1) := by decide +kernel
theorem dX10_teach_27 : decode cX10_teach 27 = .ok (.iload_n 3, 1) := by decide +kernel
theorem dX10_teach_28 : decode cX10_teach 28 = .ok (.invokevirtual 188, 3) := by decide +kernel
theorem dX10_teach_31 : decode cX10_teach 31 = .ok (.ifCond .eq 34, 3) := by decide +kernel
theorem dX10_teach_34 : decode cX10_teach 34 = .ok (.aload_n 0, 1) := by decide +kernel
theorem dX10_teach_35 : decode cX10_teach 35 = .ok (.iload_n 1, 1) := by decide +kernel
theorem dX10_teach_36 : decode cX10_teach 36 = .ok (.iload_n 3, 1) := by decide +kernel
theorem dX10_teach_37 : decode cX10_teach 37 = .ok (.invokevirtual 198, 3) := by decide +kernel
theorem dX10_teach_40 : decode cX10_teach 40 = .ok (.ifCond .eq 25, 3) := by decide +kernel
theorem dX10_teach_43 : decode cX10_teach 43 = .ok (.aload_n 0, 1) := by decide +kernel
theorem dX10_teach_44 : decode cX10_teach 44 = .ok (.iload_n 2, 1) := by decide +kernel
theorem dX10_teach_45 : decode cX10_teach 45 = .ok (.iload_n 3, 1) := by decide +kernel
theorem dX10_teach_46 : decode cX10_teach 46 = .ok (.invokevirtual 198, 3) := by decide +kernel
theorem dX10_teach_49 : decode cX10_teach 49 = .ok (.ifCond .ne 16, 3) := by decide +kernel
theorem dX10_teach_52 : decode cX10_teach 52 = .ok (.aload_n 0, 1) := by decide +kernel
theorem dX10_teach_53 : decode cX10_teach 53 = .ok (.getfield 26, 3) := by decide +kernel
theorem dX10_teach_56 : decode cX10_teach 56 = .ok (.iload_n 2, 1) := by decide +kernel
theorem dX10_teach_57 : decode cX10_teach 57 = .ok (.iaload, 1) := by decide +kernel
theorem dX10_teach_58 : decode cX10_teach 58 = .ok (.aload_n 0, 1) := by decide +kernel
theorem dX10_teach_59 : decode cX10_teach 59 = .ok (.getfield 173, 3) := by decide +kernel
theorem dX10_teach_62 : decode cX10_teach 62 = .ok (.if_icmp .ne 5, 3) := by decide +kernel
theorem dX10_teach_65 : decode cX10_teach 65 = .ok (.iconst 0, 1) := by decide +kernel
theorem dX10_teach_66 : decode cX10_teach 66 = .ok (.ireturn, 1) := by decide +kernel
theorem dX10_teach_67 : decode cX10_teach 67 = .ok (.aload_n 0, 1) := by decide +kernel
theorem dX10_teach_68 : decode cX10_teach 68 = .ok (.iload_n 2, 1) := by decide +kernel
theorem dX10_teach_69 : decode cX10_teach 69 = .ok (.iload_n 3, 1) := by decide +kernel
theorem dX10_teach_70 : decode cX10_teach 70 = .ok (.aload_n 0, 1) := by decide +kernel
theorem dX10_teach_71 : decode cX10_teach 71 = .ok (.getfield 57, 3) := by decide +kernel
theorem dX10_teach_74 : decode cX10_teach 74 = .ok (.bipush 24, 2) := by decide +kernel
theorem dX10_teach_76 : decode cX10_teach 76 = .ok (.iload_n 1, 1) := by decide +kernel
theorem dX10_teach_77 : decode cX10_teach 77 = .ok (.imul, 1) := by decide +kernel
theorem dX10_teach_78 : decode cX10_teach 78 = .ok (.iload_n 3, 1) := by decide +kernel
theorem dX10_teach_79 : decode cX10_teach 79 = .ok (.iadd, 1) := by decide +kernel
theorem dX10_teach_80 : decode cX10_teach 80 = .ok (.iaload, 1) := by decide +kernel
theorem dX10_teach_81 : decode cX10_teach 81 = .ok (.iconst 4, 1) := by decide +kernel
theorem dX10_teach_82 : decode cX10_teach 82 = .ok (.iload_n 1, 1) := by decide +kernel
theorem dX10_teach_83 : decode cX10_teach 83 = .ok (.invokevirtual 194, 3) := by decide +kernel
theorem dX10_teach_86 : decode cX10_teach 86 = .ok (.aload_n 0, 1) := by decide +kernel
theorem dX10_teach_87 : decode cX10_teach 87 = .ok (.getfield 26, 3) := by decide +kernel
theorem dX10_teach_90 : decode cX10_teach 90 = .ok (.iload_n 2, 1) := by decide +kernel
theorem dX10_teach_91 : decode cX10_teach 91 = .ok (.aload_n 0, 1) := by decide +kernel
theorem dX10_teach_92 : decode cX10_teach 92 = .ok (.getfield 173, 3) := by decide +kernel
theorem dX10_teach_95 : decode cX10_teach 95 = .ok (.iastore, 1) := by decide +kernel
theorem dX10_teach_96 : decode cX10_teach 96 = .ok (.iconst 1, 1) := by decide +kernel
theorem dX10_teach_97 : decode cX10_teach 97 = .ok (.ireturn, 1) := by decide +kernel
theorem dX10_has_0 : decode cX10_has 0 = .ok (.aload_n 0, 1) := by decide +kernel
theorem dX10_has_1 : decode cX10_has 1 = .ok (.iconst 0, 1) := by decide +kernel
theorem dX10_has_2 : decode cX10_has 2 = .ok (.putfield 159, 3) := by decide +kernel
theorem dX10_has_5 : decode cX10_has 5 = .ok (.aload_n 0, 1) := by decide +kernel
theorem dX10_has_6 : decode cX10_has 6 = .ok (.iload_n 1, 1) := by decide +kernel
theorem dX10_has_7 : decode cX10_has 7 = .ok (.invokevirtual 165, 3) := by decide +kernel
theorem dX10_has_10 : decode cX10_has 10 = .ok (.ifCond .eq 21, 3) := by decide +kernel
theorem dX10_has_13 : decode cX10_has 13 = .ok (.aload_n 0, 1) := by decide +kernel
theorem dX10_has_14 : decode cX10_has 14 = .ok (.iload_n 2, 1) := by decide +kernel
theorem dX10_has_15 : decode cX10_has 15 = .ok (.invokevirtual 188, 3) := by decide +kernel
theorem dX10_has_18 : decode cX10_has 18 = .ok (.ifCond .eq 13, 3) := by decide +kernel
theorem dX10_has_21 : decode cX10_has 21 = .ok (.aload_n 0, 1) := by decide +kernel
theorem dX10_has_22 : decode cX10_has 22 = .ok (.iload_n 3, 1) := by decide +kernel
theorem dX10_has_23 : decode cX10_has 23 = .ok (.iconst 0, 1) := by decide +kernel
theorem dX10_has_24 : decode cX10_has 24 = .ok (.iconst 2, 1) := by decide +kernel
theorem dX10_has_25 : decode cX10_has 25 = .ok (.invokevirtual 169, 3) := by decide +kernel
theorem dX10_has_28 : decode cX10_has 28 = .ok (.ifCond .ne 5, 3) := by decide +kernel
theorem dX10_has_31 : decode cX10_has 31 = .ok (.iconst (-1), 1) := by decide +kernel
theorem dX10_has_32 : decode cX10_has 32 = .ok (.ireturn, 1) := by decide +kernel
theorem dX10_has_33 : decode cX10_has 33 = .ok (.bipush 24, 2) := by decide +kernel
theorem dX10_has_35 : decode cX10_has 35 = .ok (.iload_n 1, 1) := by decide +kernel
theorem dX10_has_36 : decode cX10_has 36 = .ok (.imul, 1) := by decide +kernel
theorem dX10_has_37 : decode cX10_has 37 = .ok (.iload_n 2, 1) := by decide +kernel
theorem dX10_has_38 : decode cX10_has 38 = .ok (.iadd, 1) := by decide +kernel
theorem dX10_has_39 : decode cX10_has 39 = .ok (.istore 4, 2) := by decide +kernel
theorem dX10_has_41 : decode cX10_has 41 = .ok (.aload_n 0, 1) := by decide +kernel
theorem dX10_has_42 : decode cX10_has 42 = .ok (.getfield 54, 3) := by decide +kernel
theorem dX10_has_45 : decode cX10_has 45 = .ok (.iload 4, 2) := by decide +kernel
theorem dX10_has_47 : decode cX10_has 47 = .ok (.iaload, 1) := by decide +kernel
theorem dX10_has_48 : decode cX10_has 48 = .ok (.ifCond .ne 14, 3) := by decide +kernel
theorem dX10_has_51 : decode cX10_has 51 = .ok (.iload_n 3, 1) := by decide +kernel
theorem dX10_has_52 : decode cX10_has 52 = .ok (.iconst 1, 1) := by decide +kernel
theorem dX10_has_53 : decode cX10_has 53 = .ok (.if_icmp .ne 7, 3) := by decide +kernel
theorem dX10_has_56 : decode cX10_has 56 = .ok (.iconst 0, 1) := by decide +kernel
theorem dX10_has_57 : decode cX10_has 57 = .ok (.goto 4, 3) := by decide +kernel
theorem dX10_has_60 : decode cX10_has 60 = .ok (.iconst (-1), 1) := by decide +kernel
theorem dX10_has_61 : decode cX10_has 61 = .ok (.ireturn, 1) := by decide +kernel
theorem dX10_has_62 : decode cX10_has 62 = .ok (.iload_n 3, 1) := by decide +kernel
theorem dX10_has_63 : decode cX10_has 63 = .ok (.ifCond .ne 13, 3) := by decide +kernel
theorem dX10_has_66 : decode cX10_has 66 = .ok (.aload_n 0, 1) := by decide +kernel
theorem dX10_has_67 : decode cX10_has 67 = .ok (.getfield 57, 3) := by decide +kernel
theorem dX10_has_70 : decode cX10_has 70 = .ok (.iload 4, 2) := by decide +kernel
theorem dX10_has_72 : decode cX10_has 72 = .ok (.iaload, 1) := by decide +kernel
theorem dX10_has_73 : decode cX10_has 73 = .ok (.goto 25, 3) := by decide +kernel
theorem dX10_has_76 : decode cX10_has 76 = .ok (.iload_n 3, 1) := by decide +kernel
theorem dX10_has_77 : decode cX10_has 77 = .ok (.iconst 1, 1) := by decide +kernel
theorem dX10_has_78 : decode cX10_has 78 = .ok (.if_icmp .ne 13, 3) := by decide +kernel
theorem dX10_has_81 : decode cX10_has 81 = .ok (.aload_n 0, 1) := by decide +kernel
theorem dX10_has_82 : decode cX10_has 82 = .ok (.getfield 54, 3) := by decide +kernel
theorem dX10_has_85 : decode cX10_has 85 = .ok (.iload 4, 2) := by decide +kernel
theorem dX10_has_87 : decode cX10_has 87 = .ok (.iaload, 1) := by decide +kernel
theorem dX10_has_88 : decode cX10_has 88 = .ok (.goto 10, 3) := by decide +kernel
theorem dX10_has_91 : decode cX10_has 91 = .ok (.aload_n 0, 1) := by decide +kernel
theorem dX10_has_92 : decode cX10_has 92 = .ok (.getfield 60, 3) := by decide +kernel
theorem dX10_has_95 : decode cX10_has 95 = .ok (.iload 4, 2) := by decide +kernel
theorem dX10_has_97 : decode cX10_has 97 = .ok (.iaload, 1) := by decide +kernel
theorem dX10_has_98 : decode cX10_has 98 = .ok (.ireturn, 1) := by decide +kernel
theorem dX10_livingWith_0 : decode cX10_livingWith 0 = .ok (.iconst 0, 1) := by decide +kernel
theorem dX10_livingWith_1 : decode cX10_livingWith 1 = .ok (.istore_n 2, 1) := by decide +kernel
theorem dX10_livingWith_2 : decode cX10_livingWith 2 = .ok (.iconst 0, 1) := by decide +kernel
theorem dX10_livingWith_3 : decode cX10_livingWith 3 = .ok (.istore_n 3, 1) := by decide +kernel
theorem dX10_livingWith_4 : decode cX10_livingWith 4 = .ok (.iload_n 3, 1) := by decide +kernel
theorem dX10_livingWith_5 : decode cX10_livingWith 5 = .ok (.aload_n 0, 1) := by decide +kernel
theorem dX10_livingWith_6 : decode cX10_livingWith 6 = .ok (.getfield 162, 3) := by decide +kernel
theorem dX10_livingWith_9 : decode cX10_livingWith 9 = .ok (.if_icmp .ge 30, 3) := by decide +kernel
theorem dX10_livingWith_12 : decode cX10_livingWith 12 = .ok (.aload_n 0, 1) := by decide +kernel
theorem dX10_livingWith_13 : decode cX10_livingWith 13 = .ok (.iload_n 3, 1) := by decide +kernel
theorem dX10_livingWith_14 : decode cX10_livingWith 14 = .ok (.invokevirtual 176, 3) := by decide +kernel
theorem dX10_livingWith_17 : decode cX10_livingWith 17 = .ok (.ifCond .eq 16, 3) := by decide +kernel
theorem dX10_livingWith_20 : decode cX10_livingWith 20 = .ok (.aload_n 0, 1) := by decide +kernel
theorem dX10_livingWith_21 : decode cX10_livingWith 21 = .ok (.iload_n 3, 1) := by decide +kernel
theorem dX10_livingWith_22 : decode cX10_livingWith 22 = .ok (.iload_n 1, 1) := by decide +kernel
theorem dX10_livingWith_23 : decode cX10_livingWith 23 = .ok (.invokevirtual 198, 3) := by decide +kernel
theorem dX10_livingWith_26 : decode cX10_livingWith 26 = .ok (.ifCond .eq 7, 3) := by decide +kernel
theorem dX10_livingWith_29 : decode cX10_livingWith 29 = .ok (.iload_n 2, 1) := by decide +kernel
theorem dX10_livingWith_30 : decode cX10_livingWith 30 = .ok (.iconst 1, 1) := by decide +kernel
theorem dX10_livingWith_31 : decode cX10_livingWith 31 = .ok (.iadd, 1) := by decide +kernel
theorem dX10_livingWith_32 : decode cX10_livingWith 32 = .ok (.istore_n 2, 1) := by decide +kernel
theorem dX10_livingWith_33 : decode cX10_livingWith 33 = .ok (.iinc 3 1, 3) := by decide +kernel
theorem dX10_livingWith_36 : decode cX10_livingWith 36 = .ok (.goto (-32), 3) := by decide +kernel
theorem dX10_livingWith_39 : decode cX10_livingWith 39 = .ok (.iload_n 2, 1) := by decide +kernel
theorem dX10_livingWith_40 : decode cX10_livingWith 40 = .ok (.ireturn, 1) := by decide +kernel
theorem dX10_unlike_0 : decode cX10_unlike 0 = .ok (.iconst 0, 1) := by decide +kernel
theorem dX10_unlike_1 : decode cX10_unlike 1 = .ok (.istore_n 2, 1) := by decide +kernel
theorem dX10_unlike_2 : decode cX10_unlike 2 = .ok (.iconst 0, 1) := by decide +kernel
theorem dX10_unlike_3 : decode cX10_unlike 3 = .ok (.istore_n 3, 1) := by decide +kernel
theorem dX10_unlike_4 : decode cX10_unlike 4 = .ok (.iconst 0, 1) := by decide +kernel
theorem dX10_unlike_5 : decode cX10_unlike 5 = .ok (.istore 4, 2) := by decide +kernel
theorem dX10_unlike_7 : decode cX10_unlike 7 = .ok (.iload 4, 2) := by decide +kernel
theorem dX10_unlike_9 : decode cX10_unlike 9 = .ok (.aload_n 0, 1) := by decide +kernel
theorem dX10_unlike_10 : decode cX10_unlike 10 = .ok (.getfield 162, 3) := by decide +kernel
theorem dX10_unlike_13 : decode cX10_unlike 13 = .ok (.if_icmp .ge 45, 3) := by decide +kernel
theorem dX10_unlike_16 : decode cX10_unlike 16 = .ok (.aload_n 0, 1) := by decide +kernel
theorem dX10_unlike_17 : decode cX10_unlike 17 = .ok (.iload 4, 2) := by decide +kernel
theorem dX10_unlike_19 : decode cX10_unlike 19 = .ok (.invokevirtual 176, 3) := by decide +kernel
theorem dX10_unlike_22 : decode cX10_unlike 22 = .ok (.ifCond .eq 30, 3) := by decide +kernel
theorem dX10_unlike_25 : decode cX10_unlike 25 = .ok (.aload_n 0, 1) := by decide +kernel
theorem dX10_unlike_26 : decode cX10_unlike 26 = .ok (.iload 4, 2) := by decide +kernel
theorem dX10_unlike_28 : decode cX10_unlike 28 = .ok (.iload_n 1, 1) := by decide +kernel
theorem dX10_unlike_29 : decode cX10_unlike 29 = .ok (.invokevirtual 198, 3) := by decide +kernel
theorem dX10_unlike_32 : decode cX10_unlike 32 = .ok (.ifCond .eq 20, 3) := by decide +kernel
theorem dX10_unlike_35 : decode cX10_unlike 35 = .ok (.iload_n 2, 1) := by decide +kernel
theorem dX10_unlike_36 : decode cX10_unlike 36 = .ok (.iconst 1, 1) := by decide +kernel
theorem dX10_unlike_37 : decode cX10_unlike 37 = .ok (.aload_n 0, 1) := by decide +kernel
theorem dX10_unlike_38 : decode cX10_unlike 38 = .ok (.getfield 57, 3) := by decide +kernel
theorem dX10_unlike_41 : decode cX10_unlike 41 = .ok (.bipush 24, 2) := by decide +kernel
theorem dX10_unlike_43 : decode cX10_unlike 43 = .ok (.iload 4, 2) := by decide +kernel
theorem dX10_unlike_45 : decode cX10_unlike 45 = .ok (.imul, 1) := by decide +kernel
theorem dX10_unlike_46 : decode cX10_unlike 46 = .ok (.iload_n 1, 1) := by decide +kernel
theorem dX10_unlike_47 : decode cX10_unlike 47 = .ok (.iadd, 1) := by decide +kernel
theorem dX10_unlike_48 : decode cX10_unlike 48 = .ok (.iaload, 1) := by decide +kernel
theorem dX10_unlike_49 : decode cX10_unlike 49 = .ok (.ishl, 1) := by decide +kernel
theorem dX10_unlike_50 : decode cX10_unlike 50 = .ok (.ior, 1) := by decide +kernel
theorem dX10_unlike_51 : decode cX10_unlike 51 = .ok (.istore_n 2, 1) := by decide +kernel
theorem dX10_unlike_52 : decode cX10_unlike 52 = .ok (.iinc 4 1, 3) := by decide +kernel
theorem dX10_unlike_55 : decode cX10_unlike 55 = .ok (.goto (-48), 3) := by decide +kernel
theorem dX10_unlike_58 : decode cX10_unlike 58 = .ok (.iload_n 2, 1) := by decide +kernel
theorem dX10_unlike_59 : decode cX10_unlike 59 = .ok (.istore 4, 2) := by decide +kernel
theorem dX10_unlike_61 : decode cX10_unlike 61 = .ok (.iload 4, 2) := by decide +kernel
theorem dX10_unlike_63 : decode cX10_unlike 63 = .ok (.ifCond .eq 19, 3) := by decide +kernel
theorem dX10_unlike_66 : decode cX10_unlike 66 = .ok (.iload_n 3, 1) := by decide +kernel
theorem dX10_unlike_67 : decode cX10_unlike 67 = .ok (.iconst 1, 1) := by decide +kernel
theorem dX10_unlike_68 : decode cX10_unlike 68 = .ok (.iadd, 1) := by decide +kernel
theorem dX10_unlike_69 : decode cX10_unlike 69 = .ok (.istore_n 3, 1) := by decide +kernel
theorem dX10_unlike_70 : decode cX10_unlike 70 = .ok (.iload 4, 2) := by decide +kernel
theorem dX10_unlike_72 : decode cX10_unlike 72 = .ok (.iload 4, 2) := by decide +kernel
theorem dX10_unlike_74 : decode cX10_unlike 74 = .ok (.iconst 1, 1) := by decide +kernel
theorem dX10_unlike_75 : decode cX10_unlike 75 = .ok (.isub, 1) := by decide +kernel
theorem dX10_unlike_76 : decode cX10_unlike 76 = .ok (.iand, 1) := by decide +kernel
theorem dX10_unlike_77 : decode cX10_unlike 77 = .ok (.istore 4, 2) := by decide +kernel
theorem dX10_unlike_79 : decode cX10_unlike 79 = .ok (.goto (-18), 3) := by decide +kernel
theorem dX10_unlike_82 : decode cX10_unlike 82 = .ok (.iload_n 3, 1) := by decide +kernel
theorem dX10_unlike_83 : decode cX10_unlike 83 = .ok (.ireturn, 1) := by decide +kernel
theorem dX10_lineOf_0 : decode cX10_lineOf 0 = .ok (.aload_n 0, 1) := by decide +kernel
theorem dX10_lineOf_1 : decode cX10_lineOf 1 = .ok (.iconst 0, 1) := by decide +kernel
theorem dX10_lineOf_2 : decode cX10_lineOf 2 = .ok (.putfield 159, 3) := by decide +kernel
theorem dX10_lineOf_5 : decode cX10_lineOf 5 = .ok (.aload_n 0, 1) := by decide +kernel
theorem dX10_lineOf_6 : decode cX10_lineOf 6 = .ok (.iload_n 1, 1) := by decide +kernel
theorem dX10_lineOf_7 : decode cX10_lineOf 7 = .ok (.invokevirtual 188, 3) := by decide +kernel
theorem dX10_lineOf_10 : decode cX10_lineOf 10 = .ok (.ifCond .ne 5, 3) := by decide +kernel
theorem dX10_lineOf_13 : decode cX10_lineOf 13 = .ok (.iconst (-1), 1) := by decide +kernel
theorem dX10_lineOf_14 : decode cX10_lineOf 14 = .ok (.ireturn, 1) := by decide +kernel
theorem dX10_lineOf_15 : decode cX10_lineOf 15 = .ok (.iload_n 2, 1) := by decide +kernel
theorem dX10_lineOf_16 : decode cX10_lineOf 16 = .ok (.ifCond .ne 10, 3) := by decide +kernel
theorem dX10_lineOf_19 : decode cX10_lineOf 19 = .ok (.aload_n 0, 1) := by decide +kernel
theorem dX10_lineOf_20 : decode cX10_lineOf 20 = .ok (.getfield 36, 3) := by decide +kernel
theorem dX10_lineOf_23 : decode cX10_lineOf 23 = .ok (.iload_n 1, 1) := by decide +kernel
theorem dX10_lineOf_24 : decode cX10_lineOf 24 = .ok (.iaload, 1) := by decide +kernel
theorem dX10_lineOf_25 : decode cX10_lineOf 25 = .ok (.ireturn, 1) := by decide +kernel
theorem dX10_lineOf_26 : decode cX10_lineOf 26 = .ok (.iload_n 2, 1) := by decide +kernel
theorem dX10_lineOf_27 : decode cX10_lineOf 27 = .ok (.iconst 1, 1) := by decide +kernel
theorem dX10_lineOf_28 : decode cX10_lineOf 28 = .ok (.if_icmp .ne 18, 3) := by decide +kernel
theorem dX10_lineOf_31 : decode cX10_lineOf 31 = .ok (.aload_n 0, 1) := by decide +kernel
theorem dX10_lineOf_32 : decode cX10_lineOf 32 = .ok (.getfield 39, 3) := by decide +kernel
theorem dX10_lineOf_35 : decode cX10_lineOf 35 = .ok (.iload_n 1, 1) := by decide +kernel
theorem dX10_lineOf_36 : decode cX10_lineOf 36 = .ok (.baload, 1) := by decide +kernel
theorem dX10_lineOf_37 : decode cX10_lineOf 37 = .ok (.ifCond .eq 7, 3) := by decide +kernel
theorem dX10_lineOf_40 : decode cX10_lineOf 40 = .ok (.iconst 1, 1) := by decide +kernel
theorem dX10_lineOf_41 : decode cX10_lineOf 41 = .ok (.goto 4, 3) := by decide +kernel
theorem dX10_lineOf_44 : decode cX10_lineOf 44 = .ok (.iconst 0, 1) := by decide +kernel
theorem dX10_lineOf_45 : decode cX10_lineOf 45 = .ok (.ireturn, 1) := by decide +kernel
theorem dX10_lineOf_46 : decode cX10_lineOf 46 = .ok (.iload_n 2, 1) := by decide +kernel
theorem dX10_lineOf_47 : decode cX10_lineOf 47 = .ok (.iconst 2, 1) := by decide +kernel
theorem dX10_lineOf_48 : decode cX10_lineOf 48 = .ok (.if_icmp .ne 10, 3) := by decide +kernel
theorem dX10_lineOf_51 : decode cX10_lineOf 51 = .ok (.aload_n 0, 1) := by decide +kernel
theorem dX10_lineOf_52 : decode cX10_lineOf 52 = .ok (.getfield 42, 3) := by decide +kernel
theorem dX10_lineOf_55 : decode cX10_lineOf 55 = .ok (.iload_n 1, 1) := by decide +kernel
theorem dX10_lineOf_56 : decode cX10_lineOf 56 = .ok (.iaload, 1) := by decide +kernel
theorem dX10_lineOf_57 : decode cX10_lineOf 57 = .ok (.ireturn, 1) := by decide +kernel
theorem dX10_lineOf_58 : decode cX10_lineOf 58 = .ok (.iload_n 2, 1) := by decide +kernel
theorem dX10_lineOf_59 : decode cX10_lineOf 59 = .ok (.iconst 3, 1) := by decide +kernel
theorem dX10_lineOf_60 : decode cX10_lineOf 60 = .ok (.if_icmp .ne 10, 3) := by decide +kernel
theorem dX10_lineOf_63 : decode cX10_lineOf 63 = .ok (.aload_n 0, 1) := by decide +kernel
theorem dX10_lineOf_64 : decode cX10_lineOf 64 = .ok (.getfield 45, 3) := by decide +kernel
theorem dX10_lineOf_67 : decode cX10_lineOf 67 = .ok (.iload_n 1, 1) := by decide +kernel
theorem dX10_lineOf_68 : decode cX10_lineOf 68 = .ok (.iaload, 1) := by decide +kernel
theorem dX10_lineOf_69 : decode cX10_lineOf 69 = .ok (.ireturn, 1) := by decide +kernel
theorem dX10_lineOf_70 : decode cX10_lineOf 70 = .ok (.iload_n 2, 1) := by decide +kernel
theorem dX10_lineOf_71 : decode cX10_lineOf 71 = .ok (.iconst 4, 1) := by decide +kernel
theorem dX10_lineOf_72 : decode cX10_lineOf 72 = .ok (.if_icmp .ne 9, 3) := by decide +kernel
theorem dX10_lineOf_75 : decode cX10_lineOf 75 = .ok (.aload_n 0, 1) := by decide +kernel
theorem dX10_lineOf_76 : decode cX10_lineOf 76 = .ok (.iload_n 1, 1) := by decide +kernel
theorem dX10_lineOf_77 : decode cX10_lineOf 77 = .ok (.invokevirtual 202, 3) := by decide +kernel
theorem dX10_lineOf_80 : decode cX10_lineOf 80 = .ok (.ireturn, 1) := by decide +kernel
theorem dX10_lineOf_81 : decode cX10_lineOf 81 = .ok (.iload_n 2, 1) := by decide +kernel
theorem dX10_lineOf_82 : decode cX10_lineOf 82 = .ok (.iconst 5, 1) := by decide +kernel
theorem dX10_lineOf_83 : decode cX10_lineOf 83 = .ok (.if_icmp .ne 9, 3) := by decide +kernel
theorem dX10_lineOf_86 : decode cX10_lineOf 86 = .ok (.aload_n 0, 1) := by decide +kernel
theorem dX10_lineOf_87 : decode cX10_lineOf 87 = .ok (.iload_n 1, 1) := by decide +kernel
theorem dX10_lineOf_88 : decode cX10_lineOf 88 = .ok (.invokevirtual 206, 3) := by decide +kernel
theorem dX10_lineOf_91 : decode cX10_lineOf 91 = .ok (.ireturn, 1) := by decide +kernel
theorem dX10_lineOf_92 : decode cX10_lineOf 92 = .ok (.iload_n 2, 1) := by decide +kernel
theorem dX10_lineOf_93 : decode cX10_lineOf 93 = .ok (.bipush 6, 2) := by decide +kernel
theorem dX10_lineOf_95 : decode cX10_lineOf 95 = .ok (.if_icmp .ne 12, 3) := by decide +kernel
theorem dX10_lineOf_98 : decode cX10_lineOf 98 = .ok (.aload_n 0, 1) := by decide +kernel
theorem dX10_lineOf_99 : decode cX10_lineOf 99 = .ok (.getfield 48, 3) := by decide +kernel
theorem dX10_lineOf_102 : decode cX10_lineOf 102 = .ok (.iload_n 1, 1) := by decide +kernel
theorem dX10_lineOf_103 : decode cX10_lineOf 103 = .ok (.iaload, 1) := by decide +kernel
theorem dX10_lineOf_104 : decode cX10_lineOf 104 = .ok (.goto 4, 3) := by decide +kernel
theorem dX10_lineOf_107 : decode cX10_lineOf 107 = .ok (.iconst (-1), 1) := by decide +kernel
theorem dX10_lineOf_108 : decode cX10_lineOf 108 = .ok (.ireturn, 1) := by decide +kernel
theorem dX10_said_0 : decode cX10_said 0 = .ok (.aload_n 0, 1) := by decide +kernel
theorem dX10_said_1 : decode cX10_said 1 = .ok (.iconst 0, 1) := by decide +kernel
theorem dX10_said_2 : decode cX10_said 2 = .ok (.putfield 159, 3) := by decide +kernel
theorem dX10_said_5 : decode cX10_said 5 = .ok (.aload_n 0, 1) := by decide +kernel
theorem dX10_said_6 : decode cX10_said 6 = .ok (.iload_n 1, 1) := by decide +kernel
theorem dX10_said_7 : decode cX10_said 7 = .ok (.invokevirtual 188, 3) := by decide +kernel
theorem dX10_said_10 : decode cX10_said 10 = .ok (.ifCond .eq 33, 3) := by decide +kernel
theorem dX10_said_13 : decode cX10_said 13 = .ok (.aload_n 0, 1) := by decide +kernel
theorem dX10_said_14 : decode cX10_said 14 = .ok (.iload_n 2, 1) := by decide +kernel
theorem dX10_said_15 : decode cX10_said 15 = .ok (.iconst 0, 1) := by decide +kernel
theorem dX10_said_16 : decode cX10_said 16 = .ok (.aload_n 0, 1) := by decide +kernel
theorem dX10_said_17 : decode cX10_said 17 = .ok (.getfield 173, 3) := by decide +kernel
theorem dX10_said_20 : decode cX10_said 20 = .ok (.iconst 1, 1) := by decide +kernel
theorem dX10_said_21 : decode cX10_said 21 = .ok (.isub, 1) := by decide +kernel
theorem dX10_said_22 : decode cX10_said 22 = .ok (.invokevirtual 169, 3) := by decide +kernel
theorem dX10_said_25 : decode cX10_said 25 = .ok (.ifCond .eq 18, 3) := by decide +kernel
theorem dX10_said_28 : decode cX10_said 28 = .ok (.aload_n 0, 1) := by decide +kernel
theorem dX10_said_29 : decode cX10_said 29 = .ok (.getfield 51, 3) := by decide +kernel
theorem dX10_said_32 : decode cX10_said 32 = .ok (.sipush 200, 3) := by decide +kernel
theorem dX10_said_35 : decode cX10_said 35 = .ok (.iload_n 1, 1) := by decide +kernel
theorem dX10_said_36 : decode cX10_said 36 = .ok (.imul, 1) := by decide +kernel
theorem dX10_said_37 : decode cX10_said 37 = .ok (.iload_n 2, 1) := by decide +kernel
theorem dX10_said_38 : decode cX10_said 38 = .ok (.iadd, 1) := by decide +kernel
theorem dX10_said_39 : decode cX10_said 39 = .ok (.iaload, 1) := by decide +kernel
theorem dX10_said_40 : decode cX10_said 40 = .ok (.goto 5, 3) := by decide +kernel
theorem dX10_said_43 : decode cX10_said 43 = .ok (.bipush (-2), 2) := by decide +kernel
theorem dX10_said_45 : decode cX10_said 45 = .ok (.ireturn, 1) := by decide +kernel
theorem dX10_lawOf_0 : decode cX10_lawOf 0 = .ok (.aload_n 0, 1) := by decide +kernel
theorem dX10_lawOf_1 : decode cX10_lawOf 1 = .ok (.getfield 45, 3) := by decide +kernel
theorem dX10_lawOf_4 : decode cX10_lawOf 4 = .ok (.iload_n 1, 1) := by decide +kernel
theorem dX10_lawOf_5 : decode cX10_lawOf 5 = .ok (.iaload, 1) := by decide +kernel
theorem dX10_lawOf_6 : decode cX10_lawOf 6 = .ok (.iconst (-1), 1) := by decide +kernel
theorem dX10_lawOf_7 : decode cX10_lawOf 7 = .ok (.if_icmp .eq 15, 3) := by decide +kernel
theorem dX10_lawOf_10 : decode cX10_lawOf 10 = .ok (.aload_n 0, 1) := by decide +kernel
theorem dX10_lawOf_11 : decode cX10_lawOf 11 = .ok (.getfield 45, 3) := by decide +kernel
theorem dX10_lawOf_14 : decode cX10_lawOf 14 = .ok (.iload_n 1, 1) := by decide +kernel
theorem dX10_lawOf_15 : decode cX10_lawOf 15 = .ok (.iaload, 1) := by decide +kernel
theorem dX10_lawOf_16 : decode cX10_lawOf 16 = .ok (.iload_n 2, 1) := by decide +kernel
theorem dX10_lawOf_17 : decode cX10_lawOf 17 = .ok (.if_icmp .gt 5, 3) := by decide +kernel
theorem dX10_lawOf_20 : decode cX10_lawOf 20 = .ok (.iconst (-1), 1) := by decide +kernel
theorem dX10_lawOf_21 : decode cX10_lawOf 21 = .ok (.ireturn, 1) := by decide +kernel
theorem dX10_lawOf_22 : decode cX10_lawOf 22 = .ok (.iload_n 2, 1) := by decide +kernel
theorem dX10_lawOf_23 : decode cX10_lawOf 23 = .ok (.istore_n 3, 1) := by decide +kernel
theorem dX10_lawOf_24 : decode cX10_lawOf 24 = .ok (.iload_n 3, 1) := by decide +kernel
theorem dX10_lawOf_25 : decode cX10_lawOf 25 = .ok (.ifCond .lt 37, 3) := by decide +kernel
theorem dX10_lawOf_28 : decode cX10_lawOf 28 = .ok (.aload_n 0, 1) := by decide +kernel
theorem dX10_lawOf_29 : decode cX10_lawOf 29 = .ok (.getfield 51, 3) := by decide +kernel
theorem dX10_lawOf_32 : decode cX10_lawOf 32 = .ok (.sipush 200, 3) := by decide +kernel
theorem dX10_lawOf_35 : decode cX10_lawOf 35 = .ok (.iload_n 1, 1) := by decide +kernel
theorem dX10_lawOf_36 : decode cX10_lawOf 36 = .ok (.imul, 1) := by decide +kernel
theorem dX10_lawOf_37 : decode cX10_lawOf 37 = .ok (.iload_n 3, 1) := by decide +kernel
theorem dX10_lawOf_38 : decode cX10_lawOf 38 = .ok (.iadd, 1) := by decide +kernel
theorem dX10_lawOf_39 : decode cX10_lawOf 39 = .ok (.iaload, 1) := by decide +kernel
theorem dX10_lawOf_40 : decode cX10_lawOf 40 = .ok (.ifCond .lt 16, 3) := by decide +kernel
theorem dX10_lawOf_43 : decode cX10_lawOf 43 = .ok (.aload_n 0, 1) := by decide +kernel
theorem dX10_lawOf_44 : decode cX10_lawOf 44 = .ok (.getfield 51, 3) := by decide +kernel
theorem dX10_lawOf_47 : decode cX10_lawOf 47 = .ok (.sipush 200, 3) := by decide +kernel
theorem dX10_lawOf_50 : decode cX10_lawOf 50 = .ok (.iload_n 1, 1) := by decide +kernel
theorem dX10_lawOf_51 : decode cX10_lawOf 51 = .ok (.imul, 1) := by decide +kernel
theorem dX10_lawOf_52 : decode cX10_lawOf 52 = .ok (.iload_n 3, 1) := by decide +kernel
theorem dX10_lawOf_53 : decode cX10_lawOf 53 = .ok (.iadd, 1) := by decide +kernel
theorem dX10_lawOf_54 : decode cX10_lawOf 54 = .ok (.iaload, 1) := by decide +kernel
theorem dX10_lawOf_55 : decode cX10_lawOf 55 = .ok (.ireturn, 1) := by decide +kernel
theorem dX10_lawOf_56 : decode cX10_lawOf 56 = .ok (.iinc 3 (-1), 3) := by decide +kernel
theorem dX10_lawOf_59 : decode cX10_lawOf 59 = .ok (.goto (-35), 3) := by decide +kernel
theorem dX10_lawOf_62 : decode cX10_lawOf 62 = .ok (.iconst (-1), 1) := by decide +kernel
theorem dX10_lawOf_63 : decode cX10_lawOf 63 = .ok (.ireturn, 1) := by decide +kernel
theorem dX10_stood_0 : decode cX10_stood 0 = .ok (.aload_n 0, 1) := by decide +kernel
theorem dX10_stood_1 : decode cX10_stood 1 = .ok (.iconst 0, 1) := by decide +kernel
theorem dX10_stood_2 : decode cX10_stood 2 = .ok (.putfield 159, 3) := by decide +kernel
theorem dX10_stood_5 : decode cX10_stood 5 = .ok (.aload_n 0, 1) := by decide +kernel
theorem dX10_stood_6 : decode cX10_stood 6 = .ok (.iload_n 1, 1) := by decide +kernel
theorem dX10_stood_7 : decode cX10_stood 7 = .ok (.invokevirtual 188, 3) := by decide +kernel
theorem dX10_stood_10 : decode cX10_stood 10 = .ok (.ifCond .eq 27, 3) := by decide +kernel
theorem dX10_stood_13 : decode cX10_stood 13 = .ok (.aload_n 0, 1) := by decide +kernel
theorem dX10_stood_14 : decode cX10_stood 14 = .ok (.iload_n 2, 1) := by decide +kernel
theorem dX10_stood_15 : decode cX10_stood 15 = .ok (.iconst 0, 1) := by decide +kernel
theorem dX10_stood_16 : decode cX10_stood 16 = .ok (.aload_n 0, 1) := by decide +kernel
theorem dX10_stood_17 : decode cX10_stood 17 = .ok (.getfield 173, 3) := by decide +kernel
theorem dX10_stood_20 : decode cX10_stood 20 = .ok (.iconst 1, 1) := by decide +kernel
theorem dX10_stood_21 : decode cX10_stood 21 = .ok (.isub, 1) := by decide +kernel
theorem dX10_stood_22 : decode cX10_stood 22 = .ok (.invokevirtual 169, 3) := by decide +kernel
theorem dX10_stood_25 : decode cX10_stood 25 = .ok (.ifCond .eq 12, 3) := by decide +kernel
theorem dX10_stood_28 : decode cX10_stood 28 = .ok (.aload_n 0, 1) := by decide +kernel
theorem dX10_stood_29 : decode cX10_stood 29 = .ok (.iload_n 1, 1) := by decide +kernel
theorem dX10_stood_30 : decode cX10_stood 30 = .ok (.iload_n 2, 1) := by decide +kernel
theorem dX10_stood_31 : decode cX10_stood 31 = .ok (.invokevirtual 209, 3) := by decide +kernel
theorem dX10_stood_34 : decode cX10_stood 34 = .ok (.goto 4, 3) := by decide +kernel
theorem dX10_stood_37 : decode cX10_stood 37 = .ok (.iconst (-1), 1) := by decide +kernel
theorem dX10_stood_38 : decode cX10_stood 38 = .ok (.ireturn, 1) := by decide +kernel
theorem dX10_puts_0 : decode cX10_puts 0 = .ok (.bipush 24, 2) := by decide +kernel
theorem dX10_puts_2 : decode cX10_puts 2 = .ok (.istore_n 2, 1) := by decide +kernel
theorem dX10_puts_3 : decode cX10_puts 3 = .ok (.iload_n 2, 1) := by decide +kernel
theorem dX10_puts_4 : decode cX10_puts 4 = .ok (.ifCond .lt 35, 3) := by decide +kernel
theorem dX10_puts_7 : decode cX10_puts 7 = .ok (.aload_n 0, 1) := by decide +kernel
theorem dX10_puts_8 : decode cX10_puts 8 = .ok (.getfield 63, 3) := by decide +kernel
theorem dX10_puts_11 : decode cX10_puts 11 = .ok (.aload_n 0, 1) := by decide +kernel
theorem dX10_puts_12 : decode cX10_puts 12 = .ok (.getfield 213, 3) := by decide +kernel
theorem dX10_puts_15 : decode cX10_puts 15 = .ok (.iload_n 1, 1) := by decide +kernel
theorem dX10_puts_16 : decode cX10_puts 16 = .ok (.iload_n 2, 1) := by decide +kernel
theorem dX10_puts_17 : decode cX10_puts 17 = .ok (.ishr, 1) := by decide +kernel
theorem dX10_puts_18 : decode cX10_puts 18 = .ok (.sipush 255, 3) := by decide +kernel
theorem dX10_puts_21 : decode cX10_puts 21 = .ok (.iand, 1) := by decide +kernel
theorem dX10_puts_22 : decode cX10_puts 22 = .ok (.iastore, 1) := by decide +kernel
theorem dX10_puts_23 : decode cX10_puts 23 = .ok (.aload_n 0, 1) := by decide +kernel
theorem dX10_puts_24 : decode cX10_puts 24 = .ok (.aload_n 0, 1) := by decide +kernel
theorem dX10_puts_25 : decode cX10_puts 25 = .ok (.getfield 213, 3) := by decide +kernel
theorem dX10_puts_28 : decode cX10_puts 28 = .ok (.iconst 1, 1) := by decide +kernel
theorem dX10_puts_29 : decode cX10_puts 29 = .ok (.iadd, 1) := by decide +kernel
theorem dX10_puts_30 : decode cX10_puts 30 = .ok (.putfield 213, 3) := by decide +kernel
theorem dX10_puts_33 : decode cX10_puts 33 = .ok (.iinc 2 (-8), 3) := by decide +kernel
theorem dX10_puts_36 : decode cX10_puts 36 = .ok (.goto (-33), 3) := by decide +kernel
theorem dX10_puts_39 : decode cX10_puts 39 = .ok (.return_, 1) := by decide +kernel
theorem dX10_feed_0 : decode cX10_feed 0 = .ok (.aload_n 0, 1) := by decide +kernel
theorem dX10_feed_1 : decode cX10_feed 1 = .ok (.iconst 0, 1) := by decide +kernel
theorem dX10_feed_2 : decode cX10_feed 2 = .ok (.putfield 159, 3) := by decide +kernel
theorem dX10_feed_5 : decode cX10_feed 5 = .ok (.aload_n 0, 1) := by decide +kernel
theorem dX10_feed_6 : decode cX10_feed 6 = .ok (.getfield 213, 3) := by decide +kernel
theorem dX10_feed_9 : decode cX10_feed 9 = .ok (.sipush 380, 3) := by decide +kernel
theorem dX10_feed_12 : decode cX10_feed 12 = .ok (.if_icmp .le 5, 3) := by decide +kernel
theorem dX10_feed_15 : decode cX10_feed 15 = .ok (.iconst (-1), 1) := by decide +kernel
theorem dX10_feed_16 : decode cX10_feed 16 = .ok (.ireturn, 1) := by decide +kernel
theorem dX10_feed_17 : decode cX10_feed 17 = .ok (.aload_n 0, 1) := by decide +kernel
theorem dX10_feed_18 : decode cX10_feed 18 = .ok (.iload_n 1, 1) := by decide +kernel
theorem dX10_feed_19 : decode cX10_feed 19 = .ok (.invokevirtual 216, 3) := by decide +kernel
theorem dX10_feed_22 : decode cX10_feed 22 = .ok (.aload_n 0, 1) := by decide +kernel
theorem dX10_feed_23 : decode cX10_feed 23 = .ok (.iload_n 2, 1) := by decide +kernel
theorem dX10_feed_24 : decode cX10_feed 24 = .ok (.invokevirtual 216, 3) := by decide +kernel
theorem dX10_feed_27 : decode cX10_feed 27 = .ok (.aload_n 0, 1) := by decide +kernel
theorem dX10_feed_28 : decode cX10_feed 28 = .ok (.iload_n 3, 1) := by decide +kernel
theorem dX10_feed_29 : decode cX10_feed 29 = .ok (.invokevirtual 216, 3) := by decide +kernel
theorem dX10_feed_32 : decode cX10_feed 32 = .ok (.aload_n 0, 1) := by decide +kernel
theorem dX10_feed_33 : decode cX10_feed 33 = .ok (.iload 4, 2) := by decide +kernel
theorem dX10_feed_35 : decode cX10_feed 35 = .ok (.invokevirtual 216, 3) := by decide +kernel
theorem dX10_feed_38 : decode cX10_feed 38 = .ok (.aload_n 0, 1) := by decide +kernel
theorem dX10_feed_39 : decode cX10_feed 39 = .ok (.iload 5, 2) := by decide +kernel
theorem dX10_feed_41 : decode cX10_feed 41 = .ok (.invokevirtual 216, 3) := by decide +kernel
theorem dX10_feed_44 : decode cX10_feed 44 = .ok (.aload_n 0, 1) := by decide +kernel
theorem dX10_feed_45 : decode cX10_feed 45 = .ok (.getfield 213, 3) := by decide +kernel
theorem dX10_feed_48 : decode cX10_feed 48 = .ok (.ireturn, 1) := by decide +kernel
theorem dX10_end_0 : decode cX10_end 0 = .ok (.aload_n 0, 1) := by decide +kernel
theorem dX10_end_1 : decode cX10_end 1 = .ok (.iconst 0, 1) := by decide +kernel
theorem dX10_end_2 : decode cX10_end 2 = .ok (.putfield 159, 3) := by decide +kernel
theorem dX10_end_5 : decode cX10_end 5 = .ok (.aload_n 0, 1) := by decide +kernel
theorem dX10_end_6 : decode cX10_end 6 = .ok (.iload_n 1, 1) := by decide +kernel
theorem dX10_end_7 : decode cX10_end 7 = .ok (.iconst 0, 1) := by decide +kernel
theorem dX10_end_8 : decode cX10_end 8 = .ok (.aload_n 0, 1) := by decide +kernel
theorem dX10_end_9 : decode cX10_end 9 = .ok (.getfield 213, 3) := by decide +kernel
theorem dX10_end_12 : decode cX10_end 12 = .ok (.invokevirtual 169, 3) := by decide +kernel
theorem dX10_end_15 : decode cX10_end 15 = .ok (.ifCond .ne 5, 3) := by decide +kernel
theorem dX10_end_18 : decode cX10_end 18 = .ok (.iconst 0, 1) := by decide +kernel
theorem dX10_end_19 : decode cX10_end 19 = .ok (.ireturn, 1) := by decide +kernel
theorem dX10_end_20 : decode cX10_end 20 = .ok (.aload_n 0, 1) := by decide +kernel
theorem dX10_end_21 : decode cX10_end 21 = .ok (.iload_n 1, 1) := by decide +kernel
theorem dX10_end_22 : decode cX10_end 22 = .ok (.putfield 213, 3) := by decide +kernel
theorem dX10_end_25 : decode cX10_end 25 = .ok (.iconst 1, 1) := by decide +kernel
theorem dX10_end_26 : decode cX10_end 26 = .ok (.ireturn, 1) := by decide +kernel
theorem dX10_raw_0 : decode cX10_raw 0 = .ok (.iload_n 1, 1) := by decide +kernel
theorem dX10_raw_1 : decode cX10_raw 1 = .ok (.aload_n 0, 1) := by decide +kernel
theorem dX10_raw_2 : decode cX10_raw 2 = .ok (.getfield 213, 3) := by decide +kernel
theorem dX10_raw_5 : decode cX10_raw 5 = .ok (.if_icmp .ge 12, 3) := by decide +kernel
theorem dX10_raw_8 : decode cX10_raw 8 = .ok (.aload_n 0, 1) := by decide +kernel
theorem dX10_raw_9 : decode cX10_raw 9 = .ok (.getfield 63, 3) := by decide +kernel
theorem dX10_raw_12 : decode cX10_raw 12 = .ok (.iload_n 1, 1) := by decide +kernel
theorem dX10_raw_13 : decode cX10_raw 13 = .ok (.iaload, 1) := by decide +kernel
theorem dX10_raw_14 : decode cX10_raw 14 = .ok (.goto 4, 3) := by decide +kernel
theorem dX10_raw_17 : decode cX10_raw 17 = .ok (.iconst (-1), 1) := by decide +kernel
theorem dX10_raw_18 : decode cX10_raw 18 = .ok (.ireturn, 1) := by decide +kernel
theorem dX10_isLetter_0 : decode cX10_isLetter 0 = .ok (.aload_n 0, 1) := by decide +kernel
theorem dX10_isLetter_1 : decode cX10_isLetter 1 = .ok (.iload_n 1, 1) := by decide +kernel
theorem dX10_isLetter_2 : decode cX10_isLetter 2 = .ok (.bipush 97, 2) := by decide +kernel
theorem dX10_isLetter_4 : decode cX10_isLetter 4 = .ok (.bipush 122, 2) := by decide +kernel
theorem dX10_isLetter_6 : decode cX10_isLetter 6 = .ok (.invokevirtual 169, 3) := by decide +kernel
theorem dX10_isLetter_9 : decode cX10_isLetter 9 = .ok (.ifCond .ne 15, 3) := by decide +kernel
theorem dX10_isLetter_12 : decode cX10_isLetter 12 = .ok (.aload_n 0, 1) := by decide +kernel
theorem dX10_isLetter_13 : decode cX10_isLetter 13 = .ok (.iload_n 1, 1) := by decide +kernel
theorem dX10_isLetter_14 : decode cX10_isLetter 14 = .ok (.bipush 65, 2) := by decide +kernel
theorem dX10_isLetter_16 : decode cX10_isLetter 16 = .ok (.bipush 90, 2) := by decide +kernel
theorem dX10_isLetter_18 : decode cX10_isLetter 18 = .ok (.invokevirtual 169, 3) := by decide +kernel
theorem dX10_isLetter_21 : decode cX10_isLetter 21 = .ok (.ifCond .eq 7, 3) := by decide +kernel
theorem dX10_isLetter_24 : decode cX10_isLetter 24 = .ok (.iconst 1, 1) := by decide +kernel
theorem dX10_isLetter_25 : decode cX10_isLetter 25 = .ok (.goto 4, 3) := by decide +kernel
theorem dX10_isLetter_28 : decode cX10_isLetter 28 = .ok (.iconst 0, 1) := by decide +kernel
theorem dX10_isLetter_29 : decode cX10_isLetter 29 = .ok (.ireturn, 1) := by decide +kernel
theorem dX10_isDigit_0 : decode cX10_isDigit 0 = .ok (.aload_n 0, 1) := by decide +kernel
theorem dX10_isDigit_1 : decode cX10_isDigit 1 = .ok (.iload_n 1, 1) := by decide +kernel
theorem dX10_isDigit_2 : decode cX10_isDigit 2 = .ok (.bipush 48, 2) := by decide +kernel
theorem dX10_isDigit_4 : decode cX10_isDigit 4 = .ok (.bipush 57, 2) := by decide +kernel
theorem dX10_isDigit_6 : decode cX10_isDigit 6 = .ok (.invokevirtual 169, 3) := by decide +kernel
theorem dX10_isDigit_9 : decode cX10_isDigit 9 = .ok (.ireturn, 1) := by decide +kernel
theorem dX10_isMarkSign_0 : decode cX10_isMarkSign 0 = .ok (.iload_n 1, 1) := by decide +kernel
theorem dX10_isMarkSign_1 : decode cX10_isMarkSign 1 = .ok (.bipush 59, 2) := by decide +kernel
theorem dX10_isMarkSign_3 : decode cX10_isMarkSign 3 = .ok (.if_icmp .eq 57, 3) := by decide +kernel
theorem dX10_isMarkSign_6 : decode cX10_isMarkSign 6 = .ok (.iload_n 1, 1) := by decide +kernel
theorem dX10_isMarkSign_7 : decode cX10_isMarkSign 7 = .ok (.bipush 43, 2) := by decide +kernel
theorem dX10_isMarkSign_9 : decode cX10_isMarkSign 9 = .ok (.if_icmp .eq 51, 3) := by decide +kernel
theorem dX10_isMarkSign_12 : decode cX10_isMarkSign 12 = .ok (.iload_n 1, 1) := by decide +kernel
theorem dX10_isMarkSign_13 : decode cX10_isMarkSign 13 = .ok (.bipush 45, 2) := by decide +kernel
theorem dX10_isMarkSign_15 : decode cX10_isMarkSign 15 = .ok (.if_icmp .eq 45, 3) := by decide +kernel
theorem dX10_isMarkSign_18 : decode cX10_isMarkSign 18 = .ok (.iload_n 1, 1) := by decide +kernel
theorem dX10_isMarkSign_19 : decode cX10_isMarkSign 19 = .ok (.bipush 42, 2) := by decide +kernel
theorem dX10_isMarkSign_21 : decode cX10_isMarkSign 21 = .ok (.if_icmp .eq 39, 3) := by decide +kernel
theorem dX10_isMarkSign_24 : decode cX10_isMarkSign 24 = .ok (.iload_n 1, 1) := by decide +kernel
theorem dX10_isMarkSign_25 : decode cX10_isMarkSign 25 = .ok (.bipush 47, 2) := by decide +kernel
theorem dX10_isMarkSign_27 : decode cX10_isMarkSign 27 = .ok (.if_icmp .eq 33, 3) := by decide +kernel
theorem dX10_isMarkSign_30 : decode cX10_isMarkSign 30 = .ok (.iload_n 1, 1) := by decide +kernel
theorem dX10_isMarkSign_31 : decode cX10_isMarkSign 31 = .ok (.bipush 40, 2) := by decide +kernel
theorem dX10_isMarkSign_33 : decode cX10_isMarkSign 33 = .ok (.if_icmp .eq 27, 3) := by decide +kernel
theorem dX10_isMarkSign_36 : decode cX10_isMarkSign 36 = .ok (.iload_n 1, 1) := by decide +kernel
theorem dX10_isMarkSign_37 : decode cX10_isMarkSign 37 = .ok (.bipush 41, 2) := by decide +kernel
theorem dX10_isMarkSign_39 : decode cX10_isMarkSign 39 = .ok (.if_icmp .eq 21, 3) := by decide +kernel
theorem dX10_isMarkSign_42 : decode cX10_isMarkSign 42 = .ok (.iload_n 1, 1) := by decide +kernel
theorem dX10_isMarkSign_43 : decode cX10_isMarkSign 43 = .ok (.bipush 60, 2) := by decide +kernel
theorem dX10_isMarkSign_45 : decode cX10_isMarkSign 45 = .ok (.if_icmp .eq 15, 3) := by decide +kernel
theorem dX10_isMarkSign_48 : decode cX10_isMarkSign 48 = .ok (.iload_n 1, 1) := by decide +kernel
theorem dX10_isMarkSign_49 : decode cX10_isMarkSign 49 = .ok (.bipush 61, 2) := by decide +kernel
theorem dX10_isMarkSign_51 : decode cX10_isMarkSign 51 = .ok (.if_icmp .eq 9, 3) := by decide +kernel
theorem dX10_isMarkSign_54 : decode cX10_isMarkSign 54 = .ok (.iload_n 1, 1) := by decide +kernel
theorem dX10_isMarkSign_55 : decode cX10_isMarkSign 55 = .ok (.bipush 62, 2) := by decide +kernel
theorem dX10_isMarkSign_57 : decode cX10_isMarkSign 57 = .ok (.if_icmp .ne 7, 3) := by decide +kernel
theorem dX10_isMarkSign_60 : decode cX10_isMarkSign 60 = .ok (.iconst 1, 1) := by decide +kernel
theorem dX10_isMarkSign_61 : decode cX10_isMarkSign 61 = .ok (.goto 4, 3) := by decide +kernel
theorem dX10_isMarkSign_64 : decode cX10_isMarkSign 64 = .ok (.iconst 0, 1) := by decide +kernel
theorem dX10_isMarkSign_65 : decode cX10_isMarkSign 65 = .ok (.ireturn, 1) := by decide +kernel
theorem dX10_wordAt_0 : decode cX10_wordAt 0 = .ok (.iconst (-1), 1) := by decide +kernel
theorem dX10_wordAt_1 : decode cX10_wordAt 1 = .ok (.istore_n 3, 1) := by decide +kernel
theorem dX10_wordAt_2 : decode cX10_wordAt 2 = .ok (.iconst 0, 1) := by decide +kernel
theorem dX10_wordAt_3 : decode cX10_wordAt 3 = .ok (.istore 4, 2) := by decide +kernel
theorem dX10_wordAt_5 : decode cX10_wordAt 5 = .ok (.iload 4, 2) := by decide +kernel
theorem dX10_wordAt_7 : decode cX10_wordAt 7 = .ok (.bipush 63, 2) := by decide +kernel
theorem dX10_wordAt_9 : decode cX10_wordAt 9 = .ok (.if_icmp .ge 108, 3) := by decide +kernel
theorem dX10_wordAt_12 : decode cX10_wordAt 12 = .ok (.iconst 0, 1) := by decide +kernel
theorem dX10_wordAt_13 : decode cX10_wordAt 13 = .ok (.istore 5, 2) := by decide +kernel
theorem dX10_wordAt_15 : decode cX10_wordAt 15 = .ok (.iload_n 3, 1) := by decide +kernel
theorem dX10_wordAt_16 : decode cX10_wordAt 16 = .ok (.iconst 1, 1) := by decide +kernel
theorem dX10_wordAt_17 : decode cX10_wordAt 17 = .ok (.iadd, 1) := by decide +kernel
theorem dX10_wordAt_18 : decode cX10_wordAt 18 = .ok (.istore_n 3, 1) := by decide +kernel
theorem dX10_wordAt_19 : decode cX10_wordAt 19 = .ok (.iload_n 1, 1) := by decide +kernel
theorem dX10_wordAt_20 : decode cX10_wordAt 20 = .ok (.iload 5, 2) := by decide +kernel
theorem dX10_wordAt_22 : decode cX10_wordAt 22 = .ok (.iadd, 1) := by decide +kernel
theorem dX10_wordAt_23 : decode cX10_wordAt 23 = .ok (.iload_n 2, 1) := by decide +kernel
theorem dX10_wordAt_24 : decode cX10_wordAt 24 = .ok (.if_icmp .ge 36, 3) := by decide +kernel
theorem dX10_wordAt_27 : decode cX10_wordAt 27 = .ok (.aload_n 0, 1) := by decide +kernel
theorem dX10_wordAt_28 : decode cX10_wordAt 28 = .ok (.getfield 66, 3) := by decide +kernel
theorem dX10_wordAt_31 : decode cX10_wordAt 31 = .ok (.iload 4, 2) := by decide +kernel
theorem dX10_wordAt_33 : decode cX10_wordAt 33 = .ok (.iconst 1, 1) := by decide +kernel
theorem dX10_wordAt_34 : decode cX10_wordAt 34 = .ok (.iadd, 1) := by decide +kernel
theorem dX10_wordAt_35 : decode cX10_wordAt 35 = .ok (.iload 5, 2) := by decide +kernel
theorem dX10_wordAt_37 : decode cX10_wordAt 37 = .ok (.iadd, 1) := by decide +kernel
theorem dX10_wordAt_38 : decode cX10_wordAt 38 = .ok (.iaload, 1) := by decide +kernel
theorem dX10_wordAt_39 : decode cX10_wordAt 39 = .ok (.aload_n 0, 1) := by decide +kernel
theorem dX10_wordAt_40 : decode cX10_wordAt 40 = .ok (.getfield 63, 3) := by decide +kernel
theorem dX10_wordAt_43 : decode cX10_wordAt 43 = .ok (.iload_n 1, 1) := by decide +kernel
theorem dX10_wordAt_44 : decode cX10_wordAt 44 = .ok (.iload 5, 2) := by decide +kernel
theorem dX10_wordAt_46 : decode cX10_wordAt 46 = .ok (.iadd, 1) := by decide +kernel
theorem dX10_wordAt_47 : decode cX10_wordAt 47 = .ok (.iaload, 1) := by decide +kernel
theorem dX10_wordAt_48 : decode cX10_wordAt 48 = .ok (.if_icmp .ne 12, 3) := by decide +kernel
theorem dX10_wordAt_51 : decode cX10_wordAt 51 = .ok (.iload 5, 2) := by decide +kernel
theorem dX10_wordAt_53 : decode cX10_wordAt 53 = .ok (.iconst 1, 1) := by decide +kernel
theorem dX10_wordAt_54 : decode cX10_wordAt 54 = .ok (.iadd, 1) := by decide +kernel
theorem dX10_wordAt_55 : decode cX10_wordAt 55 = .ok (.istore 5, 2) := by decide +kernel
theorem dX10_wordAt_57 : decode cX10_wordAt 57 = .ok (.goto (-38), 3) := by decide +kernel
theorem dX10_wordAt_60 : decode cX10_wordAt 60 = .ok (.iload_n 1, 1) := by decide +kernel
theorem dX10_wordAt_61 : decode cX10_wordAt 61 = .ok (.iload 5, 2) := by decide +kernel
theorem dX10_wordAt_63 : decode cX10_wordAt 63 = .ok (.iadd, 1) := by decide +kernel
theorem dX10_wordAt_64 : decode cX10_wordAt 64 = .ok (.iload_n 2, 1) := by decide +kernel
theorem dX10_wordAt_65 : decode cX10_wordAt 65 = .ok (.if_icmp .ne 22, 3) := by decide +kernel
theorem dX10_wordAt_68 : decode cX10_wordAt 68 = .ok (.aload_n 0, 1) := by decide +kernel
theorem dX10_wordAt_69 : decode cX10_wordAt 69 = .ok (.getfield 66, 3) := by decide +kernel
theorem dX10_wordAt_72 : decode cX10_wordAt 72 = .ok (.iload 4, 2) := by decide +kernel
theorem dX10_wordAt_74 : decode cX10_wordAt 74 = .ok (.iconst 1, 1) := by decide +kernel
theorem dX10_wordAt_75 : decode cX10_wordAt 75 = .ok (.iadd, 1) := by decide +kernel
theorem dX10_wordAt_76 : decode cX10_wordAt 76 = .ok (.iload 5, 2) := by decide +kernel
theorem dX10_wordAt_78 : decode cX10_wordAt 78 = .ok (.iadd, 1) := by decide +kernel
theorem dX10_wordAt_79 : decode cX10_wordAt 79 = .ok (.iaload, 1) := by decide +kernel
theorem dX10_wordAt_80 : decode cX10_wordAt 80 = .ok (.bipush 32, 2) := by decide +kernel
theorem dX10_wordAt_82 : decode cX10_wordAt 82 = .ok (.if_icmp .ne 5, 3) := by decide +kernel
theorem dX10_wordAt_85 : decode cX10_wordAt 85 = .ok (.iload_n 3, 1) := by decide +kernel
theorem dX10_wordAt_86 : decode cX10_wordAt 86 = .ok (.ireturn, 1) := by decide +kernel
theorem dX10_wordAt_87 : decode cX10_wordAt 87 = .ok (.iload 4, 2) := by decide +kernel
theorem dX10_wordAt_89 : decode cX10_wordAt 89 = .ok (.iconst 1, 1) := by decide +kernel
theorem dX10_wordAt_90 : decode cX10_wordAt 90 = .ok (.iadd, 1) := by decide +kernel
theorem dX10_wordAt_91 : decode cX10_wordAt 91 = .ok (.istore 4, 2) := by decide +kernel
theorem dX10_wordAt_93 : decode cX10_wordAt 93 = .ok (.aload_n 0, 1) := by decide +kernel
theorem dX10_wordAt_94 : decode cX10_wordAt 94 = .ok (.getfield 66, 3) := by decide +kernel
theorem dX10_wordAt_97 : decode cX10_wordAt 97 = .ok (.iload 4, 2) := by decide +kernel
theorem dX10_wordAt_99 : decode cX10_wordAt 99 = .ok (.iaload, 1) := by decide +kernel
theorem dX10_wordAt_100 : decode cX10_wordAt 100 = .ok (.bipush 32, 2) := by decide +kernel
theorem dX10_wordAt_102 : decode cX10_wordAt 102 = .ok (.if_icmp .eq 12, 3) := by decide +kernel
theorem dX10_wordAt_105 : decode cX10_wordAt 105 = .ok (.iload 4, 2) := by decide +kernel
theorem dX10_wordAt_107 : decode cX10_wordAt 107 = .ok (.iconst 1, 1) := by decide +kernel
theorem dX10_wordAt_108 : decode cX10_wordAt 108 = .ok (.iadd, 1) := by decide +kernel
theorem dX10_wordAt_109 : decode cX10_wordAt 109 = .ok (.istore 4, 2) := by decide +kernel
theorem dX10_wordAt_111 : decode cX10_wordAt 111 = .ok (.goto (-18), 3) := by decide +kernel
theorem dX10_wordAt_114 : decode cX10_wordAt 114 = .ok (.goto (-109), 3) := by decide +kernel
theorem dX10_wordAt_117 : decode cX10_wordAt 117 = .ok (.iconst (-1), 1) := by decide +kernel
theorem dX10_wordAt_118 : decode cX10_wordAt 118 = .ok (.ireturn, 1) := by decide +kernel
theorem dX10_isWording_0 : decode cX10_isWording 0 = .ok (.iload_n 1, 1) := by decide +kernel
theorem dX10_isWording_1 : decode cX10_isWording 1 = .ok (.ifCond .lt 15, 3) := by decide +kernel
theorem dX10_isWording_4 : decode cX10_isWording 4 = .ok (.iload_n 1, 1) := by decide +kernel
theorem dX10_isWording_5 : decode cX10_isWording 5 = .ok (.aload_n 0, 1) := by decide +kernel
theorem dX10_isWording_6 : decode cX10_isWording 6 = .ok (.getfield 220, 3) := by decide +kernel
theorem dX10_isWording_9 : decode cX10_isWording 9 = .ok (.if_icmp .ge 7, 3) := by decide +kernel
theorem dX10_isWording_12 : decode cX10_isWording 12 = .ok (.iconst 1, 1) := by decide +kernel
theorem dX10_isWording_13 : decode cX10_isWording 13 = .ok (.goto 4, 3) := by decide +kernel
theorem dX10_isWording_16 : decode cX10_isWording 16 = .ok (.iconst 0, 1) := by decide +kernel
theorem dX10_isWording_17 : decode cX10_isWording 17 = .ok (.ireturn, 1) := by decide +kernel
theorem dX10_next_0 : decode cX10_next 0 = .ok (.aload_n 0, 1) := by decide +kernel
theorem dX10_next_1 : decode cX10_next 1 = .ok (.aload_n 0, 1) := by decide +kernel
theorem dX10_next_2 : decode cX10_next 2 = .ok (.getfield 223, 3) := by decide +kernel
theorem dX10_next_5 : decode cX10_next 5 = .ok (.invokevirtual 226, 3) := by decide +kernel
theorem dX10_next_8 : decode cX10_next 8 = .ok (.bipush 32, 2) := by decide +kernel
theorem dX10_next_10 : decode cX10_next 10 = .ok (.if_icmp .eq 16, 3) := by decide +kernel
theorem dX10_next_13 : decode cX10_next 13 = .ok (.aload_n 0, 1) := by decide +kernel
theorem dX10_next_14 : decode cX10_next 14 = .ok (.aload_n 0, 1) := by decide +kernel
theorem dX10_next_15 : decode cX10_next 15 = .ok (.getfield 223, 3) := by decide +kernel
theorem dX10_next_18 : decode cX10_next 18 = .ok (.invokevirtual 226, 3) := by decide +kernel
theorem dX10_next_21 : decode cX10_next 21 = .ok (.bipush 10, 2) := by decide +kernel
theorem dX10_next_23 : decode cX10_next 23 = .ok (.if_icmp .ne 16, 3) := by decide +kernel
theorem dX10_next_26 : decode cX10_next 26 = .ok (.aload_n 0, 1) := by decide +kernel
theorem dX10_next_27 : decode cX10_next 27 = .ok (.aload_n 0, 1) := by decide +kernel
theorem dX10_next_28 : decode cX10_next 28 = .ok (.getfield 223, 3) := by decide +kernel
theorem dX10_next_31 : decode cX10_next 31 = .ok (.iconst 1, 1) := by decide +kernel
theorem dX10_next_32 : decode cX10_next 32 = .ok (.iadd, 1) := by decide +kernel
theorem dX10_next_33 : decode cX10_next 33 = .ok (.putfield 223, 3) := by decide +kernel
theorem dX10_next_36 : decode cX10_next 36 = .ok (.goto (-36), 3) := by decide +kernel
theorem dX10_next_39 : decode cX10_next 39 = .ok (.aload_n 0, 1) := by decide +kernel
theorem dX10_next_40 : decode cX10_next 40 = .ok (.aload_n 0, 1) := by decide +kernel
theorem dX10_next_41 : decode cX10_next 41 = .ok (.getfield 223, 3) := by decide +kernel
theorem dX10_next_44 : decode cX10_next 44 = .ok (.putfield 229, 3) := by decide +kernel
theorem dX10_next_47 : decode cX10_next 47 = .ok (.aload_n 0, 1) := by decide +kernel
theorem dX10_next_48 : decode cX10_next 48 = .ok (.iconst 1, 1) := by decide +kernel
theorem dX10_next_49 : decode cX10_next 49 = .ok (.putfield 232, 3) := by decide +kernel
theorem dX10_next_52 : decode cX10_next 52 = .ok (.aload_n 0, 1) := by decide +kernel
theorem dX10_next_53 : decode cX10_next 53 = .ok (.aload_n 0, 1) := by decide +kernel
theorem dX10_next_54 : decode cX10_next 54 = .ok (.getfield 223, 3) := by decide +kernel
theorem dX10_next_57 : decode cX10_next 57 = .ok (.invokevirtual 226, 3) := by decide +kernel
theorem dX10_next_60 : decode cX10_next 60 = .ok (.istore_n 1, 1) := by decide +kernel
theorem dX10_next_61 : decode cX10_next 61 = .ok (.iload_n 1, 1) := by decide +kernel
theorem dX10_next_62 : decode cX10_next 62 = .ok (.iconst (-1), 1) := by decide +kernel
theorem dX10_next_63 : decode cX10_next 63 = .ok (.if_icmp .ne 9, 3) := by decide +kernel
theorem dX10_next_66 : decode cX10_next 66 = .ok (.aload_n 0, 1) := by decide +kernel
theorem dX10_next_67 : decode cX10_next 67 = .ok (.iconst 0, 1) := by decide +kernel
theorem dX10_next_68 : decode cX10_next 68 = .ok (.putfield 232, 3) := by decide +kernel
theorem dX10_next_71 : decode cX10_next 71 = .ok (.return_, 1) := by decide +kernel
theorem dX10_next_72 : decode cX10_next 72 = .ok (.aload_n 0, 1) := by decide +kernel
theorem dX10_next_73 : decode cX10_next 73 = .ok (.aload_n 0, 1) := by decide +kernel
theorem dX10_next_74 : decode cX10_next 74 = .ok (.getfield 223, 3) := by decide +kernel
theorem dX10_next_77 : decode cX10_next 77 = .ok (.iconst 1, 1) := by decide +kernel
theorem dX10_next_78 : decode cX10_next 78 = .ok (.iadd, 1) := by decide +kernel
theorem dX10_next_79 : decode cX10_next 79 = .ok (.putfield 223, 3) := by decide +kernel
theorem dX10_next_82 : decode cX10_next 82 = .ok (.aload_n 0, 1) := by decide +kernel
theorem dX10_next_83 : decode cX10_next 83 = .ok (.iload_n 1, 1) := by decide +kernel
theorem dX10_next_84 : decode cX10_next 84 = .ok (.putfield 235, 3) := by decide +kernel
theorem dX10_next_87 : decode cX10_next 87 = .ok (.aload_n 0, 1) := by decide +kernel
theorem dX10_next_88 : decode cX10_next 88 = .ok (.iload_n 1, 1) := by decide +kernel
theorem dX10_next_89 : decode cX10_next 89 = .ok (.invokevirtual 238, 3) := by decide +kernel
theorem dX10_next_92 : decode cX10_next 92 = .ok (.ifCond .eq 63, 3) := by decide +kernel
theorem dX10_next_95 : decode cX10_next 95 = .ok (.aload_n 0, 1) := by decide +kernel
theorem dX10_next_96 : decode cX10_next 96 = .ok (.aload_n 0, 1) := by decide +kernel
theorem dX10_next_97 : decode cX10_next 97 = .ok (.aload_n 0, 1) := by decide +kernel
theorem dX10_next_98 : decode cX10_next 98 = .ok (.getfield 223, 3) := by decide +kernel
theorem dX10_next_101 : decode cX10_next 101 = .ok (.invokevirtual 226, 3) := by decide +kernel
theorem dX10_next_104 : decode cX10_next 104 = .ok (.invokevirtual 238, 3) := by decide +kernel
theorem dX10_next_107 : decode cX10_next 107 = .ok (.ifCond .eq 16, 3) := by decide +kernel
theorem dX10_next_110 : decode cX10_next 110 = .ok (.aload_n 0, 1) := by decide +kernel
theorem dX10_next_111 : decode cX10_next 111 = .ok (.aload_n 0, 1) := by decide +kernel
theorem dX10_next_112 : decode cX10_next 112 = .ok (.getfield 223, 3) := by decide +kernel
theorem dX10_next_115 : decode cX10_next 115 = .ok (.iconst 1, 1) := by decide +kernel
theorem dX10_next_116 : decode cX10_next 116 = .ok (.iadd, 1) := by decide +kernel
theorem dX10_next_117 : decode cX10_next 117 = .ok (.putfield 223, 3) := by decide +kernel
theorem dX10_next_120 : decode cX10_next 120 = .ok (.goto (-25), 3) := by decide +kernel
theorem dX10_next_123 : decode cX10_next 123 = .ok (.aload_n 0, 1) := by decide +kernel
theorem dX10_next_124 : decode cX10_next 124 = .ok (.aload_n 0, 1) := by decide +kernel
theorem dX10_next_125 : decode cX10_next 125 = .ok (.aload_n 0, 1) := by decide +kernel
theorem dX10_next_126 : decode cX10_next 126 = .ok (.getfield 229, 3) := by decide +kernel
theorem dX10_next_129 : decode cX10_next 129 = .ok (.aload_n 0, 1) := by decide +kernel
theorem dX10_next_130 : decode cX10_next 130 = .ok (.getfield 223, 3) := by decide +kernel
theorem dX10_next_133 : decode cX10_next 133 = .ok (.invokevirtual 241, 3) := by decide +kernel
theorem dX10_next_136 : decode cX10_next 136 = .ok (.putfield 235, 3) := by decide +kernel
theorem dX10_next_139 : decode cX10_next 139 = .ok (.aload_n 0, 1) := by decide +kernel
theorem dX10_next_140 : decode cX10_next 140 = .ok (.getfield 235, 3) := by decide +kernel
theorem dX10_next_143 : decode cX10_next 143 = .ok (.iconst (-1), 1) := by decide +kernel
theorem dX10_next_144 : decode cX10_next 144 = .ok (.if_icmp .eq 129, 3) := by decide +kernel
theorem dX10_next_147 : decode cX10_next 147 = .ok (.aload_n 0, 1) := by decide +kernel
theorem dX10_next_148 : decode cX10_next 148 = .ok (.iconst 2, 1) := by decide +kernel
theorem dX10_next_149 : decode cX10_next 149 = .ok (.putfield 232, 3) := by decide +kernel
theorem dX10_next_152 : decode cX10_next 152 = .ok (.goto 121, 3) := by decide +kernel
theorem dX10_next_155 : decode cX10_next 155 = .ok (.aload_n 0, 1) := by decide +kernel
theorem dX10_next_156 : decode cX10_next 156 = .ok (.iload_n 1, 1) := by decide +kernel
theorem dX10_next_157 : decode cX10_next 157 = .ok (.invokevirtual 244, 3) := by decide +kernel
theorem dX10_next_160 : decode cX10_next 160 = .ok (.ifCond .eq 100, 3) := by decide +kernel
theorem dX10_next_163 : decode cX10_next 163 = .ok (.aload_n 0, 1) := by decide +kernel
theorem dX10_next_164 : decode cX10_next 164 = .ok (.iload_n 1, 1) := by decide +kernel
theorem dX10_next_165 : decode cX10_next 165 = .ok (.bipush 48, 2) := by decide +kernel
theorem dX10_next_167 : decode cX10_next 167 = .ok (.isub, 1) := by decide +kernel
theorem dX10_next_168 : decode cX10_next 168 = .ok (.putfield 235, 3) := by decide +kernel
theorem dX10_next_171 : decode cX10_next 171 = .ok (.aload_n 0, 1) := by decide +kernel
theorem dX10_next_172 : decode cX10_next 172 = .ok (.aload_n 0, 1) := by decide +kernel
theorem dX10_next_173 : decode cX10_next 173 = .ok (.aload_n 0, 1) := by decide +kernel
theorem dX10_next_174 : decode cX10_next 174 = .ok (.getfield 223, 3) := by decide +kernel
theorem dX10_next_177 : decode cX10_next 177 = .ok (.invokevirtual 226, 3) := by decide +kernel
theorem dX10_next_180 : decode cX10_next 180 = .ok (.invokevirtual 244, 3) := by decide +kernel
theorem dX10_next_183 : decode cX10_next 183 = .ok (.ifCond .eq 56, 3) := by decide +kernel
theorem dX10_next_186 : decode cX10_next 186 = .ok (.aload_n 0, 1) := by decide +kernel
theorem dX10_next_187 : decode cX10_next 187 = .ok (.aload_n 0, 1) := by decide +kernel
theorem dX10_next_188 : decode cX10_next 188 = .ok (.getfield 235, 3) := by decide +kernel
theorem dX10_next_191 : decode cX10_next 191 = .ok (.sipush 10000, 3) := by decide +kernel
theorem dX10_next_194 : decode cX10_next 194 = .ok (.if_icmp .ge 25, 3) := by decide +kernel
theorem dX10_next_197 : decode cX10_next 197 = .ok (.bipush 10, 2) := by decide +kernel
theorem dX10_next_199 : decode cX10_next 199 = .ok (.aload_n 0, 1) := by decide +kernel
theorem dX10_next_200 : decode cX10_next 200 = .ok (.getfield 235, 3) := by decide +kernel
theorem dX10_next_203 : decode cX10_next 203 = .ok (.imul, 1) := by decide +kernel
theorem dX10_next_204 : decode cX10_next 204 = .ok (.aload_n 0, 1) := by decide +kernel
theorem dX10_next_205 : decode cX10_next 205 = .ok (.aload_n 0, 1) := by decide +kernel
theorem dX10_next_206 : decode cX10_next 206 = .ok (.getfield 223, 3) := by decide +kernel
theorem dX10_next_209 : decode cX10_next 209 = .ok (.invokevirtual 226, 3) := by decide +kernel
theorem dX10_next_212 : decode cX10_next 212 = .ok (.iadd, 1) := by decide +kernel
theorem dX10_next_213 : decode cX10_next 213 = .ok (.bipush 48, 2) := by decide +kernel
theorem dX10_next_215 : decode cX10_next 215 = .ok (.isub, 1) := by decide +kernel
theorem dX10_next_216 : decode cX10_next 216 = .ok (.goto 7, 3) := by decide +kernel
theorem dX10_next_219 : decode cX10_next 219 = .ok (.aload_n 0, 1) := by decide +kernel
theorem dX10_next_220 : decode cX10_next 220 = .ok (.getfield 235, 3) := by decide +kernel
theorem dX10_next_223 : decode cX10_next 223 = .ok (.putfield 235, 3) := by decide +kernel
theorem dX10_next_226 : decode cX10_next 226 = .ok (.aload_n 0, 1) := by decide +kernel
theorem dX10_next_227 : decode cX10_next 227 = .ok (.aload_n 0, 1) := by decide +kernel
theorem dX10_next_228 : decode cX10_next 228 = .ok (.getfield 223, 3) := by decide +kernel
theorem dX10_next_231 : decode cX10_next 231 = .ok (.iconst 1, 1) := by decide +kernel
theorem dX10_next_232 : decode cX10_next 232 = .ok (.iadd, 1) := by decide +kernel
theorem dX10_next_233 : decode cX10_next 233 = .ok (.putfield 223, 3) := by decide +kernel
theorem dX10_next_236 : decode cX10_next 236 = .ok (.goto (-65), 3) := by decide +kernel
theorem dX10_next_239 : decode cX10_next 239 = .ok (.aload_n 0, 1) := by decide +kernel
theorem dX10_next_240 : decode cX10_next 240 = .ok (.getfield 223, 3) := by decide +kernel
theorem dX10_next_243 : decode cX10_next 243 = .ok (.aload_n 0, 1) := by decide +kernel
theorem dX10_next_244 : decode cX10_next 244 = .ok (.getfield 229, 3) := by decide +kernel
theorem dX10_next_247 : decode cX10_next 247 = .ok (.isub, 1) := by decide +kernel
theorem dX10_next_248 : decode cX10_next 248 = .ok (.iconst 5, 1) := by decide +kernel
theorem dX10_next_249 : decode cX10_next 249 = .ok (.if_icmp .ge 24, 3) := by decide +kernel
theorem dX10_next_252 : decode cX10_next 252 = .ok (.aload_n 0, 1) := by decide +kernel
theorem dX10_next_253 : decode cX10_next 253 = .ok (.iconst 3, 1) := by decide +kernel
theorem dX10_next_254 : decode cX10_next 254 = .ok (.putfield 232, 3) := by decide +kernel
theorem dX10_next_257 : decode cX10_next 257 = .ok (.goto 16, 3) := by decide +kernel
theorem dX10_next_260 : decode cX10_next 260 = .ok (.aload_n 0, 1) := by decide +kernel
theorem dX10_next_261 : decode cX10_next 261 = .ok (.iload_n 1, 1) := by decide +kernel
theorem dX10_next_262 : decode cX10_next 262 = .ok (.invokevirtual 247, 3) := by decide +kernel
theorem dX10_next_265 : decode cX10_next 265 = .ok (.ifCond .eq 8, 3) := by decide +kernel
theorem dX10_next_268 : decode cX10_next 268 = .ok (.aload_n 0, 1) := by decide +kernel
theorem dX10_next_269 : decode cX10_next 269 = .ok (.iconst 4, 1) := by decide +kernel
theorem dX10_next_270 : decode cX10_next 270 = .ok (.putfield 232, 3) := by decide +kernel
theorem dX10_next_273 : decode cX10_next 273 = .ok (.aload_n 0, 1) := by decide +kernel
theorem dX10_next_274 : decode cX10_next 274 = .ok (.getfield 232, 3) := by decide +kernel
theorem dX10_next_277 : decode cX10_next 277 = .ok (.iconst 1, 1) := by decide +kernel
theorem dX10_next_278 : decode cX10_next 278 = .ok (.if_icmp .ne 4, 3) := by decide +kernel
theorem dX10_next_281 : decode cX10_next 281 = .ok (.return_, 1) := by decide +kernel
theorem dX10_next_282 : decode cX10_next 282 = .ok (.aload_n 0, 1) := by decide +kernel
theorem dX10_next_283 : decode cX10_next 283 = .ok (.getfield 69, 3) := by decide +kernel
theorem dX10_next_286 : decode cX10_next 286 = .ok (.sipush 400, 3) := by decide +kernel
theorem dX10_next_289 : decode cX10_next 289 = .ok (.aload_n 0, 1) := by decide +kernel
theorem dX10_next_290 : decode cX10_next 290 = .ok (.getfield 220, 3) := by decide +kernel
theorem dX10_next_293 : decode cX10_next 293 = .ok (.imul, 1) := by decide +kernel
theorem dX10_next_294 : decode cX10_next 294 = .ok (.aload_n 0, 1) := by decide +kernel
theorem dX10_next_295 : decode cX10_next 295 = .ok (.getfield 72, 3) := by decide +kernel
theorem dX10_next_298 : decode cX10_next 298 = .ok (.aload_n 0, 1) := by decide +kernel
theorem dX10_next_299 : decode cX10_next 299 = .ok (.getfield 220, 3) := by decide +kernel
theorem dX10_next_302 : decode cX10_next 302 = .ok (.iaload, 1) := by decide +kernel
theorem dX10_next_303 : decode cX10_next 303 = .ok (.iadd, 1) := by decide +kernel
theorem dX10_next_304 : decode cX10_next 304 = .ok (.aload_n 0, 1) := by decide +kernel
theorem dX10_next_305 : decode cX10_next 305 = .ok (.getfield 232, 3) := by decide +kernel
theorem dX10_next_308 : decode cX10_next 308 = .ok (.iconst 3, 1) := by decide +kernel
theorem dX10_next_309 : decode cX10_next 309 = .ok (.if_icmp .ne 14, 3) := by decide +kernel
theorem dX10_next_312 : decode cX10_next 312 = .ok (.sipush 1000, 3) := by decide +kernel
theorem dX10_next_315 : decode cX10_next 315 = .ok (.aload_n 0, 1) := by decide +kernel
theorem dX10_next_316 : decode cX10_next 316 = .ok (.getfield 235, 3) := by decide +kernel
theorem dX10_next_319 : decode cX10_next 319 = .ok (.iadd, 1) := by decide +kernel
theorem dX10_next_320 : decode cX10_next 320 = .ok (.goto 25, 3) := by decide +kernel
theorem dX10_next_323 : decode cX10_next 323 = .ok (.aload_n 0, 1) := by decide +kernel
theorem dX10_next_324 : decode cX10_next 324 = .ok (.getfield 232, 3) := by decide +kernel
theorem dX10_next_327 : decode cX10_next 327 = .ok (.iconst 4, 1) := by decide +kernel
theorem dX10_next_328 : decode cX10_next 328 = .ok (.if_icmp .ne 13, 3) := by decide +kernel
theorem dX10_next_331 : decode cX10_next 331 = .ok (.bipush 100, 2) := by decide +kernel
theorem dX10_next_333 : decode cX10_next 333 = .ok (.aload_n 0, 1) := by decide +kernel
theorem dX10_next_334 : decode cX10_next 334 = .ok (.getfield 235, 3) := by decide +kernel
theorem dX10_next_337 : decode cX10_next 337 = .ok (.iadd, 1) := by decide +kernel
theorem dX10_next_338 : decode cX10_next 338 = .ok (.goto 7, 3) := by decide +kernel
theorem dX10_next_341 : decode cX10_next 341 = .ok (.aload_n 0, 1) := by decide +kernel
theorem dX10_next_342 : decode cX10_next 342 = .ok (.getfield 235, 3) := by decide +kernel
theorem dX10_next_345 : decode cX10_next 345 = .ok (.iastore, 1) := by decide +kernel
theorem dX10_next_346 : decode cX10_next 346 = .ok (.aload_n 0, 1) := by decide +kernel
theorem dX10_next_347 : decode cX10_next 347 = .ok (.getfield 72, 3) := by decide +kernel
theorem dX10_next_350 : decode cX10_next 350 = .ok (.aload_n 0, 1) := by decide +kernel
theorem dX10_next_351 : decode cX10_next 351 = .ok (.getfield 220, 3) := by decide +kernel
theorem dX10_next_354 : decode cX10_next 354 = .ok (.aload_n 0, 1) := by decide +kernel
theorem dX10_next_355 : decode cX10_next 355 = .ok (.getfield 72, 3) := by decide +kernel
theorem dX10_next_358 : decode cX10_next 358 = .ok (.aload_n 0, 1) := by decide +kernel
theorem dX10_next_359 : decode cX10_next 359 = .ok (.getfield 220, 3) := by decide +kernel
theorem dX10_next_362 : decode cX10_next 362 = .ok (.iaload, 1) := by decide +kernel
theorem dX10_next_363 : decode cX10_next 363 = .ok (.iconst 1, 1) := by decide +kernel
theorem dX10_next_364 : decode cX10_next 364 = .ok (.iadd, 1) := by decide +kernel
theorem dX10_next_365 : decode cX10_next 365 = .ok (.iastore, 1) := by decide +kernel
theorem dX10_next_366 : decode cX10_next 366 = .ok (.return_, 1) := by decide +kernel
theorem dX10_fails_0 : decode cX10_fails 0 = .ok (.aload_n 0, 1) := by decide +kernel
theorem dX10_fails_1 : decode cX10_fails 1 = .ok (.iload_n 1, 1) := by decide +kernel
theorem dX10_fails_2 : decode cX10_fails 2 = .ok (.putfield 250, 3) := by decide +kernel
theorem dX10_fails_5 : decode cX10_fails 5 = .ok (.aload_n 0, 1) := by decide +kernel
theorem dX10_fails_6 : decode cX10_fails 6 = .ok (.aload_n 0, 1) := by decide +kernel
theorem dX10_fails_7 : decode cX10_fails 7 = .ok (.getfield 229, 3) := by decide +kernel
theorem dX10_fails_10 : decode cX10_fails 10 = .ok (.putfield 253, 3) := by decide +kernel
theorem dX10_fails_13 : decode cX10_fails 13 = .ok (.iconst (-1), 1) := by decide +kernel
theorem dX10_fails_14 : decode cX10_fails 14 = .ok (.ireturn, 1) := by decide +kernel
theorem dX10_isWord_0 : decode cX10_isWord 0 = .ok (.aload_n 0, 1) := by decide +kernel
theorem dX10_isWord_1 : decode cX10_isWord 1 = .ok (.getfield 232, 3) := by decide +kernel
theorem dX10_isWord_4 : decode cX10_isWord 4 = .ok (.iconst 2, 1) := by decide +kernel
theorem dX10_isWord_5 : decode cX10_isWord 5 = .ok (.if_icmp .ne 15, 3) := by decide +kernel
theorem dX10_isWord_8 : decode cX10_isWord 8 = .ok (.aload_n 0, 1) := by decide +kernel
theorem dX10_isWord_9 : decode cX10_isWord 9 = .ok (.getfield 235, 3) := by decide +kernel
theorem dX10_isWord_12 : decode cX10_isWord 12 = .ok (.iload_n 1, 1) := by decide +kernel
theorem dX10_isWord_13 : decode cX10_isWord 13 = .ok (.if_icmp .ne 7, 3) := by decide +kernel
theorem dX10_isWord_16 : decode cX10_isWord 16 = .ok (.iconst 1, 1) := by decide +kernel
theorem dX10_isWord_17 : decode cX10_isWord 17 = .ok (.goto 4, 3) := by decide +kernel
theorem dX10_isWord_20 : decode cX10_isWord 20 = .ok (.iconst 0, 1) := by decide +kernel
theorem dX10_isWord_21 : decode cX10_isWord 21 = .ok (.ireturn, 1) := by decide +kernel
theorem dX10_isSign_0 : decode cX10_isSign 0 = .ok (.aload_n 0, 1) := by decide +kernel
theorem dX10_isSign_1 : decode cX10_isSign 1 = .ok (.getfield 232, 3) := by decide +kernel
theorem dX10_isSign_4 : decode cX10_isSign 4 = .ok (.iconst 4, 1) := by decide +kernel
theorem dX10_isSign_5 : decode cX10_isSign 5 = .ok (.if_icmp .ne 15, 3) := by decide +kernel
theorem dX10_isSign_8 : decode cX10_isSign 8 = .ok (.aload_n 0, 1) := by decide +kernel
theorem dX10_isSign_9 : decode cX10_isSign 9 = .ok (.getfield 235, 3) := by decide +kernel
theorem dX10_isSign_12 : decode cX10_isSign 12 = .ok (.iload_n 1, 1) := by decide +kernel
theorem dX10_isSign_13 : decode cX10_isSign 13 = .ok (.if_icmp .ne 7, 3) := by decide +kernel
theorem dX10_isSign_16 : decode cX10_isSign 16 = .ok (.iconst 1, 1) := by decide +kernel
theorem dX10_isSign_17 : decode cX10_isSign 17 = .ok (.goto 4, 3) := by decide +kernel
theorem dX10_isSign_20 : decode cX10_isSign 20 = .ok (.iconst 0, 1) := by decide +kernel
theorem dX10_isSign_21 : decode cX10_isSign 21 = .ok (.ireturn, 1) := by decide +kernel
theorem dX10_emits_0 : decode cX10_emits 0 = .ok (.aload_n 0, 1) := by decide +kernel
theorem dX10_emits_1 : decode cX10_emits 1 = .ok (.getfield 75, 3) := by decide +kernel
theorem dX10_emits_4 : decode cX10_emits 4 = .ok (.sipush 400, 3) := by decide +kernel
theorem dX10_emits_7 : decode cX10_emits 7 = .ok (.aload_n 0, 1) := by decide +kernel
theorem dX10_emits_8 : decode cX10_emits 8 = .ok (.getfield 220, 3) := by decide +kernel
theorem dX10_emits_11 : decode cX10_emits 11 = .ok (.imul, 1) := by decide +kernel
theorem dX10_emits_12 : decode cX10_emits 12 = .ok (.aload_n 0, 1) := by decide +kernel
theorem dX10_emits_13 : decode cX10_emits 13 = .ok (.getfield 256, 3) := by decide +kernel
theorem dX10_emits_16 : decode cX10_emits 16 = .ok (.iadd, 1) := by decide +kernel
theorem dX10_emits_17 : decode cX10_emits 17 = .ok (.iload_n 1, 1) := by decide +kernel
theorem dX10_emits_18 : decode cX10_emits 18 = .ok (.iastore, 1) := by decide +kernel
theorem dX10_emits_19 : decode cX10_emits 19 = .ok (.aload_n 0, 1) := by decide +kernel
theorem dX10_emits_20 : decode cX10_emits 20 = .ok (.getfield 78, 3) := by decide +kernel
theorem dX10_emits_23 : decode cX10_emits 23 = .ok (.sipush 400, 3) := by decide +kernel
theorem dX10_emits_26 : decode cX10_emits 26 = .ok (.aload_n 0, 1) := by decide +kernel
theorem dX10_emits_27 : decode cX10_emits 27 = .ok (.getfield 220, 3) := by decide +kernel
theorem dX10_emits_30 : decode cX10_emits 30 = .ok (.imul, 1) := by decide +kernel
theorem dX10_emits_31 : decode cX10_emits 31 = .ok (.aload_n 0, 1) := by decide +kernel
theorem dX10_emits_32 : decode cX10_emits 32 = .ok (.getfield 256, 3) := by decide +kernel
theorem dX10_emits_35 : decode cX10_emits 35 = .ok (.iadd, 1) := by decide +kernel
theorem dX10_emits_36 : decode cX10_emits 36 = .ok (.iload_n 2, 1) := by decide +kernel
theorem dX10_emits_37 : decode cX10_emits 37 = .ok (.iastore, 1) := by decide +kernel
theorem dX10_emits_38 : decode cX10_emits 38 = .ok (.aload_n 0, 1) := by decide +kernel
theorem dX10_emits_39 : decode cX10_emits 39 = .ok (.aload_n 0, 1) := by decide +kernel
theorem dX10_emits_40 : decode cX10_emits 40 = .ok (.getfield 256, 3) := by decide +kernel
theorem dX10_emits_43 : decode cX10_emits 43 = .ok (.iconst 1, 1) := by decide +kernel
theorem dX10_emits_44 : decode cX10_emits 44 = .ok (.iadd, 1) := by decide +kernel
theorem dX10_emits_45 : decode cX10_emits 45 = .ok (.putfield 256, 3) := by decide +kernel
theorem dX10_emits_48 : decode cX10_emits 48 = .ok (.return_, 1) := by decide +kernel
theorem dX10_readUnit_0 : decode cX10_readUnit 0 = .ok (.aload_n 0, 1) := by decide +kernel
theorem dX10_readUnit_1 : decode cX10_readUnit 1 = .ok (.bipush 11, 2) := by decide +kernel
theorem dX10_readUnit_3 : decode cX10_readUnit 3 = .ok (.invokevirtual 259, 3) := by decide +kernel
theorem dX10_readUnit_6 : decode cX10_readUnit 6 = .ok (.istore_n 1, 1) := by decide +kernel
theorem dX10_readUnit_7 : decode cX10_readUnit 7 = .ok (.aload_n 0, 1) := by decide +kernel
theorem dX10_readUnit_8 : decode cX10_readUnit 8 = .ok (.getfield 232, 3) := by decide +kernel
theorem dX10_readUnit_11 : decode cX10_readUnit 11 = .ok (.iconst 2, 1) := by decide +kernel
theorem dX10_readUnit_12 : decode cX10_readUnit 12 = .ok (.if_icmp .ne 22, 3) := by decide +kernel
theorem dX10_readUnit_15 : decode cX10_readUnit 15 = .ok (.aload_n 0, 1) := by decide +kernel
theorem dX10_readUnit_16 : decode cX10_readUnit 16 = .ok (.aload_n 0, 1) := by decide +kernel
theorem dX10_readUnit_17 : decode cX10_readUnit 17 = .ok (.getfield 235, 3) := by decide +kernel
theorem dX10_readUnit_20 : decode cX10_readUnit 20 = .ok (.bipush 6, 2) := by decide +kernel
theorem dX10_readUnit_22 : decode cX10_readUnit 22 = .ok (.bipush 10, 2) := by decide +kernel
theorem dX10_readUnit_24 : decode cX10_readUnit 24 = .ok (.invokevirtual 169, 3) := by decide +kernel
theorem dX10_readUnit_27 : decode cX10_readUnit 27 = .ok (.ifCond .eq 7, 3) := by decide +kernel
theorem dX10_readUnit_30 : decode cX10_readUnit 30 = .ok (.iconst 1, 1) := by decide +kernel
theorem dX10_readUnit_31 : decode cX10_readUnit 31 = .ok (.goto 4, 3) := by decide +kernel
theorem dX10_readUnit_34 : decode cX10_readUnit 34 = .ok (.iconst 0, 1) := by decide +kernel
theorem dX10_readUnit_35 : decode cX10_readUnit 35 = .ok (.istore_n 2, 1) := by decide +kernel
theorem dX10_readUnit_36 : decode cX10_readUnit 36 = .ok (.iload_n 1, 1) := by decide +kernel
theorem dX10_readUnit_37 : decode cX10_readUnit 37 = .ok (.ifCond .ne 21, 3) := by decide +kernel
theorem dX10_readUnit_40 : decode cX10_readUnit 40 = .ok (.iload_n 2, 1) := by decide +kernel
theorem dX10_readUnit_41 : decode cX10_readUnit 41 = .ok (.ifCond .ne 17, 3) := by decide +kernel
theorem dX10_readUnit_44 : decode cX10_readUnit 44 = .ok (.aload_n 0, 1) := by decide +kernel
theorem dX10_readUnit_45 : decode cX10_readUnit 45 = .ok (.getfield 232, 3) := by decide +kernel
theorem dX10_readUnit_48 : decode cX10_readUnit 48 = .ok (.iconst 3, 1) := by decide +kernel
theorem dX10_readUnit_49 : decode cX10_readUnit 49 = .ok (.if_icmp .eq 9, 3) := by decide +kernel
theorem dX10_readUnit_52 : decode cX10_readUnit 52 = .ok (.aload_n 0, 1) := by decide +kernel
theorem dX10_readUnit_53 : decode cX10_readUnit 53 = .ok (.iconst 1, 1) := by decide +kernel
theorem dX10_readUnit_54 : decode cX10_readUnit 54 = .ok (.invokevirtual 262, 3) := by decide +kernel
theorem dX10_readUnit_57 : decode cX10_readUnit 57 = .ok (.ireturn, 1) := by decide +kernel
theorem dX10_readUnit_58 : decode cX10_readUnit 58 = .ok (.aload_n 0, 1) := by decide +kernel
theorem dX10_readUnit_59 : decode cX10_readUnit 59 = .ok (.getfield 235, 3) := by decide +kernel
theorem dX10_readUnit_62 : decode cX10_readUnit 62 = .ok (.istore_n 3, 1) := by decide +kernel
theorem dX10_readUnit_63 : decode cX10_readUnit 63 = .ok (.iload_n 1, 1) := by decide +kernel
theorem dX10_readUnit_64 : decode cX10_readUnit 64 = .ok (.ifCond .ne 34, 3) := by decide +kernel
theorem dX10_readUnit_67 : decode cX10_readUnit 67 = .ok (.aload_n 0, 1) := by decide +kernel
theorem dX10_readUnit_68 : decode cX10_readUnit 68 = .ok (.iload_n 2, 1) := by decide +kernel
theorem dX10_readUnit_69 : decode cX10_readUnit 69 = .ok (.ifCond .eq 7, 3) := by decide +kernel
theorem dX10_readUnit_72 : decode cX10_readUnit 72 = .ok (.iconst 1, 1) := by decide +kernel
theorem dX10_readUnit_73 : decode cX10_readUnit 73 = .ok (.goto 4, 3) := by decide +kernel
theorem dX10_readUnit_76 : decode cX10_readUnit 76 = .ok (.iconst 0, 1) := by decide +kernel
theorem dX10_readUnit_77 : decode cX10_readUnit 77 = .ok (.iload_n 2, 1) := by decide +kernel
theorem dX10_readUnit_78 : decode cX10_readUnit 78 = .ok (.ifCond .eq 10, 3) := by decide +kernel
theorem dX10_readUnit_81 : decode cX10_readUnit 81 = .ok (.iload_n 3, 1) := by decide +kernel
theorem dX10_readUnit_82 : decode cX10_readUnit 82 = .ok (.bipush 6, 2) := by decide +kernel
theorem dX10_readUnit_84 : decode cX10_readUnit 84 = .ok (.isub, 1) := by decide +kernel
theorem dX10_readUnit_85 : decode cX10_readUnit 85 = .ok (.goto 4, 3) := by decide +kernel
theorem dX10_readUnit_88 : decode cX10_readUnit 88 = .ok (.iload_n 3, 1) := by decide +kernel
theorem dX10_readUnit_89 : decode cX10_readUnit 89 = .ok (.invokevirtual 265, 3) := by decide +kernel
theorem dX10_readUnit_92 : decode cX10_readUnit 92 = .ok (.aload_n 0, 1) := by decide +kernel
theorem dX10_readUnit_93 : decode cX10_readUnit 93 = .ok (.invokevirtual 269, 3) := by decide +kernel
theorem dX10_readUnit_96 : decode cX10_readUnit 96 = .ok (.iconst 0, 1) := by decide +kernel
theorem dX10_readUnit_97 : decode cX10_readUnit 97 = .ok (.ireturn, 1) := by decide +kernel
theorem dX10_readUnit_98 : decode cX10_readUnit 98 = .ok (.aload_n 0, 1) := by decide +kernel
theorem dX10_readUnit_99 : decode cX10_readUnit 99 = .ok (.invokevirtual 269, 3) := by decide +kernel
theorem dX10_readUnit_102 : decode cX10_readUnit 102 = .ok (.aload_n 0, 1) := by decide +kernel
theorem dX10_readUnit_103 : decode cX10_readUnit 103 = .ok (.getfield 232, 3) := by decide +kernel
theorem dX10_readUnit_106 : decode cX10_readUnit 106 = .ok (.iconst 3, 1) := by decide +kernel
theorem dX10_readUnit_107 : decode cX10_readUnit 107 = .ok (.if_icmp .eq 9, 3) := by decide +kernel
theorem dX10_readUnit_110 : decode cX10_readUnit 110 = .ok (.aload_n 0, 1) := by decide +kernel
theorem dX10_readUnit_111 : decode cX10_readUnit 111 = .ok (.iconst 1, 1) := by decide +kernel
theorem dX10_readUnit_112 : decode cX10_readUnit 112 = .ok (.invokevirtual 262, 3) := by decide +kernel
theorem dX10_readUnit_115 : decode cX10_readUnit 115 = .ok (.ireturn, 1) := by decide +kernel
theorem dX10_readUnit_116 : decode cX10_readUnit 116 = .ok (.aload_n 0, 1) := by decide +kernel
theorem dX10_readUnit_117 : decode cX10_readUnit 117 = .ok (.getfield 235, 3) := by decide +kernel
theorem dX10_readUnit_120 : decode cX10_readUnit 120 = .ok (.bipush 24, 2) := by decide +kernel
theorem dX10_readUnit_122 : decode cX10_readUnit 122 = .ok (.if_icmp .lt 9, 3) := by decide +kernel
theorem dX10_readUnit_125 : decode cX10_readUnit 125 = .ok (.aload_n 0, 1) := by decide +kernel
theorem dX10_readUnit_126 : decode cX10_readUnit 126 = .ok (.iconst 2, 1) := by decide +kernel
theorem dX10_readUnit_127 : decode cX10_readUnit 127 = .ok (.invokevirtual 262, 3) := by decide +kernel
theorem dX10_readUnit_130 : decode cX10_readUnit 130 = .ok (.ireturn, 1) := by decide +kernel
theorem dX10_readUnit_131 : decode cX10_readUnit 131 = .ok (.aload_n 0, 1) := by decide +kernel
theorem dX10_readUnit_132 : decode cX10_readUnit 132 = .ok (.iconst 2, 1) := by decide +kernel
theorem dX10_readUnit_133 : decode cX10_readUnit 133 = .ok (.aload_n 0, 1) := by decide +kernel
theorem dX10_readUnit_134 : decode cX10_readUnit 134 = .ok (.getfield 235, 3) := by decide +kernel
theorem dX10_readUnit_137 : decode cX10_readUnit 137 = .ok (.invokevirtual 265, 3) := by decide +kernel
theorem dX10_readUnit_140 : decode cX10_readUnit 140 = .ok (.aload_n 0, 1) := by decide +kernel
theorem dX10_readUnit_141 : decode cX10_readUnit 141 = .ok (.invokevirtual 269, 3) := by decide +kernel
theorem dX10_readUnit_144 : decode cX10_readUnit 144 = .ok (.iconst 0, 1) := by decide +kernel
theorem dX10_readUnit_145 : decode cX10_readUnit 145 = .ok (.ireturn, 1) := by decide +kernel
theorem dX10_readProduct_0 : decode cX10_readProduct 0 = .ok (.aload_n 0, 1) := by decide +kernel
theorem dX10_readProduct_1 : decode cX10_readProduct 1 = .ok (.invokevirtual 272, 3) := by decide +kernel
theorem dX10_readProduct_4 : decode cX10_readProduct 4 = .ok (.iconst (-1), 1) := by decide +kernel
theorem dX10_readProduct_5 : decode cX10_readProduct 5 = .ok (.if_icmp .ne 5, 3) := by decide +kernel
theorem dX10_readProduct_8 : decode cX10_readProduct 8 = .ok (.iconst (-1), 1) := by decide +kernel
theorem dX10_readProduct_9 : decode cX10_readProduct 9 = .ok (.ireturn, 1) := by decide +kernel
theorem dX10_readProduct_10 : decode cX10_readProduct 10 = .ok (.aload_n 0, 1) := by decide +kernel
theorem dX10_readProduct_11 : decode cX10_readProduct 11 = .ok (.bipush 42, 2) := by decide +kernel
theorem dX10_readProduct_13 : decode cX10_readProduct 13 = .ok (.invokevirtual 276, 3) := by decide +kernel
theorem dX10_readProduct_16 : decode cX10_readProduct 16 = .ok (.ifCond .ne 12, 3) := by decide +kernel
theorem dX10_readProduct_19 : decode cX10_readProduct 19 = .ok (.aload_n 0, 1) := by decide +kernel
theorem dX10_readProduct_20 : decode cX10_readProduct 20 = .ok (.bipush 47, 2) := by decide +kernel
theorem dX10_readProduct_22 : decode cX10_readProduct 22 = .ok (.invokevirtual 276, 3) := by decide +kernel
theorem dX10_readProduct_25 : decode cX10_readProduct 25 = .ok (.ifCond .eq 77, 3) := by decide +kernel
theorem dX10_readProduct_28 : decode cX10_readProduct 28 = .ok (.aload_n 0, 1) := by decide +kernel
theorem dX10_readProduct_29 : decode cX10_readProduct 29 = .ok (.bipush 42, 2) := by decide +kernel
theorem dX10_readProduct_31 : decode cX10_readProduct 31 = .ok (.invokevirtual 276, 3) := by decide +kernel
theorem dX10_readProduct_34 : decode cX10_readProduct 34 = .ok (.istore_n 1, 1) := by decide +kernel
theorem dX10_readProduct_35 : decode cX10_readProduct 35 = .ok (.aload_n 0, 1) := by decide +kernel
theorem dX10_readProduct_36 : decode cX10_readProduct 36 = .ok (.invokevirtual 269, 3) := by decide +kernel
theorem dX10_readProduct_39 : decode cX10_readProduct 39 = .ok (.iload_n 1, 1) := by decide +kernel
theorem dX10_readProduct_40 : decode cX10_readProduct 40 = .ok (.ifCond .ne 17, 3) := by decide +kernel
theorem dX10_readProduct_43 : decode cX10_readProduct 43 = .ok (.aload_n 0, 1) := by decide +kernel
theorem dX10_readProduct_44 : decode cX10_readProduct 44 = .ok (.getfield 232, 3) := by decide +kernel
theorem dX10_readProduct_47 : decode cX10_readProduct 47 = .ok (.iconst 3, 1) := by decide +kernel
theorem dX10_readProduct_48 : decode cX10_readProduct 48 = .ok (.if_icmp .eq 9, 3) := by decide +kernel
theorem dX10_readProduct_51 : decode cX10_readProduct 51 = .ok (.aload_n 0, 1) := by decide +kernel
theorem dX10_readProduct_52 : decode cX10_readProduct 52 = .ok (.iconst 1, 1) := by decide +kernel
theorem dX10_readProduct_53 : decode cX10_readProduct 53 = .ok (.invokevirtual 262, 3) := by decide +kernel
theorem dX10_readProduct_56 : decode cX10_readProduct 56 = .ok (.ireturn, 1) := by decide +kernel
theorem dX10_readProduct_57 : decode cX10_readProduct 57 = .ok (.iload_n 1, 1) := by decide +kernel
theorem dX10_readProduct_58 : decode cX10_readProduct 58 = .ok (.ifCond .ne 16, 3) := by decide +kernel
theorem dX10_readProduct_61 : decode cX10_readProduct 61 = .ok (.aload_n 0, 1) := by decide +kernel
theorem dX10_readProduct_62 : decode cX10_readProduct 62 = .ok (.getfield 235, 3) := by decide +kernel
theorem dX10_readProduct_65 : decode cX10_readProduct 65 = .ok (.ifCond .ne 9, 3) := by decide +kernel
theorem dX10_readProduct_68 : decode cX10_readProduct 68 = .ok (.aload_n 0, 1) := by decide +kernel
theorem dX10_readProduct_69 : decode cX10_readProduct 69 = .ok (.iconst 2, 1) := by decide +kernel
theorem dX10_readProduct_70 : decode cX10_readProduct 70 = .ok (.invokevirtual 262, 3) := by decide +kernel
theorem dX10_readProduct_73 : decode cX10_readProduct 73 = .ok (.ireturn, 1) := by decide +kernel
theorem dX10_readProduct_74 : decode cX10_readProduct 74 = .ok (.aload_n 0, 1) := by decide +kernel
theorem dX10_readProduct_75 : decode cX10_readProduct 75 = .ok (.invokevirtual 272, 3) := by decide +kernel
theorem dX10_readProduct_78 : decode cX10_readProduct 78 = .ok (.iconst (-1), 1) := by decide +kernel
theorem dX10_readProduct_79 : decode cX10_readProduct 79 = .ok (.if_icmp .ne 5, 3) := by decide +kernel
theorem dX10_readProduct_82 : decode cX10_readProduct 82 = .ok (.iconst (-1), 1) := by decide +kernel
theorem dX10_readProduct_83 : decode cX10_readProduct 83 = .ok (.ireturn, 1) := by decide +kernel
theorem dX10_readProduct_84 : decode cX10_readProduct 84 = .ok (.aload_n 0, 1) := by decide +kernel
theorem dX10_readProduct_85 : decode cX10_readProduct 85 = .ok (.iload_n 1, 1) := by decide +kernel
theorem dX10_readProduct_86 : decode cX10_readProduct 86 = .ok (.ifCond .eq 7, 3) := by decide +kernel
theorem dX10_readProduct_89 : decode cX10_readProduct 89 = .ok (.iconst 5, 1) := by decide +kernel
theorem dX10_readProduct_90 : decode cX10_readProduct 90 = .ok (.goto 5, 3) := by decide +kernel
theorem dX10_readProduct_93 : decode cX10_readProduct 93 = .ok (.bipush 6, 2) := by decide +kernel
theorem dX10_readProduct_95 : decode cX10_readProduct 95 = .ok (.iconst 0, 1) := by decide +kernel
theorem dX10_readProduct_96 : decode cX10_readProduct 96 = .ok (.invokevirtual 265, 3) := by decide +kernel
theorem dX10_readProduct_99 : decode cX10_readProduct 99 = .ok (.goto (-89), 3) := by decide +kernel
theorem dX10_readProduct_102 : decode cX10_readProduct 102 = .ok (.iconst 0, 1) := by decide +kernel
theorem dX10_readProduct_103 : decode cX10_readProduct 103 = .ok (.ireturn, 1) := by decide +kernel
theorem dX10_readSum_0 : decode cX10_readSum 0 = .ok (.aload_n 0, 1) := by decide +kernel
theorem dX10_readSum_1 : decode cX10_readSum 1 = .ok (.invokevirtual 279, 3) := by decide +kernel
theorem dX10_readSum_4 : decode cX10_readSum 4 = .ok (.iconst (-1), 1) := by decide +kernel
theorem dX10_readSum_5 : decode cX10_readSum 5 = .ok (.if_icmp .ne 5, 3) := by decide +kernel
theorem dX10_readSum_8 : decode cX10_readSum 8 = .ok (.iconst (-1), 1) := by decide +kernel
theorem dX10_readSum_9 : decode cX10_readSum 9 = .ok (.ireturn, 1) := by decide +kernel
theorem dX10_readSum_10 : decode cX10_readSum 10 = .ok (.aload_n 0, 1) := by decide +kernel
theorem dX10_readSum_11 : decode cX10_readSum 11 = .ok (.bipush 43, 2) := by decide +kernel
theorem dX10_readSum_13 : decode cX10_readSum 13 = .ok (.invokevirtual 276, 3) := by decide +kernel
theorem dX10_readSum_16 : decode cX10_readSum 16 = .ok (.ifCond .ne 12, 3) := by decide +kernel
theorem dX10_readSum_19 : decode cX10_readSum 19 = .ok (.aload_n 0, 1) := by decide +kernel
theorem dX10_readSum_20 : decode cX10_readSum 20 = .ok (.bipush 45, 2) := by decide +kernel
theorem dX10_readSum_22 : decode cX10_readSum 22 = .ok (.invokevirtual 276, 3) := by decide +kernel
theorem dX10_readSum_25 : decode cX10_readSum 25 = .ok (.ifCond .eq 41, 3) := by decide +kernel
theorem dX10_readSum_28 : decode cX10_readSum 28 = .ok (.aload_n 0, 1) := by decide +kernel
theorem dX10_readSum_29 : decode cX10_readSum 29 = .ok (.getfield 235, 3) := by decide +kernel
theorem dX10_readSum_32 : decode cX10_readSum 32 = .ok (.bipush 43, 2) := by decide +kernel
theorem dX10_readSum_34 : decode cX10_readSum 34 = .ok (.if_icmp .ne 7, 3) := by decide +kernel
theorem dX10_readSum_37 : decode cX10_readSum 37 = .ok (.iconst 3, 1) := by decide +kernel
theorem dX10_readSum_38 : decode cX10_readSum 38 = .ok (.goto 4, 3) := by decide +kernel
theorem dX10_readSum_41 : decode cX10_readSum 41 = .ok (.iconst 4, 1) := by decide +kernel
theorem dX10_readSum_42 : decode cX10_readSum 42 = .ok (.istore_n 1, 1) := by decide +kernel
theorem dX10_readSum_43 : decode cX10_readSum 43 = .ok (.aload_n 0, 1) := by decide +kernel
theorem dX10_readSum_44 : decode cX10_readSum 44 = .ok (.invokevirtual 269, 3) := by decide +kernel
theorem dX10_readSum_47 : decode cX10_readSum 47 = .ok (.aload_n 0, 1) := by decide +kernel
theorem dX10_readSum_48 : decode cX10_readSum 48 = .ok (.invokevirtual 279, 3) := by decide +kernel
theorem dX10_readSum_51 : decode cX10_readSum 51 = .ok (.iconst (-1), 1) := by decide +kernel
theorem dX10_readSum_52 : decode cX10_readSum 52 = .ok (.if_icmp .ne 5, 3) := by decide +kernel
theorem dX10_readSum_55 : decode cX10_readSum 55 = .ok (.iconst (-1), 1) := by decide +kernel
theorem dX10_readSum_56 : decode cX10_readSum 56 = .ok (.ireturn, 1) := by decide +kernel
theorem dX10_readSum_57 : decode cX10_readSum 57 = .ok (.aload_n 0, 1) := by decide +kernel
theorem dX10_readSum_58 : decode cX10_readSum 58 = .ok (.iload_n 1, 1) := by decide +kernel
theorem dX10_readSum_59 : decode cX10_readSum 59 = .ok (.iconst 0, 1) := by decide +kernel
theorem dX10_readSum_60 : decode cX10_readSum 60 = .ok (.invokevirtual 265, 3) := by decide +kernel
theorem dX10_readSum_63 : decode cX10_readSum 63 = .ok (.goto (-53), 3) := by decide +kernel
theorem dX10_readSum_66 : decode cX10_readSum 66 = .ok (.iconst 0, 1) := by decide +kernel
theorem dX10_readSum_67 : decode cX10_readSum 67 = .ok (.ireturn, 1) := by decide +kernel
theorem dX10_readCompared_0 : decode cX10_readCompared 0 = .ok (.aload_n 0, 1) := by decide +kernel
theorem dX10_readCompared_1 : decode cX10_readCompared 1 = .ok (.invokevirtual 282, 3) := by decide +kernel
theorem dX10_readCompared_4 : decode cX10_readCompared 4 = .ok (.iconst (-1), 1) := by decide +kernel
theorem dX10_readCompared_5 : decode cX10_readCompared 5 = .ok (.if_icmp .ne 5, 3) := by decide +kernel
theorem dX10_readCompared_8 : decode cX10_readCompared 8 = .ok (.iconst (-1), 1) := by decide +kernel
theorem dX10_readCompared_9 : decode cX10_readCompared 9 = .ok (.ireturn, 1) := by decide +kernel
theorem dX10_readCompared_10 : decode cX10_readCompared 10 = .ok (.aload_n 0, 1) := by decide +kernel
theorem dX10_readCompared_11 : decode cX10_readCompared 11 = .ok (.bipush 60, 2) := by decide +kernel
theorem dX10_readCompared_13 : decode cX10_readCompared 13 = .ok (.invokevirtual 276, 3) := by decide +kernel
theorem dX10_readCompared_16 : decode cX10_readCompared 16 = .ok (.ifCond .ne 27, 3) := by decide +kernel
theorem dX10_readCompared_19 : decode cX10_readCompared 19 = .ok (.aload_n 0, 1) := by decide +kernel
theorem dX10_readCompared_20 : decode cX10_readCompared 20 = .ok (.bipush 61, 2) := by decide +kernel
theorem dX10_readCompared_22 : decode cX10_readCompared 22 = .ok (.invokevirtual 276, 3) := by decide +kernel
theorem dX10_readCompared_25 : decode cX10_readCompared 25 = .ok (.ifCond .ne 18, 3) := by decide +kernel
theorem dX10_readCompared_28 : decode cX10_readCompared 28 = .ok (.aload_n 0, 1) := by decide +kernel
theorem dX10_readCompared_29 : decode cX10_readCompared 29 = .ok (.bipush 62, 2) := by decide +kernel
theorem dX10_readCompared_31 : decode cX10_readCompared 31 = .ok (.invokevirtual 276, 3) := by decide +kernel
theorem dX10_readCompared_34 : decode cX10_readCompared 34 = .ok (.ifCond .ne 9, 3) := by decide +kernel
theorem dX10_readCompared_37 : decode cX10_readCompared 37 = .ok (.aload_n 0, 1) := by decide +kernel
theorem dX10_readCompared_38 : decode cX10_readCompared 38 = .ok (.iconst 1, 1) := by decide +kernel
theorem dX10_readCompared_39 : decode cX10_readCompared 39 = .ok (.invokevirtual 262, 3) := by decide +kernel
theorem dX10_readCompared_42 : decode cX10_readCompared 42 = .ok (.ireturn, 1) := by decide +kernel
theorem dX10_readCompared_43 : decode cX10_readCompared 43 = .ok (.aload_n 0, 1) := by decide +kernel
theorem dX10_readCompared_44 : decode cX10_readCompared 44 = .ok (.getfield 235, 3) := by decide +kernel
theorem dX10_readCompared_47 : decode cX10_readCompared 47 = .ok (.bipush 60, 2) := by decide +kernel
theorem dX10_readCompared_49 : decode cX10_readCompared 49 = .ok (.if_icmp .ne 8, 3) := by decide +kernel
theorem dX10_readCompared_52 : decode cX10_readCompared 52 = .ok (.bipush 7, 2) := by decide +kernel
theorem dX10_readCompared_54 : decode cX10_readCompared 54 = .ok (.goto 19, 3) := by decide +kernel
theorem dX10_readCompared_57 : decode cX10_readCompared 57 = .ok (.aload_n 0, 1) := by decide +kernel
theorem dX10_readCompared_58 : decode cX10_readCompared 58 = .ok (.getfield 235, 3) := by decide +kernel
theorem dX10_readCompared_61 : decode cX10_readCompared 61 = .ok (.bipush 61, 2) := by decide +kernel
theorem dX10_readCompared_63 : decode cX10_readCompared 63 = .ok (.if_icmp .ne 8, 3) := by decide +kernel
theorem dX10_readCompared_66 : decode cX10_readCompared 66 = .ok (.bipush 8, 2) := by decide +kernel
theorem dX10_readCompared_68 : decode cX10_readCompared 68 = .ok (.goto 5, 3) := by decide +kernel
theorem dX10_readCompared_71 : decode cX10_readCompared 71 = .ok (.bipush 9, 2) := by decide +kernel
theorem dX10_readCompared_73 : decode cX10_readCompared 73 = .ok (.istore_n 1, 1) := by decide +kernel
theorem dX10_readCompared_74 : decode cX10_readCompared 74 = .ok (.aload_n 0, 1) := by decide +kernel
theorem dX10_readCompared_75 : decode cX10_readCompared 75 = .ok (.invokevirtual 269, 3) := by decide +kernel
theorem dX10_readCompared_78 : decode cX10_readCompared 78 = .ok (.aload_n 0, 1) := by decide +kernel
theorem dX10_readCompared_79 : decode cX10_readCompared 79 = .ok (.invokevirtual 282, 3) := by decide +kernel
theorem dX10_readCompared_82 : decode cX10_readCompared 82 = .ok (.iconst (-1), 1) := by decide +kernel
theorem dX10_readCompared_83 : decode cX10_readCompared 83 = .ok (.if_icmp .ne 5, 3) := by decide +kernel
theorem dX10_readCompared_86 : decode cX10_readCompared 86 = .ok (.iconst (-1), 1) := by decide +kernel
theorem dX10_readCompared_87 : decode cX10_readCompared 87 = .ok (.ireturn, 1) := by decide +kernel
theorem dX10_readCompared_88 : decode cX10_readCompared 88 = .ok (.aload_n 0, 1) := by decide +kernel
theorem dX10_readCompared_89 : decode cX10_readCompared 89 = .ok (.iload_n 1, 1) := by decide +kernel
theorem dX10_readCompared_90 : decode cX10_readCompared 90 = .ok (.iconst 0, 1) := by decide +kernel
theorem dX10_readCompared_91 : decode cX10_readCompared 91 = .ok (.invokevirtual 265, 3) := by decide +kernel
theorem dX10_readCompared_94 : decode cX10_readCompared 94 = .ok (.iconst 0, 1) := by decide +kernel
theorem dX10_readCompared_95 : decode cX10_readCompared 95 = .ok (.ireturn, 1) := by decide +kernel
theorem dX10_waits_0 : decode cX10_waits 0 = .ok (.aload_n 0, 1) := by decide +kernel
theorem dX10_waits_1 : decode cX10_waits 1 = .ok (.getfield 90, 3) := by decide +kernel
theorem dX10_waits_4 : decode cX10_waits 4 = .ok (.aload_n 0, 1) := by decide +kernel
theorem dX10_waits_5 : decode cX10_waits 5 = .ok (.getfield 285, 3) := by decide +kernel
theorem dX10_waits_8 : decode cX10_waits 8 = .ok (.iload_n 1, 1) := by decide +kernel
theorem dX10_waits_9 : decode cX10_waits 9 = .ok (.iastore, 1) := by decide +kernel
theorem dX10_waits_10 : decode cX10_waits 10 = .ok (.aload_n 0, 1) := by decide +kernel
theorem dX10_waits_11 : decode cX10_waits 11 = .ok (.aload_n 0, 1) := by decide +kernel
theorem dX10_waits_12 : decode cX10_waits 12 = .ok (.getfield 285, 3) := by decide +kernel
theorem dX10_waits_15 : decode cX10_waits 15 = .ok (.iconst 1, 1) := by decide +kernel
theorem dX10_waits_16 : decode cX10_waits 16 = .ok (.iadd, 1) := by decide +kernel
theorem dX10_waits_17 : decode cX10_waits 17 = .ok (.putfield 285, 3) := by decide +kernel
theorem dX10_waits_20 : decode cX10_waits 20 = .ok (.return_, 1) := by decide +kernel
theorem dX10_settles_0 : decode cX10_settles 0 = .ok (.aload_n 0, 1) := by decide +kernel
theorem dX10_settles_1 : decode cX10_settles 1 = .ok (.getfield 285, 3) := by decide +kernel
theorem dX10_settles_4 : decode cX10_settles 4 = .ok (.ifCond .le 53, 3) := by decide +kernel
theorem dX10_settles_7 : decode cX10_settles 7 = .ok (.aload_n 0, 1) := by decide +kernel
theorem dX10_settles_8 : decode cX10_settles 8 = .ok (.getfield 90, 3) := by decide +kernel
theorem dX10_settles_11 : decode cX10_settles 11 = .ok (.aload_n 0, 1) := by decide +kernel
theorem dX10_settles_12 : decode cX10_settles 12 = .ok (.getfield 285, 3) := by decide +kernel
theorem dX10_settles_15 : decode cX10_settles 15 = .ok (.iconst 1, 1) := by decide +kernel
theorem dX10_settles_16 : decode cX10_settles 16 = .ok (.isub, 1) := by decide +kernel
theorem dX10_settles_17 : decode cX10_settles 17 = .ok (.iaload, 1) := by decide +kernel
theorem dX10_settles_18 : decode cX10_settles 18 = .ok (.iload_n 1, 1) := by decide +kernel
theorem dX10_settles_19 : decode cX10_settles 19 = .ok (.if_icmp .ne 38, 3) := by decide +kernel
theorem dX10_settles_22 : decode cX10_settles 22 = .ok (.aload_n 0, 1) := by decide +kernel
theorem dX10_settles_23 : decode cX10_settles 23 = .ok (.aload_n 0, 1) := by decide +kernel
theorem dX10_settles_24 : decode cX10_settles 24 = .ok (.getfield 285, 3) := by decide +kernel
theorem dX10_settles_27 : decode cX10_settles 27 = .ok (.iconst 1, 1) := by decide +kernel
theorem dX10_settles_28 : decode cX10_settles 28 = .ok (.isub, 1) := by decide +kernel
theorem dX10_settles_29 : decode cX10_settles 29 = .ok (.putfield 285, 3) := by decide +kernel
theorem dX10_settles_32 : decode cX10_settles 32 = .ok (.aload_n 0, 1) := by decide +kernel
theorem dX10_settles_33 : decode cX10_settles 33 = .ok (.iload_n 1, 1) := by decide +kernel
theorem dX10_settles_34 : decode cX10_settles 34 = .ok (.iconst 0, 1) := by decide +kernel
theorem dX10_settles_35 : decode cX10_settles 35 = .ok (.invokevirtual 265, 3) := by decide +kernel
theorem dX10_settles_38 : decode cX10_settles 38 = .ok (.iload_n 1, 1) := by decide +kernel
theorem dX10_settles_39 : decode cX10_settles 39 = .ok (.bipush 10, 2) := by decide +kernel
theorem dX10_settles_41 : decode cX10_settles 41 = .ok (.if_icmp .ne (-41), 3) := by decide +kernel
theorem dX10_settles_44 : decode cX10_settles 44 = .ok (.aload_n 0, 1) := by decide +kernel
theorem dX10_settles_45 : decode cX10_settles 45 = .ok (.aload_n 0, 1) := by decide +kernel
theorem dX10_settles_46 : decode cX10_settles 46 = .ok (.getfield 288, 3) := by decide +kernel
theorem dX10_settles_49 : decode cX10_settles 49 = .ok (.iconst 1, 1) := by decide +kernel
theorem dX10_settles_50 : decode cX10_settles 50 = .ok (.isub, 1) := by decide +kernel
theorem dX10_settles_51 : decode cX10_settles 51 = .ok (.putfield 288, 3) := by decide +kernel
theorem dX10_settles_54 : decode cX10_settles 54 = .ok (.goto (-54), 3) := by decide +kernel
theorem dX10_settles_57 : decode cX10_settles 57 = .ok (.return_, 1) := by decide +kernel
theorem dX10_readAny_0 : decode cX10_readAny 0 = .ok (.iconst 0, 1) := by decide +kernel
theorem dX10_readAny_1 : decode cX10_readAny 1 = .ok (.istore_n 1, 1) := by decide +kernel
theorem dX10_readAny_2 : decode cX10_readAny 2 = .ok (.aload_n 0, 1) := by decide +kernel
theorem dX10_readAny_3 : decode cX10_readAny 3 = .ok (.iconst 0, 1) := by decide +kernel
theorem dX10_readAny_4 : decode cX10_readAny 4 = .ok (.putfield 285, 3) := by decide +kernel
theorem dX10_readAny_7 : decode cX10_readAny 7 = .ok (.iconst 1, 1) := by decide +kernel
theorem dX10_readAny_8 : decode cX10_readAny 8 = .ok (.istore_n 2, 1) := by decide +kernel
theorem dX10_readAny_9 : decode cX10_readAny 9 = .ok (.iload_n 2, 1) := by decide +kernel
theorem dX10_readAny_10 : decode cX10_readAny 10 = .ok (.ifCond .eq 98, 3) := by decide +kernel
theorem dX10_readAny_13 : decode cX10_readAny 13 = .ok (.aload_n 0, 1) := by decide +kernel
theorem dX10_readAny_14 : decode cX10_readAny 14 = .ok (.iconst 5, 1) := by decide +kernel
theorem dX10_readAny_15 : decode cX10_readAny 15 = .ok (.invokevirtual 259, 3) := by decide +kernel
theorem dX10_readAny_18 : decode cX10_readAny 18 = .ok (.istore_n 3, 1) := by decide +kernel
theorem dX10_readAny_19 : decode cX10_readAny 19 = .ok (.iload_n 3, 1) := by decide +kernel
theorem dX10_readAny_20 : decode cX10_readAny 20 = .ok (.ifCond .ne 12, 3) := by decide +kernel
theorem dX10_readAny_23 : decode cX10_readAny 23 = .ok (.aload_n 0, 1) := by decide +kernel
theorem dX10_readAny_24 : decode cX10_readAny 24 = .ok (.bipush 40, 2) := by decide +kernel
theorem dX10_readAny_26 : decode cX10_readAny 26 = .ok (.invokevirtual 276, 3) := by decide +kernel
theorem dX10_readAny_29 : decode cX10_readAny 29 = .ok (.ifCond .eq 58, 3) := by decide +kernel
theorem dX10_readAny_32 : decode cX10_readAny 32 = .ok (.aload_n 0, 1) := by decide +kernel
theorem dX10_readAny_33 : decode cX10_readAny 33 = .ok (.getfield 288, 3) := by decide +kernel
theorem dX10_readAny_36 : decode cX10_readAny 36 = .ok (.bipush 8, 2) := by decide +kernel
theorem dX10_readAny_38 : decode cX10_readAny 38 = .ok (.if_icmp .ne 9, 3) := by decide +kernel
theorem dX10_readAny_41 : decode cX10_readAny 41 = .ok (.aload_n 0, 1) := by decide +kernel
theorem dX10_readAny_42 : decode cX10_readAny 42 = .ok (.iconst 3, 1) := by decide +kernel
theorem dX10_readAny_43 : decode cX10_readAny 43 = .ok (.invokevirtual 262, 3) := by decide +kernel
theorem dX10_readAny_46 : decode cX10_readAny 46 = .ok (.ireturn, 1) := by decide +kernel
theorem dX10_readAny_47 : decode cX10_readAny 47 = .ok (.aload_n 0, 1) := by decide +kernel
theorem dX10_readAny_48 : decode cX10_readAny 48 = .ok (.aload_n 0, 1) := by decide +kernel
theorem dX10_readAny_49 : decode cX10_readAny 49 = .ok (.getfield 288, 3) := by decide +kernel
theorem dX10_readAny_52 : decode cX10_readAny 52 = .ok (.iconst 1, 1) := by decide +kernel
theorem dX10_readAny_53 : decode cX10_readAny 53 = .ok (.iadd, 1) := by decide +kernel
theorem dX10_readAny_54 : decode cX10_readAny 54 = .ok (.putfield 288, 3) := by decide +kernel
theorem dX10_readAny_57 : decode cX10_readAny 57 = .ok (.iload_n 3, 1) := by decide +kernel
theorem dX10_readAny_58 : decode cX10_readAny 58 = .ok (.ifCond .ne 7, 3) := by decide +kernel
theorem dX10_readAny_61 : decode cX10_readAny 61 = .ok (.iload_n 1, 1) := by decide +kernel
theorem dX10_readAny_62 : decode cX10_readAny 62 = .ok (.iconst 1, 1) := by decide +kernel
theorem dX10_readAny_63 : decode cX10_readAny 63 = .ok (.iadd, 1) := by decide +kernel
theorem dX10_readAny_64 : decode cX10_readAny 64 = .ok (.istore_n 1, 1) := by decide +kernel
theorem dX10_readAny_65 : decode cX10_readAny 65 = .ok (.aload_n 0, 1) := by decide +kernel
theorem dX10_readAny_66 : decode cX10_readAny 66 = .ok (.iload_n 3, 1) := by decide +kernel
theorem dX10_readAny_67 : decode cX10_readAny 67 = .ok (.ifCond .eq 8, 3) := by decide +kernel
theorem dX10_readAny_70 : decode cX10_readAny 70 = .ok (.bipush 10, 2) := by decide +kernel
theorem dX10_readAny_72 : decode cX10_readAny 72 = .ok (.goto 5, 3) := by decide +kernel
theorem dX10_readAny_75 : decode cX10_readAny 75 = .ok (.bipush 13, 2) := by decide +kernel
theorem dX10_readAny_77 : decode cX10_readAny 77 = .ok (.invokevirtual 291, 3) := by decide +kernel
theorem dX10_readAny_80 : decode cX10_readAny 80 = .ok (.aload_n 0, 1) := by decide +kernel
theorem dX10_readAny_81 : decode cX10_readAny 81 = .ok (.invokevirtual 269, 3) := by decide +kernel
theorem dX10_readAny_84 : decode cX10_readAny 84 = .ok (.goto (-75), 3) := by decide +kernel
theorem dX10_readAny_87 : decode cX10_readAny 87 = .ok (.aload_n 0, 1) := by decide +kernel
theorem dX10_readAny_88 : decode cX10_readAny 88 = .ok (.invokevirtual 294, 3) := by decide +kernel
theorem dX10_readAny_91 : decode cX10_readAny 91 = .ok (.iconst (-1), 1) := by decide +kernel
theorem dX10_readAny_92 : decode cX10_readAny 92 = .ok (.if_icmp .ne 5, 3) := by decide +kernel
theorem dX10_readAny_95 : decode cX10_readAny 95 = .ok (.iconst (-1), 1) := by decide +kernel
theorem dX10_readAny_96 : decode cX10_readAny 96 = .ok (.ireturn, 1) := by decide +kernel
theorem dX10_readAny_97 : decode cX10_readAny 97 = .ok (.aload_n 0, 1) := by decide +kernel
theorem dX10_readAny_98 : decode cX10_readAny 98 = .ok (.bipush 10, 2) := by decide +kernel
theorem dX10_readAny_100 : decode cX10_readAny 100 = .ok (.invokevirtual 297, 3) := by decide +kernel
theorem dX10_readAny_103 : decode cX10_readAny 103 = .ok (.iconst 0, 1) := by decide +kernel
theorem dX10_readAny_104 : decode cX10_readAny 104 = .ok (.istore_n 2, 1) := by decide +kernel
theorem dX10_readAny_105 : decode cX10_readAny 105 = .ok (.goto (-96), 3) := by decide +kernel
theorem dX10_readAny_108 : decode cX10_readAny 108 = .ok (.aload_n 0, 1) := by decide +kernel
theorem dX10_readAny_109 : decode cX10_readAny 109 = .ok (.iconst 4, 1) := by decide +kernel
theorem dX10_readAny_110 : decode cX10_readAny 110 = .ok (.invokevirtual 259, 3) := by decide +kernel
theorem dX10_readAny_113 : decode cX10_readAny 113 = .ok (.ifCond .eq 24, 3) := by decide +kernel
theorem dX10_readAny_116 : decode cX10_readAny 116 = .ok (.aload_n 0, 1) := by decide +kernel
theorem dX10_readAny_117 : decode cX10_readAny 117 = .ok (.bipush 11, 2) := by decide +kernel
theorem dX10_readAny_119 : decode cX10_readAny 119 = .ok (.invokevirtual 297, 3) := by decide +kernel
theorem dX10_readAny_122 : decode cX10_readAny 122 = .ok (.aload_n 0, 1) := by decide +kernel
theorem dX10_readAny_123 : decode cX10_readAny 123 = .ok (.bipush 11, 2) := by decide +kernel
theorem dX10_readAny_125 : decode cX10_readAny 125 = .ok (.invokevirtual 291, 3) := by decide +kernel
theorem dX10_readAny_128 : decode cX10_readAny 128 = .ok (.aload_n 0, 1) := by decide +kernel
theorem dX10_readAny_129 : decode cX10_readAny 129 = .ok (.invokevirtual 269, 3) := by decide +kernel
theorem dX10_readAny_132 : decode cX10_readAny 132 = .ok (.iconst 1, 1) := by decide +kernel
theorem dX10_readAny_133 : decode cX10_readAny 133 = .ok (.istore_n 2, 1) := by decide +kernel
theorem dX10_readAny_134 : decode cX10_readAny 134 = .ok (.goto (-125), 3) := by decide +kernel
theorem dX10_readAny_137 : decode cX10_readAny 137 = .ok (.aload_n 0, 1) := by decide +kernel
theorem dX10_readAny_138 : decode cX10_readAny 138 = .ok (.iconst 3, 1) := by decide +kernel
theorem dX10_readAny_139 : decode cX10_readAny 139 = .ok (.invokevirtual 259, 3) := by decide +kernel
theorem dX10_readAny_142 : decode cX10_readAny 142 = .ok (.ifCond .eq 30, 3) := by decide +kernel
theorem dX10_readAny_145 : decode cX10_readAny 145 = .ok (.aload_n 0, 1) := by decide +kernel
theorem dX10_readAny_146 : decode cX10_readAny 146 = .ok (.bipush 11, 2) := by decide +kernel
theorem dX10_readAny_148 : decode cX10_readAny 148 = .ok (.invokevirtual 297, 3) := by decide +kernel
theorem dX10_readAny_151 : decode cX10_readAny 151 = .ok (.aload_n 0, 1) := by decide +kernel
theorem dX10_readAny_152 : decode cX10_readAny 152 = .ok (.bipush 12, 2) := by decide +kernel
theorem dX10_readAny_154 : decode cX10_readAny 154 = .ok (.invokevirtual 297, 3) := by decide +kernel
theorem dX10_readAny_157 : decode cX10_readAny 157 = .ok (.aload_n 0, 1) := by decide +kernel
theorem dX10_readAny_158 : decode cX10_readAny 158 = .ok (.bipush 12, 2) := by decide +kernel
theorem dX10_readAny_160 : decode cX10_readAny 160 = .ok (.invokevirtual 291, 3) := by decide +kernel
theorem dX10_readAny_163 : decode cX10_readAny 163 = .ok (.aload_n 0, 1) := by decide +kernel
theorem dX10_readAny_164 : decode cX10_readAny 164 = .ok (.invokevirtual 269, 3) := by decide +kernel
theorem dX10_readAny_167 : decode cX10_readAny 167 = .ok (.iconst 1, 1) := by decide +kernel
theorem dX10_readAny_168 : decode cX10_readAny 168 = .ok (.istore_n 2, 1) := by decide +kernel
theorem dX10_readAny_169 : decode cX10_readAny 169 = .ok (.goto (-160), 3) := by decide +kernel
theorem dX10_readAny_172 : decode cX10_readAny 172 = .ok (.aload_n 0, 1) := by decide +kernel
theorem dX10_readAny_173 : decode cX10_readAny 173 = .ok (.bipush 11, 2) := by decide +kernel
theorem dX10_readAny_175 : decode cX10_readAny 175 = .ok (.invokevirtual 297, 3) := by decide +kernel
theorem dX10_readAny_178 : decode cX10_readAny 178 = .ok (.aload_n 0, 1) := by decide +kernel
theorem dX10_readAny_179 : decode cX10_readAny 179 = .ok (.bipush 12, 2) := by decide +kernel
theorem dX10_readAny_181 : decode cX10_readAny 181 = .ok (.invokevirtual 297, 3) := by decide +kernel
theorem dX10_readAny_184 : decode cX10_readAny 184 = .ok (.iload_n 1, 1) := by decide +kernel
theorem dX10_readAny_185 : decode cX10_readAny 185 = .ok (.ifCond .ne 5, 3) := by decide +kernel
theorem dX10_readAny_188 : decode cX10_readAny 188 = .ok (.iconst 0, 1) := by decide +kernel
theorem dX10_readAny_189 : decode cX10_readAny 189 = .ok (.ireturn, 1) := by decide +kernel
theorem dX10_readAny_190 : decode cX10_readAny 190 = .ok (.aload_n 0, 1) := by decide +kernel
theorem dX10_readAny_191 : decode cX10_readAny 191 = .ok (.bipush 41, 2) := by decide +kernel
theorem dX10_readAny_193 : decode cX10_readAny 193 = .ok (.invokevirtual 276, 3) := by decide +kernel
theorem dX10_readAny_196 : decode cX10_readAny 196 = .ok (.ifCond .ne 9, 3) := by decide +kernel
theorem dX10_readAny_199 : decode cX10_readAny 199 = .ok (.aload_n 0, 1) := by decide +kernel
theorem dX10_readAny_200 : decode cX10_readAny 200 = .ok (.iconst 1, 1) := by decide +kernel
theorem dX10_readAny_201 : decode cX10_readAny 201 = .ok (.invokevirtual 262, 3) := by decide +kernel
theorem dX10_readAny_204 : decode cX10_readAny 204 = .ok (.ireturn, 1) := by decide +kernel
theorem dX10_readAny_205 : decode cX10_readAny 205 = .ok (.aload_n 0, 1) := by decide +kernel
theorem dX10_readAny_206 : decode cX10_readAny 206 = .ok (.aload_n 0, 1) := by decide +kernel
theorem dX10_readAny_207 : decode cX10_readAny 207 = .ok (.getfield 285, 3) := by decide +kernel
theorem dX10_readAny_210 : decode cX10_readAny 210 = .ok (.iconst 1, 1) := by decide +kernel
theorem dX10_readAny_211 : decode cX10_readAny 211 = .ok (.isub, 1) := by decide +kernel
theorem dX10_readAny_212 : decode cX10_readAny 212 = .ok (.putfield 285, 3) := by decide +kernel
theorem dX10_readAny_215 : decode cX10_readAny 215 = .ok (.iload_n 1, 1) := by decide +kernel
theorem dX10_readAny_216 : decode cX10_readAny 216 = .ok (.iconst 1, 1) := by decide +kernel
theorem dX10_readAny_217 : decode cX10_readAny 217 = .ok (.isub, 1) := by decide +kernel
theorem dX10_readAny_218 : decode cX10_readAny 218 = .ok (.istore_n 1, 1) := by decide +kernel
theorem dX10_readAny_219 : decode cX10_readAny 219 = .ok (.aload_n 0, 1) := by decide +kernel
theorem dX10_readAny_220 : decode cX10_readAny 220 = .ok (.aload_n 0, 1) := by decide +kernel
theorem dX10_readAny_221 : decode cX10_readAny 221 = .ok (.getfield 288, 3) := by decide +kernel
theorem dX10_readAny_224 : decode cX10_readAny 224 = .ok (.iconst 1, 1) := by decide +kernel
theorem dX10_readAny_225 : decode cX10_readAny 225 = .ok (.isub, 1) := by decide +kernel
theorem dX10_readAny_226 : decode cX10_readAny 226 = .ok (.putfield 288, 3) := by decide +kernel
theorem dX10_readAny_229 : decode cX10_readAny 229 = .ok (.aload_n 0, 1) := by decide +kernel
theorem dX10_readAny_230 : decode cX10_readAny 230 = .ok (.bipush 10, 2) := by decide +kernel
theorem dX10_readAny_232 : decode cX10_readAny 232 = .ok (.invokevirtual 297, 3) := by decide +kernel
theorem dX10_readAny_235 : decode cX10_readAny 235 = .ok (.aload_n 0, 1) := by decide +kernel
theorem dX10_readAny_236 : decode cX10_readAny 236 = .ok (.invokevirtual 269, 3) := by decide +kernel
theorem dX10_readAny_239 : decode cX10_readAny 239 = .ok (.goto (-230), 3) := by decide +kernel
theorem dX10_reads_0 : decode cX10_reads 0 = .ok (.aload_n 0, 1) := by decide +kernel
theorem dX10_reads_1 : decode cX10_reads 1 = .ok (.iconst 0, 1) := by decide +kernel
theorem dX10_reads_2 : decode cX10_reads 2 = .ok (.putfield 223, 3) := by decide +kernel
theorem dX10_reads_5 : decode cX10_reads 5 = .ok (.aload_n 0, 1) := by decide +kernel
theorem dX10_reads_6 : decode cX10_reads 6 = .ok (.iconst 0, 1) := by decide +kernel
theorem dX10_reads_7 : decode cX10_reads 7 = .ok (.putfield 256, 3) := by decide +kernel
theorem dX10_reads_10 : decode cX10_reads 10 = .ok (.aload_n 0, 1) := by decide +kernel
theorem dX10_reads_11 : decode cX10_reads 11 = .ok (.iconst 0, 1) := by decide +kernel
theorem dX10_reads_12 : decode cX10_reads 12 = .ok (.putfield 288, 3) := by decide +kernel
theorem dX10_reads_15 : decode cX10_reads 15 = .ok (.aload_n 0, 1) := by decide +kernel
theorem dX10_reads_16 : decode cX10_reads 16 = .ok (.getfield 72, 3) := by decide +kernel
theorem dX10_reads_19 : decode cX10_reads 19 = .ok (.aload_n 0, 1) := by decide +kernel
theorem dX10_reads_20 : decode cX10_reads 20 = .ok (.getfield 220, 3) := by decide +kernel
theorem dX10_reads_23 : decode cX10_reads 23 = .ok (.iconst 0, 1) := by decide +kernel
theorem dX10_reads_24 : decode cX10_reads 24 = .ok (.iastore, 1) := by decide +kernel
theorem dX10_reads_25 : decode cX10_reads 25 = .ok (.aload_n 0, 1) := by decide +kernel
theorem dX10_reads_26 : decode cX10_reads 26 = .ok (.invokevirtual 269, 3) := by decide +kernel
theorem dX10_reads_29 : decode cX10_reads 29 = .ok (.aload_n 0, 1) := by decide +kernel
theorem dX10_reads_30 : decode cX10_reads 30 = .ok (.iconst 0, 1) := by decide +kernel
theorem dX10_reads_31 : decode cX10_reads 31 = .ok (.invokevirtual 259, 3) := by decide +kernel
theorem dX10_reads_34 : decode cX10_reads 34 = .ok (.ifCond .ne 9, 3) := by decide +kernel
theorem dX10_reads_37 : decode cX10_reads 37 = .ok (.aload_n 0, 1) := by decide +kernel
theorem dX10_reads_38 : decode cX10_reads 38 = .ok (.iconst 1, 1) := by decide +kernel
theorem dX10_reads_39 : decode cX10_reads 39 = .ok (.invokevirtual 262, 3) := by decide +kernel
theorem dX10_reads_42 : decode cX10_reads 42 = .ok (.ireturn, 1) := by decide +kernel
theorem dX10_reads_43 : decode cX10_reads 43 = .ok (.aload_n 0, 1) := by decide +kernel
theorem dX10_reads_44 : decode cX10_reads 44 = .ok (.invokevirtual 269, 3) := by decide +kernel
theorem dX10_reads_47 : decode cX10_reads 47 = .ok (.aload_n 0, 1) := by decide +kernel
theorem dX10_reads_48 : decode cX10_reads 48 = .ok (.invokevirtual 282, 3) := by decide +kernel
theorem dX10_reads_51 : decode cX10_reads 51 = .ok (.iconst (-1), 1) := by decide +kernel
theorem dX10_reads_52 : decode cX10_reads 52 = .ok (.if_icmp .ne 5, 3) := by decide +kernel
theorem dX10_reads_55 : decode cX10_reads 55 = .ok (.iconst (-1), 1) := by decide +kernel
theorem dX10_reads_56 : decode cX10_reads 56 = .ok (.ireturn, 1) := by decide +kernel
theorem dX10_reads_57 : decode cX10_reads 57 = .ok (.aload_n 0, 1) := by decide +kernel
theorem dX10_reads_58 : decode cX10_reads 58 = .ok (.getfield 81, 3) := by decide +kernel
theorem dX10_reads_61 : decode cX10_reads 61 = .ok (.aload_n 0, 1) := by decide +kernel
theorem dX10_reads_62 : decode cX10_reads 62 = .ok (.getfield 220, 3) := by decide +kernel
theorem dX10_reads_65 : decode cX10_reads 65 = .ok (.aload_n 0, 1) := by decide +kernel
theorem dX10_reads_66 : decode cX10_reads 66 = .ok (.getfield 256, 3) := by decide +kernel
theorem dX10_reads_69 : decode cX10_reads 69 = .ok (.iastore, 1) := by decide +kernel
theorem dX10_reads_70 : decode cX10_reads 70 = .ok (.aload_n 0, 1) := by decide +kernel
theorem dX10_reads_71 : decode cX10_reads 71 = .ok (.iconst 1, 1) := by decide +kernel
theorem dX10_reads_72 : decode cX10_reads 72 = .ok (.invokevirtual 259, 3) := by decide +kernel
theorem dX10_reads_75 : decode cX10_reads 75 = .ok (.ifCond .eq 17, 3) := by decide +kernel
theorem dX10_reads_78 : decode cX10_reads 78 = .ok (.aload_n 0, 1) := by decide +kernel
theorem dX10_reads_79 : decode cX10_reads 79 = .ok (.invokevirtual 269, 3) := by decide +kernel
theorem dX10_reads_82 : decode cX10_reads 82 = .ok (.aload_n 0, 1) := by decide +kernel
theorem dX10_reads_83 : decode cX10_reads 83 = .ok (.invokevirtual 300, 3) := by decide +kernel
theorem dX10_reads_86 : decode cX10_reads 86 = .ok (.iconst (-1), 1) := by decide +kernel
theorem dX10_reads_87 : decode cX10_reads 87 = .ok (.if_icmp .ne 5, 3) := by decide +kernel
theorem dX10_reads_90 : decode cX10_reads 90 = .ok (.iconst (-1), 1) := by decide +kernel
theorem dX10_reads_91 : decode cX10_reads 91 = .ok (.ireturn, 1) := by decide +kernel
theorem dX10_reads_92 : decode cX10_reads 92 = .ok (.aload_n 0, 1) := by decide +kernel
theorem dX10_reads_93 : decode cX10_reads 93 = .ok (.getfield 84, 3) := by decide +kernel
theorem dX10_reads_96 : decode cX10_reads 96 = .ok (.aload_n 0, 1) := by decide +kernel
theorem dX10_reads_97 : decode cX10_reads 97 = .ok (.getfield 220, 3) := by decide +kernel
theorem dX10_reads_100 : decode cX10_reads 100 = .ok (.aload_n 0, 1) := by decide +kernel
theorem dX10_reads_101 : decode cX10_reads 101 = .ok (.getfield 256, 3) := by decide +kernel
theorem dX10_reads_104 : decode cX10_reads 104 = .ok (.iastore, 1) := by decide +kernel
theorem dX10_reads_105 : decode cX10_reads 105 = .ok (.aload_n 0, 1) := by decide +kernel
theorem dX10_reads_106 : decode cX10_reads 106 = .ok (.iconst 2, 1) := by decide +kernel
theorem dX10_reads_107 : decode cX10_reads 107 = .ok (.invokevirtual 259, 3) := by decide +kernel
theorem dX10_reads_110 : decode cX10_reads 110 = .ok (.ifCond .eq 17, 3) := by decide +kernel
theorem dX10_reads_113 : decode cX10_reads 113 = .ok (.aload_n 0, 1) := by decide +kernel
theorem dX10_reads_114 : decode cX10_reads 114 = .ok (.invokevirtual 269, 3) := by decide +kernel
theorem dX10_reads_117 : decode cX10_reads 117 = .ok (.aload_n 0, 1) := by decide +kernel
theorem dX10_reads_118 : decode cX10_reads 118 = .ok (.invokevirtual 300, 3) := by decide +kernel
theorem dX10_reads_121 : decode cX10_reads 121 = .ok (.iconst (-1), 1) := by decide +kernel
theorem dX10_reads_122 : decode cX10_reads 122 = .ok (.if_icmp .ne 5, 3) := by decide +kernel
theorem dX10_reads_125 : decode cX10_reads 125 = .ok (.iconst (-1), 1) := by decide +kernel
theorem dX10_reads_126 : decode cX10_reads 126 = .ok (.ireturn, 1) := by decide +kernel
theorem dX10_reads_127 : decode cX10_reads 127 = .ok (.aload_n 0, 1) := by decide +kernel
theorem dX10_reads_128 : decode cX10_reads 128 = .ok (.getfield 87, 3) := by decide +kernel
theorem dX10_reads_131 : decode cX10_reads 131 = .ok (.aload_n 0, 1) := by decide +kernel
theorem dX10_reads_132 : decode cX10_reads 132 = .ok (.getfield 220, 3) := by decide +kernel
theorem dX10_reads_135 : decode cX10_reads 135 = .ok (.aload_n 0, 1) := by decide +kernel
theorem dX10_reads_136 : decode cX10_reads 136 = .ok (.getfield 256, 3) := by decide +kernel
theorem dX10_reads_139 : decode cX10_reads 139 = .ok (.iastore, 1) := by decide +kernel
theorem dX10_reads_140 : decode cX10_reads 140 = .ok (.aload_n 0, 1) := by decide +kernel
theorem dX10_reads_141 : decode cX10_reads 141 = .ok (.bipush 59, 2) := by decide +kernel
theorem dX10_reads_143 : decode cX10_reads 143 = .ok (.invokevirtual 276, 3) := by decide +kernel
theorem dX10_reads_146 : decode cX10_reads 146 = .ok (.ifCond .ne 9, 3) := by decide +kernel
theorem dX10_reads_149 : decode cX10_reads 149 = .ok (.aload_n 0, 1) := by decide +kernel
theorem dX10_reads_150 : decode cX10_reads 150 = .ok (.iconst 1, 1) := by decide +kernel
theorem dX10_reads_151 : decode cX10_reads 151 = .ok (.invokevirtual 262, 3) := by decide +kernel
theorem dX10_reads_154 : decode cX10_reads 154 = .ok (.ireturn, 1) := by decide +kernel
theorem dX10_reads_155 : decode cX10_reads 155 = .ok (.aload_n 0, 1) := by decide +kernel
theorem dX10_reads_156 : decode cX10_reads 156 = .ok (.invokevirtual 269, 3) := by decide +kernel
theorem dX10_reads_159 : decode cX10_reads 159 = .ok (.aload_n 0, 1) := by decide +kernel
theorem dX10_reads_160 : decode cX10_reads 160 = .ok (.getfield 232, 3) := by decide +kernel
theorem dX10_reads_163 : decode cX10_reads 163 = .ok (.ifCond .ne 7, 3) := by decide +kernel
theorem dX10_reads_166 : decode cX10_reads 166 = .ok (.iconst 0, 1) := by decide +kernel
theorem dX10_reads_167 : decode cX10_reads 167 = .ok (.goto 8, 3) := by decide +kernel
theorem dX10_reads_170 : decode cX10_reads 170 = .ok (.aload_n 0, 1) := by decide +kernel
theorem dX10_reads_171 : decode cX10_reads 171 = .ok (.iconst 1, 1) := by decide +kernel
theorem dX10_reads_172 : decode cX10_reads 172 = .ok (.invokevirtual 262, 3) := by decide +kernel
theorem dX10_reads_175 : decode cX10_reads 175 = .ok (.ireturn, 1) := by decide +kernel
theorem dX10_wording_0 : decode cX10_wording 0 = .ok (.aload_n 0, 1) := by decide +kernel
theorem dX10_wording_1 : decode cX10_wording 1 = .ok (.iconst 0, 1) := by decide +kernel
theorem dX10_wording_2 : decode cX10_wording 2 = .ok (.putfield 159, 3) := by decide +kernel
theorem dX10_wording_5 : decode cX10_wording 5 = .ok (.aload_n 0, 1) := by decide +kernel
theorem dX10_wording_6 : decode cX10_wording 6 = .ok (.iconst 0, 1) := by decide +kernel
theorem dX10_wording_7 : decode cX10_wording 7 = .ok (.putfield 303, 3) := by decide +kernel
theorem dX10_wording_10 : decode cX10_wording 10 = .ok (.aload_n 0, 1) := by decide +kernel
theorem dX10_wording_11 : decode cX10_wording 11 = .ok (.iconst (-1), 1) := by decide +kernel
theorem dX10_wording_12 : decode cX10_wording 12 = .ok (.putfield 93, 3) := by decide +kernel
theorem dX10_wording_15 : decode cX10_wording 15 = .ok (.aload_n 0, 1) := by decide +kernel
theorem dX10_wording_16 : decode cX10_wording 16 = .ok (.getfield 220, 3) := by decide +kernel
theorem dX10_wording_19 : decode cX10_wording 19 = .ok (.bipush 32, 2) := by decide +kernel
theorem dX10_wording_21 : decode cX10_wording 21 = .ok (.if_icmp .ge 14, 3) := by decide +kernel
theorem dX10_wording_24 : decode cX10_wording 24 = .ok (.aload_n 0, 1) := by decide +kernel
theorem dX10_wording_25 : decode cX10_wording 25 = .ok (.invokevirtual 306, 3) := by decide +kernel
theorem dX10_wording_28 : decode cX10_wording 28 = .ok (.ifCond .ne 7, 3) := by decide +kernel
theorem dX10_wording_31 : decode cX10_wording 31 = .ok (.iconst 1, 1) := by decide +kernel
theorem dX10_wording_32 : decode cX10_wording 32 = .ok (.goto 4, 3) := by decide +kernel
theorem dX10_wording_35 : decode cX10_wording 35 = .ok (.iconst 0, 1) := by decide +kernel
theorem dX10_wording_36 : decode cX10_wording 36 = .ok (.istore_n 1, 1) := by decide +kernel
theorem dX10_wording_37 : decode cX10_wording 37 = .ok (.aload_n 0, 1) := by decide +kernel
theorem dX10_wording_38 : decode cX10_wording 38 = .ok (.iconst 0, 1) := by decide +kernel
theorem dX10_wording_39 : decode cX10_wording 39 = .ok (.putfield 213, 3) := by decide +kernel
theorem dX10_wording_42 : decode cX10_wording 42 = .ok (.iload_n 1, 1) := by decide +kernel
theorem dX10_wording_43 : decode cX10_wording 43 = .ok (.ifCond .eq 20, 3) := by decide +kernel
theorem dX10_wording_46 : decode cX10_wording 46 = .ok (.aload_n 0, 1) := by decide +kernel
theorem dX10_wording_47 : decode cX10_wording 47 = .ok (.aload_n 0, 1) := by decide +kernel
theorem dX10_wording_48 : decode cX10_wording 48 = .ok (.getfield 220, 3) := by decide +kernel
theorem dX10_wording_51 : decode cX10_wording 51 = .ok (.iconst 1, 1) := by decide +kernel
theorem dX10_wording_52 : decode cX10_wording 52 = .ok (.iadd, 1) := by decide +kernel
theorem dX10_wording_53 : decode cX10_wording 53 = .ok (.putfield 220, 3) := by decide +kernel
theorem dX10_wording_56 : decode cX10_wording 56 = .ok (.aload_n 0, 1) := by decide +kernel
theorem dX10_wording_57 : decode cX10_wording 57 = .ok (.getfield 220, 3) := by decide +kernel
theorem dX10_wording_60 : decode cX10_wording 60 = .ok (.iconst 1, 1) := by decide +kernel
theorem dX10_wording_61 : decode cX10_wording 61 = .ok (.isub, 1) := by decide +kernel
theorem dX10_wording_62 : decode cX10_wording 62 = .ok (.ireturn, 1) := by decide +kernel
theorem dX10_wording_63 : decode cX10_wording 63 = .ok (.aload_n 0, 1) := by decide +kernel
theorem dX10_wording_64 : decode cX10_wording 64 = .ok (.getfield 220, 3) := by decide +kernel
theorem dX10_wording_67 : decode cX10_wording 67 = .ok (.bipush 32, 2) := by decide +kernel
theorem dX10_wording_69 : decode cX10_wording 69 = .ok (.if_icmp .ge 19, 3) := by decide +kernel
theorem dX10_wording_72 : decode cX10_wording 72 = .ok (.aload_n 0, 1) := by decide +kernel
theorem dX10_wording_73 : decode cX10_wording 73 = .ok (.aload_n 0, 1) := by decide +kernel
theorem dX10_wording_74 : decode cX10_wording 74 = .ok (.getfield 250, 3) := by decide +kernel
theorem dX10_wording_77 : decode cX10_wording 77 = .ok (.putfield 303, 3) := by decide +kernel
theorem dX10_wording_80 : decode cX10_wording 80 = .ok (.aload_n 0, 1) := by decide +kernel
theorem dX10_wording_81 : decode cX10_wording 81 = .ok (.aload_n 0, 1) := by decide +kernel
theorem dX10_wording_82 : decode cX10_wording 82 = .ok (.getfield 253, 3) := by decide +kernel
theorem dX10_wording_85 : decode cX10_wording 85 = .ok (.putfield 93, 3) := by decide +kernel
theorem dX10_wording_88 : decode cX10_wording 88 = .ok (.iconst (-1), 1) := by decide +kernel
theorem dX10_wording_89 : decode cX10_wording 89 = .ok (.ireturn, 1) := by decide +kernel
theorem dX10_fault_0 : decode cX10_fault 0 = .ok (.aload_n 0, 1) := by decide +kernel
theorem dX10_fault_1 : decode cX10_fault 1 = .ok (.iconst 0, 1) := by decide +kernel
theorem dX10_fault_2 : decode cX10_fault 2 = .ok (.putfield 159, 3) := by decide +kernel
theorem dX10_fault_5 : decode cX10_fault 5 = .ok (.iload_n 1, 1) := by decide +kernel
theorem dX10_fault_6 : decode cX10_fault 6 = .ok (.ifCond .ne 10, 3) := by decide +kernel
theorem dX10_fault_9 : decode cX10_fault 9 = .ok (.aload_n 0, 1) := by decide +kernel
theorem dX10_fault_10 : decode cX10_fault 10 = .ok (.getfield 303, 3) := by decide +kernel
theorem dX10_fault_13 : decode cX10_fault 13 = .ok (.goto 16, 3) := by decide +kernel
theorem dX10_fault_16 : decode cX10_fault 16 = .ok (.iload_n 1, 1) := by decide +kernel
theorem dX10_fault_17 : decode cX10_fault 17 = .ok (.iconst 1, 1) := by decide +kernel
theorem dX10_fault_18 : decode cX10_fault 18 = .ok (.if_icmp .ne 10, 3) := by decide +kernel
theorem dX10_fault_21 : decode cX10_fault 21 = .ok (.aload_n 0, 1) := by decide +kernel
theorem dX10_fault_22 : decode cX10_fault 22 = .ok (.getfield 93, 3) := by decide +kernel
theorem dX10_fault_25 : decode cX10_fault 25 = .ok (.goto 4, 3) := by decide +kernel
theorem dX10_fault_28 : decode cX10_fault 28 = .ok (.iconst (-1), 1) := by decide +kernel
theorem dX10_fault_29 : decode cX10_fault 29 = .ok (.ireturn, 1) := by decide +kernel
theorem dX10_twoOf_0 : decode cX10_twoOf 0 = .ok (.iload_n 1, 1) := by decide +kernel
theorem dX10_twoOf_1 : decode cX10_twoOf 1 = .ok (.iconst 3, 1) := by decide +kernel
theorem dX10_twoOf_2 : decode cX10_twoOf 2 = .ok (.if_icmp .ne 7, 3) := by decide +kernel
theorem dX10_twoOf_5 : decode cX10_twoOf 5 = .ok (.iload_n 2, 1) := by decide +kernel
theorem dX10_twoOf_6 : decode cX10_twoOf 6 = .ok (.iload_n 3, 1) := by decide +kernel
theorem dX10_twoOf_7 : decode cX10_twoOf 7 = .ok (.iadd, 1) := by decide +kernel
theorem dX10_twoOf_8 : decode cX10_twoOf 8 = .ok (.ireturn, 1) := by decide +kernel
theorem dX10_twoOf_9 : decode cX10_twoOf 9 = .ok (.iload_n 1, 1) := by decide +kernel
theorem dX10_twoOf_10 : decode cX10_twoOf 10 = .ok (.iconst 4, 1) := by decide +kernel
theorem dX10_twoOf_11 : decode cX10_twoOf 11 = .ok (.if_icmp .ne 7, 3) := by decide +kernel
theorem dX10_twoOf_14 : decode cX10_twoOf 14 = .ok (.iload_n 2, 1) := by decide +kernel
theorem dX10_twoOf_15 : decode cX10_twoOf 15 = .ok (.iload_n 3, 1) := by decide +kernel
theorem dX10_twoOf_16 : decode cX10_twoOf 16 = .ok (.isub, 1) := by decide +kernel
theorem dX10_twoOf_17 : decode cX10_twoOf 17 = .ok (.ireturn, 1) := by decide +kernel
theorem dX10_twoOf_18 : decode cX10_twoOf 18 = .ok (.iload_n 1, 1) := by decide +kernel
theorem dX10_twoOf_19 : decode cX10_twoOf 19 = .ok (.iconst 5, 1) := by decide +kernel
theorem dX10_twoOf_20 : decode cX10_twoOf 20 = .ok (.if_icmp .ne 7, 3) := by decide +kernel
theorem dX10_twoOf_23 : decode cX10_twoOf 23 = .ok (.iload_n 2, 1) := by decide +kernel
theorem dX10_twoOf_24 : decode cX10_twoOf 24 = .ok (.iload_n 3, 1) := by decide +kernel
theorem dX10_twoOf_25 : decode cX10_twoOf 25 = .ok (.imul, 1) := by decide +kernel
theorem dX10_twoOf_26 : decode cX10_twoOf 26 = .ok (.ireturn, 1) := by decide +kernel
theorem dX10_twoOf_27 : decode cX10_twoOf 27 = .ok (.iload_n 1, 1) := by decide +kernel
theorem dX10_twoOf_28 : decode cX10_twoOf 28 = .ok (.bipush 6, 2) := by decide +kernel
theorem dX10_twoOf_30 : decode cX10_twoOf 30 = .ok (.if_icmp .ne 7, 3) := by decide +kernel
theorem dX10_twoOf_33 : decode cX10_twoOf 33 = .ok (.iload_n 2, 1) := by decide +kernel
theorem dX10_twoOf_34 : decode cX10_twoOf 34 = .ok (.iload_n 3, 1) := by decide +kernel
theorem dX10_twoOf_35 : decode cX10_twoOf 35 = .ok (.idiv, 1) := by decide +kernel
theorem dX10_twoOf_36 : decode cX10_twoOf 36 = .ok (.ireturn, 1) := by decide +kernel
theorem dX10_twoOf_37 : decode cX10_twoOf 37 = .ok (.iload_n 1, 1) := by decide +kernel
theorem dX10_twoOf_38 : decode cX10_twoOf 38 = .ok (.bipush 7, 2) := by decide +kernel
theorem dX10_twoOf_40 : decode cX10_twoOf 40 = .ok (.if_icmp .ne 14, 3) := by decide +kernel
theorem dX10_twoOf_43 : decode cX10_twoOf 43 = .ok (.iload_n 2, 1) := by decide +kernel
theorem dX10_twoOf_44 : decode cX10_twoOf 44 = .ok (.iload_n 3, 1) := by decide +kernel
theorem dX10_twoOf_45 : decode cX10_twoOf 45 = .ok (.if_icmp .ge 7, 3) := by decide +kernel
theorem dX10_twoOf_48 : decode cX10_twoOf 48 = .ok (.iconst 1, 1) := by decide +kernel
theorem dX10_twoOf_49 : decode cX10_twoOf 49 = .ok (.goto 4, 3) := by decide +kernel
theorem dX10_twoOf_52 : decode cX10_twoOf 52 = .ok (.iconst 0, 1) := by decide +kernel
theorem dX10_twoOf_53 : decode cX10_twoOf 53 = .ok (.ireturn, 1) := by decide +kernel
theorem dX10_twoOf_54 : decode cX10_twoOf 54 = .ok (.iload_n 1, 1) := by decide +kernel
theorem dX10_twoOf_55 : decode cX10_twoOf 55 = .ok (.bipush 8, 2) := by decide +kernel
theorem dX10_twoOf_57 : decode cX10_twoOf 57 = .ok (.if_icmp .ne 14, 3) := by decide +kernel
theorem dX10_twoOf_60 : decode cX10_twoOf 60 = .ok (.iload_n 2, 1) := by decide +kernel
theorem dX10_twoOf_61 : decode cX10_twoOf 61 = .ok (.iload_n 3, 1) := by decide +kernel
theorem dX10_twoOf_62 : decode cX10_twoOf 62 = .ok (.if_icmp .ne 7, 3) := by decide +kernel
theorem dX10_twoOf_65 : decode cX10_twoOf 65 = .ok (.iconst 1, 1) := by decide +kernel
theorem dX10_twoOf_66 : decode cX10_twoOf 66 = .ok (.goto 4, 3) := by decide +kernel
theorem dX10_twoOf_69 : decode cX10_twoOf 69 = .ok (.iconst 0, 1) := by decide +kernel
theorem dX10_twoOf_70 : decode cX10_twoOf 70 = .ok (.ireturn, 1) := by decide +kernel
theorem dX10_twoOf_71 : decode cX10_twoOf 71 = .ok (.iload_n 1, 1) := by decide +kernel
theorem dX10_twoOf_72 : decode cX10_twoOf 72 = .ok (.bipush 9, 2) := by decide +kernel
theorem dX10_twoOf_74 : decode cX10_twoOf 74 = .ok (.if_icmp .ne 14, 3) := by decide +kernel
theorem dX10_twoOf_77 : decode cX10_twoOf 77 = .ok (.iload_n 2, 1) := by decide +kernel
theorem dX10_twoOf_78 : decode cX10_twoOf 78 = .ok (.iload_n 3, 1) := by decide +kernel
theorem dX10_twoOf_79 : decode cX10_twoOf 79 = .ok (.if_icmp .le 7, 3) := by decide +kernel
theorem dX10_twoOf_82 : decode cX10_twoOf 82 = .ok (.iconst 1, 1) := by decide +kernel
theorem dX10_twoOf_83 : decode cX10_twoOf 83 = .ok (.goto 4, 3) := by decide +kernel
theorem dX10_twoOf_86 : decode cX10_twoOf 86 = .ok (.iconst 0, 1) := by decide +kernel
theorem dX10_twoOf_87 : decode cX10_twoOf 87 = .ok (.ireturn, 1) := by decide +kernel
theorem dX10_twoOf_88 : decode cX10_twoOf 88 = .ok (.iload_n 1, 1) := by decide +kernel
theorem dX10_twoOf_89 : decode cX10_twoOf 89 = .ok (.bipush 11, 2) := by decide +kernel
theorem dX10_twoOf_91 : decode cX10_twoOf 91 = .ok (.if_icmp .ne 9, 3) := by decide +kernel
theorem dX10_twoOf_94 : decode cX10_twoOf 94 = .ok (.iload_n 2, 1) := by decide +kernel
theorem dX10_twoOf_95 : decode cX10_twoOf 95 = .ok (.iload_n 3, 1) := by decide +kernel
theorem dX10_twoOf_96 : decode cX10_twoOf 96 = .ok (.imul, 1) := by decide +kernel
theorem dX10_twoOf_97 : decode cX10_twoOf 97 = .ok (.goto 14, 3) := by decide +kernel
theorem dX10_twoOf_100 : decode cX10_twoOf 100 = .ok (.iload_n 2, 1) := by decide +kernel
theorem dX10_twoOf_101 : decode cX10_twoOf 101 = .ok (.iload_n 3, 1) := by decide +kernel
theorem dX10_twoOf_102 : decode cX10_twoOf 102 = .ok (.iadd, 1) := by decide +kernel
theorem dX10_twoOf_103 : decode cX10_twoOf 103 = .ok (.ifCond .le 7, 3) := by decide +kernel
theorem dX10_twoOf_106 : decode cX10_twoOf 106 = .ok (.iconst 1, 1) := by decide +kernel
theorem dX10_twoOf_107 : decode cX10_twoOf 107 = .ok (.goto 4, 3) := by decide +kernel
theorem dX10_twoOf_110 : decode cX10_twoOf 110 = .ok (.iconst 0, 1) := by decide +kernel
theorem dX10_twoOf_111 : decode cX10_twoOf 111 = .ok (.ireturn, 1) := by decide +kernel
theorem dX10_worth_0 : decode cX10_worth 0 = .ok (.iconst 0, 1) := by decide +kernel
theorem dX10_worth_1 : decode cX10_worth 1 = .ok (.istore 5, 2) := by decide +kernel
theorem dX10_worth_3 : decode cX10_worth 3 = .ok (.sipush 400, 3) := by decide +kernel
theorem dX10_worth_6 : decode cX10_worth 6 = .ok (.iload_n 1, 1) := by decide +kernel
theorem dX10_worth_7 : decode cX10_worth 7 = .ok (.imul, 1) := by decide +kernel
theorem dX10_worth_8 : decode cX10_worth 8 = .ok (.iload_n 2, 1) := by decide +kernel
theorem dX10_worth_9 : decode cX10_worth 9 = .ok (.iadd, 1) := by decide +kernel
theorem dX10_worth_10 : decode cX10_worth 10 = .ok (.istore 6, 2) := by decide +kernel
theorem dX10_worth_12 : decode cX10_worth 12 = .ok (.iload 6, 2) := by decide +kernel
theorem dX10_worth_14 : decode cX10_worth 14 = .ok (.sipush 400, 3) := by decide +kernel
theorem dX10_worth_17 : decode cX10_worth 17 = .ok (.iload_n 1, 1) := by decide +kernel
theorem dX10_worth_18 : decode cX10_worth 18 = .ok (.imul, 1) := by decide +kernel
theorem dX10_worth_19 : decode cX10_worth 19 = .ok (.iload_n 3, 1) := by decide +kernel
theorem dX10_worth_20 : decode cX10_worth 20 = .ok (.iadd, 1) := by decide +kernel
theorem dX10_worth_21 : decode cX10_worth 21 = .ok (.if_icmp .ge 187, 3) := by decide +kernel
theorem dX10_worth_24 : decode cX10_worth 24 = .ok (.aload_n 0, 1) := by decide +kernel
theorem dX10_worth_25 : decode cX10_worth 25 = .ok (.getfield 75, 3) := by decide +kernel
theorem dX10_worth_28 : decode cX10_worth 28 = .ok (.iload 6, 2) := by decide +kernel
theorem dX10_worth_30 : decode cX10_worth 30 = .ok (.iaload, 1) := by decide +kernel
theorem dX10_worth_31 : decode cX10_worth 31 = .ok (.iconst 2, 1) := by decide +kernel
theorem dX10_worth_32 : decode cX10_worth 32 = .ok (.if_icmp .gt 93, 3) := by decide +kernel
theorem dX10_worth_35 : decode cX10_worth 35 = .ok (.aload_n 0, 1) := by decide +kernel
theorem dX10_worth_36 : decode cX10_worth 36 = .ok (.getfield 102, 3) := by decide +kernel
theorem dX10_worth_39 : decode cX10_worth 39 = .ok (.iload 5, 2) := by decide +kernel
theorem dX10_worth_41 : decode cX10_worth 41 = .ok (.aload_n 0, 1) := by decide +kernel
theorem dX10_worth_42 : decode cX10_worth 42 = .ok (.getfield 75, 3) := by decide +kernel
theorem dX10_worth_45 : decode cX10_worth 45 = .ok (.iload 6, 2) := by decide +kernel
theorem dX10_worth_47 : decode cX10_worth 47 = .ok (.iaload, 1) := by decide +kernel
theorem dX10_worth_48 : decode cX10_worth 48 = .ok (.ifCond .ne 13, 3) := by decide +kernel
theorem dX10_worth_51 : decode cX10_worth 51 = .ok (.aload_n 0, 1) := by decide +kernel
theorem dX10_worth_52 : decode cX10_worth 52 = .ok (.getfield 78, 3) := by decide +kernel
theorem dX10_worth_55 : decode cX10_worth 55 = .ok (.iload 6, 2) := by decide +kernel
theorem dX10_worth_57 : decode cX10_worth 57 = .ok (.iaload, 1) := by decide +kernel
theorem dX10_worth_58 : decode cX10_worth 58 = .ok (.goto 57, 3) := by decide +kernel
theorem dX10_worth_61 : decode cX10_worth 61 = .ok (.aload_n 0, 1) := by decide +kernel
theorem dX10_worth_62 : decode cX10_worth 62 = .ok (.getfield 75, 3) := by decide +kernel
theorem dX10_worth_65 : decode cX10_worth 65 = .ok (.iload 6, 2) := by decide +kernel
theorem dX10_worth_67 : decode cX10_worth 67 = .ok (.iaload, 1) := by decide +kernel
theorem dX10_worth_68 : decode cX10_worth 68 = .ok (.iconst 1, 1) := by decide +kernel
theorem dX10_worth_69 : decode cX10_worth 69 = .ok (.if_icmp .ne 18, 3) := by decide +kernel
theorem dX10_worth_72 : decode cX10_worth 72 = .ok (.aload_n 0, 1) := by decide +kernel
theorem dX10_worth_73 : decode cX10_worth 73 = .ok (.getfield 96, 3) := by decide +kernel
theorem dX10_worth_76 : decode cX10_worth 76 = .ok (.aload_n 0, 1) := by decide +kernel
theorem dX10_worth_77 : decode cX10_worth 77 = .ok (.getfield 78, 3) := by decide +kernel
theorem dX10_worth_80 : decode cX10_worth 80 = .ok (.iload 6, 2) := by decide +kernel
theorem dX10_worth_82 : decode cX10_worth 82 = .ok (.iaload, 1) := by decide +kernel
theorem dX10_worth_83 : decode cX10_worth 83 = .ok (.iaload, 1) := by decide +kernel
theorem dX10_worth_84 : decode cX10_worth 84 = .ok (.goto 31, 3) := by decide +kernel
theorem dX10_worth_87 : decode cX10_worth 87 = .ok (.aload_n 0, 1) := by decide +kernel
theorem dX10_worth_88 : decode cX10_worth 88 = .ok (.getfield 78, 3) := by decide +kernel
theorem dX10_worth_91 : decode cX10_worth 91 = .ok (.iload 6, 2) := by decide +kernel
theorem dX10_worth_93 : decode cX10_worth 93 = .ok (.iaload, 1) := by decide +kernel
theorem dX10_worth_94 : decode cX10_worth 94 = .ok (.iload 4, 2) := by decide +kernel
theorem dX10_worth_96 : decode cX10_worth 96 = .ok (.if_icmp .ge 18, 3) := by decide +kernel
theorem dX10_worth_99 : decode cX10_worth 99 = .ok (.aload_n 0, 1) := by decide +kernel
theorem dX10_worth_100 : decode cX10_worth 100 = .ok (.getfield 99, 3) := by decide +kernel
theorem dX10_worth_103 : decode cX10_worth 103 = .ok (.aload_n 0, 1) := by decide +kernel
theorem dX10_worth_104 : decode cX10_worth 104 = .ok (.getfield 78, 3) := by decide +kernel
theorem dX10_worth_107 : decode cX10_worth 107 = .ok (.iload 6, 2) := by decide +kernel
theorem dX10_worth_109 : decode cX10_worth 109 = .ok (.iaload, 1) := by decide +kernel
theorem dX10_worth_110 : decode cX10_worth 110 = .ok (.iaload, 1) := by decide +kernel
theorem dX10_worth_111 : decode cX10_worth 111 = .ok (.goto 4, 3) := by decide +kernel
theorem dX10_worth_114 : decode cX10_worth 114 = .ok (.iconst 0, 1) := by decide +kernel
theorem dX10_worth_115 : decode cX10_worth 115 = .ok (.iastore, 1) := by decide +kernel
theorem dX10_worth_116 : decode cX10_worth 116 = .ok (.iload 5, 2) := by decide +kernel
theorem dX10_worth_118 : decode cX10_worth 118 = .ok (.iconst 1, 1) := by decide +kernel
theorem dX10_worth_119 : decode cX10_worth 119 = .ok (.iadd, 1) := by decide +kernel
theorem dX10_worth_120 : decode cX10_worth 120 = .ok (.istore 5, 2) := by decide +kernel
theorem dX10_worth_122 : decode cX10_worth 122 = .ok (.goto 80, 3) := by decide +kernel
theorem dX10_worth_125 : decode cX10_worth 125 = .ok (.aload_n 0, 1) := by decide +kernel
theorem dX10_worth_126 : decode cX10_worth 126 = .ok (.getfield 75, 3) := by decide +kernel
theorem dX10_worth_129 : decode cX10_worth 129 = .ok (.iload 6, 2) := by decide +kernel
theorem dX10_worth_131 : decode cX10_worth 131 = .ok (.iaload, 1) := by decide +kernel
theorem dX10_worth_132 : decode cX10_worth 132 = .ok (.bipush 10, 2) := by decide +kernel
theorem dX10_worth_134 : decode cX10_worth 134 = .ok (.if_icmp .ne 26, 3) := by decide +kernel
theorem dX10_worth_137 : decode cX10_worth 137 = .ok (.aload_n 0, 1) := by decide +kernel
theorem dX10_worth_138 : decode cX10_worth 138 = .ok (.getfield 102, 3) := by decide +kernel
theorem dX10_worth_141 : decode cX10_worth 141 = .ok (.iload 5, 2) := by decide +kernel
theorem dX10_worth_143 : decode cX10_worth 143 = .ok (.iconst 1, 1) := by decide +kernel
theorem dX10_worth_144 : decode cX10_worth 144 = .ok (.isub, 1) := by decide +kernel
theorem dX10_worth_145 : decode cX10_worth 145 = .ok (.iconst 1, 1) := by decide +kernel
theorem dX10_worth_146 : decode cX10_worth 146 = .ok (.aload_n 0, 1) := by decide +kernel
theorem dX10_worth_147 : decode cX10_worth 147 = .ok (.getfield 102, 3) := by decide +kernel
theorem dX10_worth_150 : decode cX10_worth 150 = .ok (.iload 5, 2) := by decide +kernel
theorem dX10_worth_152 : decode cX10_worth 152 = .ok (.iconst 1, 1) := by decide +kernel
theorem dX10_worth_153 : decode cX10_worth 153 = .ok (.isub, 1) := by decide +kernel
theorem dX10_worth_154 : decode cX10_worth 154 = .ok (.iaload, 1) := by decide +kernel
theorem dX10_worth_155 : decode cX10_worth 155 = .ok (.isub, 1) := by decide +kernel
theorem dX10_worth_156 : decode cX10_worth 156 = .ok (.iastore, 1) := by decide +kernel
theorem dX10_worth_157 : decode cX10_worth 157 = .ok (.goto 45, 3) := by decide +kernel
theorem dX10_worth_160 : decode cX10_worth 160 = .ok (.iload 5, 2) := by decide +kernel
theorem dX10_worth_162 : decode cX10_worth 162 = .ok (.iconst 1, 1) := by decide +kernel
theorem dX10_worth_163 : decode cX10_worth 163 = .ok (.isub, 1) := by decide +kernel
theorem dX10_worth_164 : decode cX10_worth 164 = .ok (.istore 5, 2) := by decide +kernel
theorem dX10_worth_166 : decode cX10_worth 166 = .ok (.aload_n 0, 1) := by decide +kernel
theorem dX10_worth_167 : decode cX10_worth 167 = .ok (.getfield 102, 3) := by decide +kernel
theorem dX10_worth_170 : decode cX10_worth 170 = .ok (.iload 5, 2) := by decide +kernel
theorem dX10_worth_172 : decode cX10_worth 172 = .ok (.iconst 1, 1) := by decide +kernel
theorem dX10_worth_173 : decode cX10_worth 173 = .ok (.isub, 1) := by decide +kernel
theorem dX10_worth_174 : decode cX10_worth 174 = .ok (.aload_n 0, 1) := by decide +kernel
theorem dX10_worth_175 : decode cX10_worth 175 = .ok (.aload_n 0, 1) := by decide +kernel
theorem dX10_worth_176 : decode cX10_worth 176 = .ok (.getfield 75, 3) := by decide +kernel
theorem dX10_worth_179 : decode cX10_worth 179 = .ok (.iload 6, 2) := by decide +kernel
theorem dX10_worth_181 : decode cX10_worth 181 = .ok (.iaload, 1) := by decide +kernel
theorem dX10_worth_182 : decode cX10_worth 182 = .ok (.aload_n 0, 1) := by decide +kernel
theorem dX10_worth_183 : decode cX10_worth 183 = .ok (.getfield 102, 3) := by decide +kernel
theorem dX10_worth_186 : decode cX10_worth 186 = .ok (.iload 5, 2) := by decide +kernel
theorem dX10_worth_188 : decode cX10_worth 188 = .ok (.iconst 1, 1) := by decide +kernel
theorem dX10_worth_189 : decode cX10_worth 189 = .ok (.isub, 1) := by decide +kernel
theorem dX10_worth_190 : decode cX10_worth 190 = .ok (.iaload, 1) := by decide +kernel
theorem dX10_worth_191 : decode cX10_worth 191 = .ok (.aload_n 0, 1) := by decide +kernel
theorem dX10_worth_192 : decode cX10_worth 192 = .ok (.getfield 102, 3) := by decide +kernel
theorem dX10_worth_195 : decode cX10_worth 195 = .ok (.iload 5, 2) := by decide +kernel
theorem dX10_worth_197 : decode cX10_worth 197 = .ok (.iaload, 1) := by decide +kernel
theorem dX10_worth_198 : decode cX10_worth 198 = .ok (.invokevirtual 309, 3) := by decide +kernel
theorem dX10_worth_201 : decode cX10_worth 201 = .ok (.iastore, 1) := by decide +kernel
theorem dX10_worth_202 : decode cX10_worth 202 = .ok (.iinc 6 1, 3) := by decide +kernel
theorem dX10_worth_205 : decode cX10_worth 205 = .ok (.goto (-193), 3) := by decide +kernel
theorem dX10_worth_208 : decode cX10_worth 208 = .ok (.aload_n 0, 1) := by decide +kernel
theorem dX10_worth_209 : decode cX10_worth 209 = .ok (.getfield 102, 3) := by decide +kernel
theorem dX10_worth_212 : decode cX10_worth 212 = .ok (.iconst 0, 1) := by decide +kernel
theorem dX10_worth_213 : decode cX10_worth 213 = .ok (.iaload, 1) := by decide +kernel
theorem dX10_worth_214 : decode cX10_worth 214 = .ok (.ireturn, 1) := by decide +kernel
theorem dX10_owedIn_0 : decode cX10_owedIn 0 = .ok (.iload_n 1, 1) := by decide +kernel
theorem dX10_owedIn_1 : decode cX10_owedIn 1 = .ok (.iconst (-1), 1) := by decide +kernel
theorem dX10_owedIn_2 : decode cX10_owedIn 2 = .ok (.if_icmp .ne 5, 3) := by decide +kernel
theorem dX10_owedIn_5 : decode cX10_owedIn 5 = .ok (.iconst 0, 1) := by decide +kernel
theorem dX10_owedIn_6 : decode cX10_owedIn 6 = .ok (.ireturn, 1) := by decide +kernel
theorem dX10_owedIn_7 : decode cX10_owedIn 7 = .ok (.aload_n 0, 1) := by decide +kernel
theorem dX10_owedIn_8 : decode cX10_owedIn 8 = .ok (.getfield 84, 3) := by decide +kernel
theorem dX10_owedIn_11 : decode cX10_owedIn 11 = .ok (.iload_n 1, 1) := by decide +kernel
theorem dX10_owedIn_12 : decode cX10_owedIn 12 = .ok (.iaload, 1) := by decide +kernel
theorem dX10_owedIn_13 : decode cX10_owedIn 13 = .ok (.aload_n 0, 1) := by decide +kernel
theorem dX10_owedIn_14 : decode cX10_owedIn 14 = .ok (.getfield 81, 3) := by decide +kernel
theorem dX10_owedIn_17 : decode cX10_owedIn 17 = .ok (.iload_n 1, 1) := by decide +kernel
theorem dX10_owedIn_18 : decode cX10_owedIn 18 = .ok (.iaload, 1) := by decide +kernel
theorem dX10_owedIn_19 : decode cX10_owedIn 19 = .ok (.if_icmp .le 26, 3) := by decide +kernel
theorem dX10_owedIn_22 : decode cX10_owedIn 22 = .ok (.aload_n 0, 1) := by decide +kernel
theorem dX10_owedIn_23 : decode cX10_owedIn 23 = .ok (.iload_n 1, 1) := by decide +kernel
theorem dX10_owedIn_24 : decode cX10_owedIn 24 = .ok (.aload_n 0, 1) := by decide +kernel
theorem dX10_owedIn_25 : decode cX10_owedIn 25 = .ok (.getfield 81, 3) := by decide +kernel
theorem dX10_owedIn_28 : decode cX10_owedIn 28 = .ok (.iload_n 1, 1) := by decide +kernel
theorem dX10_owedIn_29 : decode cX10_owedIn 29 = .ok (.iaload, 1) := by decide +kernel
theorem dX10_owedIn_30 : decode cX10_owedIn 30 = .ok (.aload_n 0, 1) := by decide +kernel
theorem dX10_owedIn_31 : decode cX10_owedIn 31 = .ok (.getfield 84, 3) := by decide +kernel
theorem dX10_owedIn_34 : decode cX10_owedIn 34 = .ok (.iload_n 1, 1) := by decide +kernel
theorem dX10_owedIn_35 : decode cX10_owedIn 35 = .ok (.iaload, 1) := by decide +kernel
theorem dX10_owedIn_36 : decode cX10_owedIn 36 = .ok (.iload_n 2, 1) := by decide +kernel
theorem dX10_owedIn_37 : decode cX10_owedIn 37 = .ok (.invokevirtual 313, 3) := by decide +kernel
theorem dX10_owedIn_40 : decode cX10_owedIn 40 = .ok (.ifCond .ne 5, 3) := by decide +kernel
theorem dX10_owedIn_43 : decode cX10_owedIn 43 = .ok (.iconst 0, 1) := by decide +kernel
theorem dX10_owedIn_44 : decode cX10_owedIn 44 = .ok (.ireturn, 1) := by decide +kernel
theorem dX10_owedIn_45 : decode cX10_owedIn 45 = .ok (.aload_n 0, 1) := by decide +kernel
theorem dX10_owedIn_46 : decode cX10_owedIn 46 = .ok (.getfield 87, 3) := by decide +kernel
theorem dX10_owedIn_49 : decode cX10_owedIn 49 = .ok (.iload_n 1, 1) := by decide +kernel
theorem dX10_owedIn_50 : decode cX10_owedIn 50 = .ok (.iaload, 1) := by decide +kernel
theorem dX10_owedIn_51 : decode cX10_owedIn 51 = .ok (.aload_n 0, 1) := by decide +kernel
theorem dX10_owedIn_52 : decode cX10_owedIn 52 = .ok (.getfield 84, 3) := by decide +kernel
theorem dX10_owedIn_55 : decode cX10_owedIn 55 = .ok (.iload_n 1, 1) := by decide +kernel
theorem dX10_owedIn_56 : decode cX10_owedIn 56 = .ok (.iaload, 1) := by decide +kernel
theorem dX10_owedIn_57 : decode cX10_owedIn 57 = .ok (.if_icmp .le 26, 3) := by decide +kernel
theorem dX10_owedIn_60 : decode cX10_owedIn 60 = .ok (.aload_n 0, 1) := by decide +kernel
theorem dX10_owedIn_61 : decode cX10_owedIn 61 = .ok (.iload_n 1, 1) := by decide +kernel
theorem dX10_owedIn_62 : decode cX10_owedIn 62 = .ok (.aload_n 0, 1) := by decide +kernel
theorem dX10_owedIn_63 : decode cX10_owedIn 63 = .ok (.getfield 84, 3) := by decide +kernel
theorem dX10_owedIn_66 : decode cX10_owedIn 66 = .ok (.iload_n 1, 1) := by decide +kernel
theorem dX10_owedIn_67 : decode cX10_owedIn 67 = .ok (.iaload, 1) := by decide +kernel
theorem dX10_owedIn_68 : decode cX10_owedIn 68 = .ok (.aload_n 0, 1) := by decide +kernel
theorem dX10_owedIn_69 : decode cX10_owedIn 69 = .ok (.getfield 87, 3) := by decide +kernel
theorem dX10_owedIn_72 : decode cX10_owedIn 72 = .ok (.iload_n 1, 1) := by decide +kernel
theorem dX10_owedIn_73 : decode cX10_owedIn 73 = .ok (.iaload, 1) := by decide +kernel
theorem dX10_owedIn_74 : decode cX10_owedIn 74 = .ok (.iload_n 2, 1) := by decide +kernel
theorem dX10_owedIn_75 : decode cX10_owedIn 75 = .ok (.invokevirtual 313, 3) := by decide +kernel
theorem dX10_owedIn_78 : decode cX10_owedIn 78 = .ok (.ifCond .eq 5, 3) := by decide +kernel
theorem dX10_owedIn_81 : decode cX10_owedIn 81 = .ok (.iconst 0, 1) := by decide +kernel
theorem dX10_owedIn_82 : decode cX10_owedIn 82 = .ok (.ireturn, 1) := by decide +kernel
theorem dX10_owedIn_83 : decode cX10_owedIn 83 = .ok (.aload_n 0, 1) := by decide +kernel
theorem dX10_owedIn_84 : decode cX10_owedIn 84 = .ok (.iload_n 1, 1) := by decide +kernel
theorem dX10_owedIn_85 : decode cX10_owedIn 85 = .ok (.iconst 0, 1) := by decide +kernel
theorem dX10_owedIn_86 : decode cX10_owedIn 86 = .ok (.aload_n 0, 1) := by decide +kernel
theorem dX10_owedIn_87 : decode cX10_owedIn 87 = .ok (.getfield 81, 3) := by decide +kernel
theorem dX10_owedIn_90 : decode cX10_owedIn 90 = .ok (.iload_n 1, 1) := by decide +kernel
theorem dX10_owedIn_91 : decode cX10_owedIn 91 = .ok (.iaload, 1) := by decide +kernel
theorem dX10_owedIn_92 : decode cX10_owedIn 92 = .ok (.iload_n 2, 1) := by decide +kernel
theorem dX10_owedIn_93 : decode cX10_owedIn 93 = .ok (.invokevirtual 313, 3) := by decide +kernel
theorem dX10_owedIn_96 : decode cX10_owedIn 96 = .ok (.istore_n 3, 1) := by decide +kernel
theorem dX10_owedIn_97 : decode cX10_owedIn 97 = .ok (.iload_n 3, 1) := by decide +kernel
theorem dX10_owedIn_98 : decode cX10_owedIn 98 = .ok (.ifCond .ge 7, 3) := by decide +kernel
theorem dX10_owedIn_101 : decode cX10_owedIn 101 = .ok (.iconst 0, 1) := by decide +kernel
theorem dX10_owedIn_102 : decode cX10_owedIn 102 = .ok (.goto 17, 3) := by decide +kernel
theorem dX10_owedIn_105 : decode cX10_owedIn 105 = .ok (.iload_n 3, 1) := by decide +kernel
theorem dX10_owedIn_106 : decode cX10_owedIn 106 = .ok (.sipush 9999, 3) := by decide +kernel
theorem dX10_owedIn_109 : decode cX10_owedIn 109 = .ok (.if_icmp .le 9, 3) := by decide +kernel
theorem dX10_owedIn_112 : decode cX10_owedIn 112 = .ok (.sipush 9999, 3) := by decide +kernel
theorem dX10_owedIn_115 : decode cX10_owedIn 115 = .ok (.goto 4, 3) := by decide +kernel
theorem dX10_owedIn_118 : decode cX10_owedIn 118 = .ok (.iload_n 3, 1) := by decide +kernel
theorem dX10_owedIn_119 : decode cX10_owedIn 119 = .ok (.ireturn, 1) := by decide +kernel
theorem dX10_owedBy_0 : decode cX10_owedBy 0 = .ok (.iconst 0, 1) := by decide +kernel
theorem dX10_owedBy_1 : decode cX10_owedBy 1 = .ok (.istore 4, 2) := by decide +kernel
theorem dX10_owedBy_3 : decode cX10_owedBy 3 = .ok (.iload 4, 2) := by decide +kernel
theorem dX10_owedBy_5 : decode cX10_owedBy 5 = .ok (.iload_n 1, 1) := by decide +kernel
theorem dX10_owedBy_6 : decode cX10_owedBy 6 = .ok (.if_icmp .gt 43, 3) := by decide +kernel
theorem dX10_owedBy_9 : decode cX10_owedBy 9 = .ok (.aload_n 0, 1) := by decide +kernel
theorem dX10_owedBy_10 : decode cX10_owedBy 10 = .ok (.getfield 99, 3) := by decide +kernel
theorem dX10_owedBy_13 : decode cX10_owedBy 13 = .ok (.iload 4, 2) := by decide +kernel
theorem dX10_owedBy_15 : decode cX10_owedBy 15 = .ok (.aload_n 0, 1) := by decide +kernel
theorem dX10_owedBy_16 : decode cX10_owedBy 16 = .ok (.iload_n 3, 1) := by decide +kernel
theorem dX10_owedBy_17 : decode cX10_owedBy 17 = .ok (.ifCond .eq 13, 3) := by decide +kernel
theorem dX10_owedBy_20 : decode cX10_owedBy 20 = .ok (.aload_n 0, 1) := by decide +kernel
theorem dX10_owedBy_21 : decode cX10_owedBy 21 = .ok (.getfield 156, 3) := by decide +kernel
theorem dX10_owedBy_24 : decode cX10_owedBy 24 = .ok (.iload 4, 2) := by decide +kernel
theorem dX10_owedBy_26 : decode cX10_owedBy 26 = .ok (.iaload, 1) := by decide +kernel
theorem dX10_owedBy_27 : decode cX10_owedBy 27 = .ok (.goto 10, 3) := by decide +kernel
theorem dX10_owedBy_30 : decode cX10_owedBy 30 = .ok (.aload_n 0, 1) := by decide +kernel
theorem dX10_owedBy_31 : decode cX10_owedBy 31 = .ok (.iload 4, 2) := by decide +kernel
theorem dX10_owedBy_33 : decode cX10_owedBy 33 = .ok (.iload_n 2, 1) := by decide +kernel
theorem dX10_owedBy_34 : decode cX10_owedBy 34 = .ok (.invokevirtual 209, 3) := by decide +kernel
theorem dX10_owedBy_37 : decode cX10_owedBy 37 = .ok (.iload 4, 2) := by decide +kernel
theorem dX10_owedBy_39 : decode cX10_owedBy 39 = .ok (.invokevirtual 317, 3) := by decide +kernel
theorem dX10_owedBy_42 : decode cX10_owedBy 42 = .ok (.iastore, 1) := by decide +kernel
theorem dX10_owedBy_43 : decode cX10_owedBy 43 = .ok (.iinc 4 1, 3) := by decide +kernel
theorem dX10_owedBy_46 : decode cX10_owedBy 46 = .ok (.goto (-43), 3) := by decide +kernel
theorem dX10_owedBy_49 : decode cX10_owedBy 49 = .ok (.aload_n 0, 1) := by decide +kernel
theorem dX10_owedBy_50 : decode cX10_owedBy 50 = .ok (.getfield 99, 3) := by decide +kernel
theorem dX10_owedBy_53 : decode cX10_owedBy 53 = .ok (.iload_n 1, 1) := by decide +kernel
theorem dX10_owedBy_54 : decode cX10_owedBy 54 = .ok (.iaload, 1) := by decide +kernel
theorem dX10_owedBy_55 : decode cX10_owedBy 55 = .ok (.ireturn, 1) := by decide +kernel
theorem dX10_takesFacts_0 : decode cX10_takesFacts 0 = .ok (.aload_n 0, 1) := by decide +kernel
theorem dX10_takesFacts_1 : decode cX10_takesFacts 1 = .ok (.iload_n 1, 1) := by decide +kernel
theorem dX10_takesFacts_2 : decode cX10_takesFacts 2 = .ok (.bipush 99, 2) := by decide +kernel
theorem dX10_takesFacts_4 : decode cX10_takesFacts 4 = .ok (.invokevirtual 320, 3) := by decide +kernel
theorem dX10_takesFacts_7 : decode cX10_takesFacts 7 = .ok (.ifCond .eq 48, 3) := by decide +kernel
theorem dX10_takesFacts_10 : decode cX10_takesFacts 10 = .ok (.aload_n 0, 1) := by decide +kernel
theorem dX10_takesFacts_11 : decode cX10_takesFacts 11 = .ok (.iload_n 2, 1) := by decide +kernel
theorem dX10_takesFacts_12 : decode cX10_takesFacts 12 = .ok (.bipush 9, 2) := by decide +kernel
theorem dX10_takesFacts_14 : decode cX10_takesFacts 14 = .ok (.invokevirtual 320, 3) := by decide +kernel
theorem dX10_takesFacts_17 : decode cX10_takesFacts 17 = .ok (.ifCond .eq 38, 3) := by decide +kernel
theorem dX10_takesFacts_20 : decode cX10_takesFacts 20 = .ok (.aload_n 0, 1) := by decide +kernel
theorem dX10_takesFacts_21 : decode cX10_takesFacts 21 = .ok (.iload_n 3, 1) := by decide +kernel
theorem dX10_takesFacts_22 : decode cX10_takesFacts 22 = .ok (.sipush 299, 3) := by decide +kernel
theorem dX10_takesFacts_25 : decode cX10_takesFacts 25 = .ok (.invokevirtual 320, 3) := by decide +kernel
theorem dX10_takesFacts_28 : decode cX10_takesFacts 28 = .ok (.ifCond .eq 27, 3) := by decide +kernel
theorem dX10_takesFacts_31 : decode cX10_takesFacts 31 = .ok (.aload_n 0, 1) := by decide +kernel
theorem dX10_takesFacts_32 : decode cX10_takesFacts 32 = .ok (.iload 4, 2) := by decide +kernel
theorem dX10_takesFacts_34 : decode cX10_takesFacts 34 = .ok (.iconst 1, 1) := by decide +kernel
theorem dX10_takesFacts_35 : decode cX10_takesFacts 35 = .ok (.invokevirtual 320, 3) := by decide +kernel
theorem dX10_takesFacts_38 : decode cX10_takesFacts 38 = .ok (.ifCond .eq 17, 3) := by decide +kernel
theorem dX10_takesFacts_41 : decode cX10_takesFacts 41 = .ok (.aload_n 0, 1) := by decide +kernel
theorem dX10_takesFacts_42 : decode cX10_takesFacts 42 = .ok (.iload 5, 2) := by decide +kernel
theorem dX10_takesFacts_44 : decode cX10_takesFacts 44 = .ok (.bipush (-99), 2) := by decide +kernel
theorem dX10_takesFacts_46 : decode cX10_takesFacts 46 = .ok (.sipush 299, 3) := by decide +kernel
theorem dX10_takesFacts_49 : decode cX10_takesFacts 49 = .ok (.invokevirtual 169, 3) := by decide +kernel
theorem dX10_takesFacts_52 : decode cX10_takesFacts 52 = .ok (.ifCond .ne 5, 3) := by decide +kernel
theorem dX10_takesFacts_55 : decode cX10_takesFacts 55 = .ok (.iconst 0, 1) := by decide +kernel
theorem dX10_takesFacts_56 : decode cX10_takesFacts 56 = .ok (.ireturn, 1) := by decide +kernel
theorem dX10_takesFacts_57 : decode cX10_takesFacts 57 = .ok (.aload_n 0, 1) := by decide +kernel
theorem dX10_takesFacts_58 : decode cX10_takesFacts 58 = .ok (.getfield 96, 3) := by decide +kernel
theorem dX10_takesFacts_61 : decode cX10_takesFacts 61 = .ok (.iconst 0, 1) := by decide +kernel
theorem dX10_takesFacts_62 : decode cX10_takesFacts 62 = .ok (.iload_n 1, 1) := by decide +kernel
theorem dX10_takesFacts_63 : decode cX10_takesFacts 63 = .ok (.iastore, 1) := by decide +kernel
theorem dX10_takesFacts_64 : decode cX10_takesFacts 64 = .ok (.aload_n 0, 1) := by decide +kernel
theorem dX10_takesFacts_65 : decode cX10_takesFacts 65 = .ok (.getfield 96, 3) := by decide +kernel
theorem dX10_takesFacts_68 : decode cX10_takesFacts 68 = .ok (.iconst 1, 1) := by decide +kernel
theorem dX10_takesFacts_69 : decode cX10_takesFacts 69 = .ok (.iload_n 2, 1) := by decide +kernel
theorem dX10_takesFacts_70 : decode cX10_takesFacts 70 = .ok (.iastore, 1) := by decide +kernel
theorem dX10_takesFacts_71 : decode cX10_takesFacts 71 = .ok (.aload_n 0, 1) := by decide +kernel
theorem dX10_takesFacts_72 : decode cX10_takesFacts 72 = .ok (.getfield 96, 3) := by decide +kernel
theorem dX10_takesFacts_75 : decode cX10_takesFacts 75 = .ok (.iconst 2, 1) := by decide +kernel
theorem dX10_takesFacts_76 : decode cX10_takesFacts 76 = .ok (.iload_n 3, 1) := by decide +kernel
theorem dX10_takesFacts_77 : decode cX10_takesFacts 77 = .ok (.iastore, 1) := by decide +kernel
theorem dX10_takesFacts_78 : decode cX10_takesFacts 78 = .ok (.aload_n 0, 1) := by decide +kernel
theorem dX10_takesFacts_79 : decode cX10_takesFacts 79 = .ok (.getfield 96, 3) := by decide +kernel
theorem dX10_takesFacts_82 : decode cX10_takesFacts 82 = .ok (.iconst 3, 1) := by decide +kernel
theorem dX10_takesFacts_83 : decode cX10_takesFacts 83 = .ok (.iload 4, 2) := by decide +kernel
theorem dX10_takesFacts_85 : decode cX10_takesFacts 85 = .ok (.iastore, 1) := by decide +kernel
theorem dX10_takesFacts_86 : decode cX10_takesFacts 86 = .ok (.aload_n 0, 1) := by decide +kernel
theorem dX10_takesFacts_87 : decode cX10_takesFacts 87 = .ok (.getfield 96, 3) := by decide +kernel
theorem dX10_takesFacts_90 : decode cX10_takesFacts 90 = .ok (.iconst 4, 1) := by decide +kernel
theorem dX10_takesFacts_91 : decode cX10_takesFacts 91 = .ok (.iload 5, 2) := by decide +kernel
theorem dX10_takesFacts_93 : decode cX10_takesFacts 93 = .ok (.iastore, 1) := by decide +kernel
theorem dX10_takesFacts_94 : decode cX10_takesFacts 94 = .ok (.iconst 1, 1) := by decide +kernel
theorem dX10_takesFacts_95 : decode cX10_takesFacts 95 = .ok (.ireturn, 1) := by decide +kernel
theorem dX10_owed_0 : decode cX10_owed 0 = .ok (.aload_n 0, 1) := by decide +kernel
theorem dX10_owed_1 : decode cX10_owed 1 = .ok (.iconst 0, 1) := by decide +kernel
theorem dX10_owed_2 : decode cX10_owed 2 = .ok (.putfield 159, 3) := by decide +kernel
theorem dX10_owed_5 : decode cX10_owed 5 = .ok (.aload_n 0, 1) := by decide +kernel
theorem dX10_owed_6 : decode cX10_owed 6 = .ok (.iload_n 1, 1) := by decide +kernel
theorem dX10_owed_7 : decode cX10_owed 7 = .ok (.invokevirtual 188, 3) := by decide +kernel
theorem dX10_owed_10 : decode cX10_owed 10 = .ok (.ifCond .eq 34, 3) := by decide +kernel
theorem dX10_owed_13 : decode cX10_owed 13 = .ok (.aload_n 0, 1) := by decide +kernel
theorem dX10_owed_14 : decode cX10_owed 14 = .ok (.iload_n 2, 1) := by decide +kernel
theorem dX10_owed_15 : decode cX10_owed 15 = .ok (.iconst 0, 1) := by decide +kernel
theorem dX10_owed_16 : decode cX10_owed 16 = .ok (.aload_n 0, 1) := by decide +kernel
theorem dX10_owed_17 : decode cX10_owed 17 = .ok (.getfield 173, 3) := by decide +kernel
theorem dX10_owed_20 : decode cX10_owed 20 = .ok (.iconst 1, 1) := by decide +kernel
theorem dX10_owed_21 : decode cX10_owed 21 = .ok (.isub, 1) := by decide +kernel
theorem dX10_owed_22 : decode cX10_owed 22 = .ok (.invokevirtual 169, 3) := by decide +kernel
theorem dX10_owed_25 : decode cX10_owed 25 = .ok (.ifCond .eq 19, 3) := by decide +kernel
theorem dX10_owed_28 : decode cX10_owed 28 = .ok (.aload_n 0, 1) := by decide +kernel
theorem dX10_owed_29 : decode cX10_owed 29 = .ok (.iload_n 3, 1) := by decide +kernel
theorem dX10_owed_30 : decode cX10_owed 30 = .ok (.iload 4, 2) := by decide +kernel
theorem dX10_owed_32 : decode cX10_owed 32 = .ok (.iload 5, 2) := by decide +kernel
theorem dX10_owed_34 : decode cX10_owed 34 = .ok (.iload 6, 2) := by decide +kernel
theorem dX10_owed_36 : decode cX10_owed 36 = .ok (.iload 7, 2) := by decide +kernel
theorem dX10_owed_38 : decode cX10_owed 38 = .ok (.invokevirtual 323, 3) := by decide +kernel
theorem dX10_owed_41 : decode cX10_owed 41 = .ok (.ifCond .ne 5, 3) := by decide +kernel
theorem dX10_owed_44 : decode cX10_owed 44 = .ok (.iconst (-1), 1) := by decide +kernel
theorem dX10_owed_45 : decode cX10_owed 45 = .ok (.ireturn, 1) := by decide +kernel
theorem dX10_owed_46 : decode cX10_owed 46 = .ok (.aload_n 0, 1) := by decide +kernel
theorem dX10_owed_47 : decode cX10_owed 47 = .ok (.iload_n 1, 1) := by decide +kernel
theorem dX10_owed_48 : decode cX10_owed 48 = .ok (.iload_n 2, 1) := by decide +kernel
theorem dX10_owed_49 : decode cX10_owed 49 = .ok (.iconst 0, 1) := by decide +kernel
theorem dX10_owed_50 : decode cX10_owed 50 = .ok (.invokevirtual 327, 3) := by decide +kernel
theorem dX10_owed_53 : decode cX10_owed 53 = .ok (.ireturn, 1) := by decide +kernel
theorem dX10_byBook_0 : decode cX10_byBook 0 = .ok (.aload_n 0, 1) := by decide +kernel
theorem dX10_byBook_1 : decode cX10_byBook 1 = .ok (.iconst 0, 1) := by decide +kernel
theorem dX10_byBook_2 : decode cX10_byBook 2 = .ok (.putfield 159, 3) := by decide +kernel
theorem dX10_byBook_5 : decode cX10_byBook 5 = .ok (.aload_n 0, 1) := by decide +kernel
theorem dX10_byBook_6 : decode cX10_byBook 6 = .ok (.iload_n 1, 1) := by decide +kernel
theorem dX10_byBook_7 : decode cX10_byBook 7 = .ok (.invokevirtual 188, 3) := by decide +kernel
theorem dX10_byBook_10 : decode cX10_byBook 10 = .ok (.ifCond .eq 18, 3) := by decide +kernel
theorem dX10_byBook_13 : decode cX10_byBook 13 = .ok (.aload_n 0, 1) := by decide +kernel
theorem dX10_byBook_14 : decode cX10_byBook 14 = .ok (.iload_n 2, 1) := by decide +kernel
theorem dX10_byBook_15 : decode cX10_byBook 15 = .ok (.iload_n 3, 1) := by decide +kernel
theorem dX10_byBook_16 : decode cX10_byBook 16 = .ok (.iload 4, 2) := by decide +kernel
theorem dX10_byBook_18 : decode cX10_byBook 18 = .ok (.iload 5, 2) := by decide +kernel
theorem dX10_byBook_20 : decode cX10_byBook 20 = .ok (.iload 6, 2) := by decide +kernel
theorem dX10_byBook_22 : decode cX10_byBook 22 = .ok (.invokevirtual 323, 3) := by decide +kernel
theorem dX10_byBook_25 : decode cX10_byBook 25 = .ok (.ifCond .ne 5, 3) := by decide +kernel
theorem dX10_byBook_28 : decode cX10_byBook 28 = .ok (.iconst (-1), 1) := by decide +kernel
theorem dX10_byBook_29 : decode cX10_byBook 29 = .ok (.ireturn, 1) := by decide +kernel
theorem dX10_byBook_30 : decode cX10_byBook 30 = .ok (.aload_n 0, 1) := by decide +kernel
theorem dX10_byBook_31 : decode cX10_byBook 31 = .ok (.iload_n 1, 1) := by decide +kernel
theorem dX10_byBook_32 : decode cX10_byBook 32 = .ok (.iconst 0, 1) := by decide +kernel
theorem dX10_byBook_33 : decode cX10_byBook 33 = .ok (.iconst 1, 1) := by decide +kernel
theorem dX10_byBook_34 : decode cX10_byBook 34 = .ok (.invokevirtual 327, 3) := by decide +kernel
theorem dX10_byBook_37 : decode cX10_byBook 37 = .ok (.ireturn, 1) := by decide +kernel
theorem dX10_isOutlaw_0 : decode cX10_isOutlaw 0 = .ok (.aload_n 0, 1) := by decide +kernel
theorem dX10_isOutlaw_1 : decode cX10_isOutlaw 1 = .ok (.iload_n 1, 1) := by decide +kernel
theorem dX10_isOutlaw_2 : decode cX10_isOutlaw 2 = .ok (.invokevirtual 176, 3) := by decide +kernel
theorem dX10_isOutlaw_5 : decode cX10_isOutlaw 5 = .ok (.ifCond .ne 5, 3) := by decide +kernel
theorem dX10_isOutlaw_8 : decode cX10_isOutlaw 8 = .ok (.iconst 0, 1) := by decide +kernel
theorem dX10_isOutlaw_9 : decode cX10_isOutlaw 9 = .ok (.ireturn, 1) := by decide +kernel
theorem dX10_isOutlaw_10 : decode cX10_isOutlaw 10 = .ok (.iconst 0, 1) := by decide +kernel
theorem dX10_isOutlaw_11 : decode cX10_isOutlaw 11 = .ok (.istore_n 2, 1) := by decide +kernel
theorem dX10_isOutlaw_12 : decode cX10_isOutlaw 12 = .ok (.iload_n 2, 1) := by decide +kernel
theorem dX10_isOutlaw_13 : decode cX10_isOutlaw 13 = .ok (.aload_n 0, 1) := by decide +kernel
theorem dX10_isOutlaw_14 : decode cX10_isOutlaw 14 = .ok (.getfield 331, 3) := by decide +kernel
theorem dX10_isOutlaw_17 : decode cX10_isOutlaw 17 = .ok (.if_icmp .ge 54, 3) := by decide +kernel
theorem dX10_isOutlaw_20 : decode cX10_isOutlaw 20 = .ok (.aload_n 0, 1) := by decide +kernel
theorem dX10_isOutlaw_21 : decode cX10_isOutlaw 21 = .ok (.getfield 108, 3) := by decide +kernel
theorem dX10_isOutlaw_24 : decode cX10_isOutlaw 24 = .ok (.iload_n 2, 1) := by decide +kernel
theorem dX10_isOutlaw_25 : decode cX10_isOutlaw 25 = .ok (.iaload, 1) := by decide +kernel
theorem dX10_isOutlaw_26 : decode cX10_isOutlaw 26 = .ok (.iload_n 1, 1) := by decide +kernel
theorem dX10_isOutlaw_27 : decode cX10_isOutlaw 27 = .ok (.if_icmp .ne 38, 3) := by decide +kernel
theorem dX10_isOutlaw_30 : decode cX10_isOutlaw 30 = .ok (.aload_n 0, 1) := by decide +kernel
theorem dX10_isOutlaw_31 : decode cX10_isOutlaw 31 = .ok (.getfield 114, 3) := by decide +kernel
theorem dX10_isOutlaw_34 : decode cX10_isOutlaw 34 = .ok (.iload_n 2, 1) := by decide +kernel
theorem dX10_isOutlaw_35 : decode cX10_isOutlaw 35 = .ok (.iaload, 1) := by decide +kernel
theorem dX10_isOutlaw_36 : decode cX10_isOutlaw 36 = .ok (.ifCond .le 29, 3) := by decide +kernel
theorem dX10_isOutlaw_39 : decode cX10_isOutlaw 39 = .ok (.aload_n 0, 1) := by decide +kernel
theorem dX10_isOutlaw_40 : decode cX10_isOutlaw 40 = .ok (.getfield 120, 3) := by decide +kernel
theorem dX10_isOutlaw_43 : decode cX10_isOutlaw 43 = .ok (.iload_n 2, 1) := by decide +kernel
theorem dX10_isOutlaw_44 : decode cX10_isOutlaw 44 = .ok (.baload, 1) := by decide +kernel
theorem dX10_isOutlaw_45 : decode cX10_isOutlaw 45 = .ok (.ifCond .ne 20, 3) := by decide +kernel
theorem dX10_isOutlaw_48 : decode cX10_isOutlaw 48 = .ok (.aload_n 0, 1) := by decide +kernel
theorem dX10_isOutlaw_49 : decode cX10_isOutlaw 49 = .ok (.getfield 173, 3) := by decide +kernel
theorem dX10_isOutlaw_52 : decode cX10_isOutlaw 52 = .ok (.aload_n 0, 1) := by decide +kernel
theorem dX10_isOutlaw_53 : decode cX10_isOutlaw 53 = .ok (.getfield 117, 3) := by decide +kernel
theorem dX10_isOutlaw_56 : decode cX10_isOutlaw 56 = .ok (.iload_n 2, 1) := by decide +kernel
theorem dX10_isOutlaw_57 : decode cX10_isOutlaw 57 = .ok (.iaload, 1) := by decide +kernel
theorem dX10_isOutlaw_58 : decode cX10_isOutlaw 58 = .ok (.isub, 1) := by decide +kernel
theorem dX10_isOutlaw_59 : decode cX10_isOutlaw 59 = .ok (.iconst 2, 1) := by decide +kernel
theorem dX10_isOutlaw_60 : decode cX10_isOutlaw 60 = .ok (.if_icmp .lt 5, 3) := by decide +kernel
theorem dX10_isOutlaw_63 : decode cX10_isOutlaw 63 = .ok (.iconst 1, 1) := by decide +kernel
theorem dX10_isOutlaw_64 : decode cX10_isOutlaw 64 = .ok (.ireturn, 1) := by decide +kernel
theorem dX10_isOutlaw_65 : decode cX10_isOutlaw 65 = .ok (.iinc 2 1, 3) := by decide +kernel
theorem dX10_isOutlaw_68 : decode cX10_isOutlaw 68 = .ok (.goto (-56), 3) := by decide +kernel
theorem dX10_isOutlaw_71 : decode cX10_isOutlaw 71 = .ok (.iconst 0, 1) := by decide +kernel
theorem dX10_isOutlaw_72 : decode cX10_isOutlaw 72 = .ok (.ireturn, 1) := by decide +kernel
theorem dX10_isKin_0 : decode cX10_isKin 0 = .ok (.aload_n 0, 1) := by decide +kernel
theorem dX10_isKin_1 : decode cX10_isKin 1 = .ok (.getfield 13, 3) := by decide +kernel
theorem dX10_isKin_4 : decode cX10_isKin 4 = .ok (.iload_n 1, 1) := by decide +kernel
theorem dX10_isKin_5 : decode cX10_isKin 5 = .ok (.iaload, 1) := by decide +kernel
theorem dX10_isKin_6 : decode cX10_isKin 6 = .ok (.aload_n 0, 1) := by decide +kernel
theorem dX10_isKin_7 : decode cX10_isKin 7 = .ok (.getfield 13, 3) := by decide +kernel
theorem dX10_isKin_10 : decode cX10_isKin 10 = .ok (.iload_n 2, 1) := by decide +kernel
theorem dX10_isKin_11 : decode cX10_isKin 11 = .ok (.iaload, 1) := by decide +kernel
theorem dX10_isKin_12 : decode cX10_isKin 12 = .ok (.if_icmp .ne 7, 3) := by decide +kernel
theorem dX10_isKin_15 : decode cX10_isKin 15 = .ok (.iconst 1, 1) := by decide +kernel
theorem dX10_isKin_16 : decode cX10_isKin 16 = .ok (.goto 4, 3) := by decide +kernel
theorem dX10_isKin_19 : decode cX10_isKin 19 = .ok (.iconst 0, 1) := by decide +kernel
theorem dX10_isKin_20 : decode cX10_isKin 20 = .ok (.ireturn, 1) := by decide +kernel
theorem dX10_suit_0 : decode cX10_suit 0 = .ok (.aload_n 0, 1) := by decide +kernel
theorem dX10_suit_1 : decode cX10_suit 1 = .ok (.iconst 0, 1) := by decide +kernel
theorem dX10_suit_2 : decode cX10_suit 2 = .ok (.putfield 159, 3) := by decide +kernel
theorem dX10_suit_5 : decode cX10_suit 5 = .ok (.aload_n 0, 1) := by decide +kernel
theorem dX10_suit_6 : decode cX10_suit 6 = .ok (.iload_n 1, 1) := by decide +kernel
theorem dX10_suit_7 : decode cX10_suit 7 = .ok (.invokevirtual 176, 3) := by decide +kernel
theorem dX10_suit_10 : decode cX10_suit 10 = .ok (.ifCond .eq 69, 3) := by decide +kernel
theorem dX10_suit_13 : decode cX10_suit 13 = .ok (.aload_n 0, 1) := by decide +kernel
theorem dX10_suit_14 : decode cX10_suit 14 = .ok (.iload_n 2, 1) := by decide +kernel
theorem dX10_suit_15 : decode cX10_suit 15 = .ok (.invokevirtual 176, 3) := by decide +kernel
theorem dX10_suit_18 : decode cX10_suit 18 = .ok (.ifCond .eq 61, 3) := by decide +kernel
theorem dX10_suit_21 : decode cX10_suit 21 = .ok (.iload_n 1, 1) := by decide +kernel
theorem dX10_suit_22 : decode cX10_suit 22 = .ok (.iload_n 2, 1) := by decide +kernel
theorem dX10_suit_23 : decode cX10_suit 23 = .ok (.if_icmp .eq 56, 3) := by decide +kernel
theorem dX10_suit_26 : decode cX10_suit 26 = .ok (.aload_n 0, 1) := by decide +kernel
theorem dX10_suit_27 : decode cX10_suit 27 = .ok (.iload_n 3, 1) := by decide +kernel
theorem dX10_suit_28 : decode cX10_suit 28 = .ok (.invokevirtual 188, 3) := by decide +kernel
theorem dX10_suit_31 : decode cX10_suit 31 = .ok (.ifCond .eq 48, 3) := by decide +kernel
theorem dX10_suit_34 : decode cX10_suit 34 = .ok (.aload_n 0, 1) := by decide +kernel
theorem dX10_suit_35 : decode cX10_suit 35 = .ok (.iload 6, 2) := by decide +kernel
theorem dX10_suit_37 : decode cX10_suit 37 = .ok (.iconst 0, 1) := by decide +kernel
theorem dX10_suit_38 : decode cX10_suit 38 = .ok (.aload_n 0, 1) := by decide +kernel
theorem dX10_suit_39 : decode cX10_suit 39 = .ok (.getfield 173, 3) := by decide +kernel
theorem dX10_suit_42 : decode cX10_suit 42 = .ok (.invokevirtual 169, 3) := by decide +kernel
theorem dX10_suit_45 : decode cX10_suit 45 = .ok (.ifCond .eq 34, 3) := by decide +kernel
theorem dX10_suit_48 : decode cX10_suit 48 = .ok (.aload_n 0, 1) := by decide +kernel
theorem dX10_suit_49 : decode cX10_suit 49 = .ok (.getfield 16, 3) := by decide +kernel
theorem dX10_suit_52 : decode cX10_suit 52 = .ok (.iload_n 1, 1) := by decide +kernel
theorem dX10_suit_53 : decode cX10_suit 53 = .ok (.iaload, 1) := by decide +kernel
theorem dX10_suit_54 : decode cX10_suit 54 = .ok (.iload 6, 2) := by decide +kernel
theorem dX10_suit_56 : decode cX10_suit 56 = .ok (.if_icmp .gt 23, 3) := by decide +kernel
theorem dX10_suit_59 : decode cX10_suit 59 = .ok (.aload_n 0, 1) := by decide +kernel
theorem dX10_suit_60 : decode cX10_suit 60 = .ok (.getfield 16, 3) := by decide +kernel
theorem dX10_suit_63 : decode cX10_suit 63 = .ok (.iload_n 2, 1) := by decide +kernel
theorem dX10_suit_64 : decode cX10_suit 64 = .ok (.iaload, 1) := by decide +kernel
theorem dX10_suit_65 : decode cX10_suit 65 = .ok (.iload 6, 2) := by decide +kernel
theorem dX10_suit_67 : decode cX10_suit 67 = .ok (.if_icmp .gt 12, 3) := by decide +kernel
theorem dX10_suit_70 : decode cX10_suit 70 = .ok (.aload_n 0, 1) := by decide +kernel
theorem dX10_suit_71 : decode cX10_suit 71 = .ok (.getfield 331, 3) := by decide +kernel
theorem dX10_suit_74 : decode cX10_suit 74 = .ok (.bipush 100, 2) := by decide +kernel
theorem dX10_suit_76 : decode cX10_suit 76 = .ok (.if_icmp .ne 5, 3) := by decide +kernel
theorem dX10_suit_79 : decode cX10_suit 79 = .ok (.iconst (-1), 1) := by decide +kernel
theorem dX10_suit_80 : decode cX10_suit 80 = .ok (.ireturn, 1) := by decide +kernel
theorem dX10_suit_81 : decode cX10_suit 81 = .ok (.aload_n 0, 1) := by decide +kernel
theorem dX10_suit_82 : decode cX10_suit 82 = .ok (.iload 4, 2) := by decide +kernel
theorem dX10_suit_84 : decode cX10_suit 84 = .ok (.iload 5, 2) := by decide +kernel
theorem dX10_suit_86 : decode cX10_suit 86 = .ok (.aload_n 0, 1) := by decide +kernel
theorem dX10_suit_87 : decode cX10_suit 87 = .ok (.getfield 173, 3) := by decide +kernel
theorem dX10_suit_90 : decode cX10_suit 90 = .ok (.iload 6, 2) := by decide +kernel
theorem dX10_suit_92 : decode cX10_suit 92 = .ok (.isub, 1) := by decide +kernel
theorem dX10_suit_93 : decode cX10_suit 93 = .ok (.aload_n 0, 1) := by decide +kernel
theorem dX10_suit_94 : decode cX10_suit 94 = .ok (.iload_n 1, 1) := by decide +kernel
theorem dX10_suit_95 : decode cX10_suit 95 = .ok (.iload_n 2, 1) := by decide +kernel
theorem dX10_suit_96 : decode cX10_suit 96 = .ok (.invokevirtual 334, 3) := by decide +kernel
theorem dX10_suit_99 : decode cX10_suit 99 = .ok (.ifCond .eq 7, 3) := by decide +kernel
theorem dX10_suit_102 : decode cX10_suit 102 = .ok (.iconst 1, 1) := by decide +kernel
theorem dX10_suit_103 : decode cX10_suit 103 = .ok (.goto 4, 3) := by decide +kernel
theorem dX10_suit_106 : decode cX10_suit 106 = .ok (.iconst 0, 1) := by decide +kernel
theorem dX10_suit_107 : decode cX10_suit 107 = .ok (.iload 6, 2) := by decide +kernel
theorem dX10_suit_109 : decode cX10_suit 109 = .ok (.aload_n 0, 1) := by decide +kernel
theorem dX10_suit_110 : decode cX10_suit 110 = .ok (.getfield 16, 3) := by decide +kernel
theorem dX10_suit_113 : decode cX10_suit 113 = .ok (.iload_n 2, 1) := by decide +kernel
theorem dX10_suit_114 : decode cX10_suit 114 = .ok (.iaload, 1) := by decide +kernel
theorem dX10_suit_115 : decode cX10_suit 115 = .ok (.isub, 1) := by decide +kernel
theorem dX10_suit_116 : decode cX10_suit 116 = .ok (.invokevirtual 323, 3) := by decide +kernel
theorem dX10_suit_119 : decode cX10_suit 119 = .ok (.ifCond .ne 5, 3) := by decide +kernel
theorem dX10_suit_122 : decode cX10_suit 122 = .ok (.iconst (-1), 1) := by decide +kernel
theorem dX10_suit_123 : decode cX10_suit 123 = .ok (.ireturn, 1) := by decide +kernel
theorem dX10_suit_124 : decode cX10_suit 124 = .ok (.aload_n 0, 1) := by decide +kernel
theorem dX10_suit_125 : decode cX10_suit 125 = .ok (.iload_n 3, 1) := by decide +kernel
theorem dX10_suit_126 : decode cX10_suit 126 = .ok (.aload_n 0, 1) := by decide +kernel
theorem dX10_suit_127 : decode cX10_suit 127 = .ok (.getfield 173, 3) := by decide +kernel
theorem dX10_suit_130 : decode cX10_suit 130 = .ok (.iconst 1, 1) := by decide +kernel
theorem dX10_suit_131 : decode cX10_suit 131 = .ok (.isub, 1) := by decide +kernel
theorem dX10_suit_132 : decode cX10_suit 132 = .ok (.iconst 0, 1) := by decide +kernel
theorem dX10_suit_133 : decode cX10_suit 133 = .ok (.invokevirtual 327, 3) := by decide +kernel
theorem dX10_suit_136 : decode cX10_suit 136 = .ok (.istore 7, 2) := by decide +kernel
theorem dX10_suit_138 : decode cX10_suit 138 = .ok (.aload_n 0, 1) := by decide +kernel
theorem dX10_suit_139 : decode cX10_suit 139 = .ok (.getfield 105, 3) := by decide +kernel
theorem dX10_suit_142 : decode cX10_suit 142 = .ok (.aload_n 0, 1) := by decide +kernel
theorem dX10_suit_143 : decode cX10_suit 143 = .ok (.getfield 331, 3) := by decide +kernel
theorem dX10_suit_146 : decode cX10_suit 146 = .ok (.iload_n 1, 1) := by decide +kernel
theorem dX10_suit_147 : decode cX10_suit 147 = .ok (.iastore, 1) := by decide +kernel
theorem dX10_suit_148 : decode cX10_suit 148 = .ok (.aload_n 0, 1) := by decide +kernel
theorem dX10_suit_149 : decode cX10_suit 149 = .ok (.getfield 108, 3) := by decide +kernel
theorem dX10_suit_152 : decode cX10_suit 152 = .ok (.aload_n 0, 1) := by decide +kernel
theorem dX10_suit_153 : decode cX10_suit 153 = .ok (.getfield 331, 3) := by decide +kernel
theorem dX10_suit_156 : decode cX10_suit 156 = .ok (.iload_n 2, 1) := by decide +kernel
theorem dX10_suit_157 : decode cX10_suit 157 = .ok (.iastore, 1) := by decide +kernel
theorem dX10_suit_158 : decode cX10_suit 158 = .ok (.aload_n 0, 1) := by decide +kernel
theorem dX10_suit_159 : decode cX10_suit 159 = .ok (.getfield 111, 3) := by decide +kernel
theorem dX10_suit_162 : decode cX10_suit 162 = .ok (.aload_n 0, 1) := by decide +kernel
theorem dX10_suit_163 : decode cX10_suit 163 = .ok (.getfield 331, 3) := by decide +kernel
theorem dX10_suit_166 : decode cX10_suit 166 = .ok (.iload_n 3, 1) := by decide +kernel
theorem dX10_suit_167 : decode cX10_suit 167 = .ok (.iastore, 1) := by decide +kernel
theorem dX10_suit_168 : decode cX10_suit 168 = .ok (.aload_n 0, 1) := by decide +kernel
theorem dX10_suit_169 : decode cX10_suit 169 = .ok (.getfield 114, 3) := by decide +kernel
theorem dX10_suit_172 : decode cX10_suit 172 = .ok (.aload_n 0, 1) := by decide +kernel
theorem dX10_suit_173 : decode cX10_suit 173 = .ok (.getfield 331, 3) := by decide +kernel
theorem dX10_suit_176 : decode cX10_suit 176 = .ok (.iload 7, 2) := by decide +kernel
theorem dX10_suit_178 : decode cX10_suit 178 = .ok (.iastore, 1) := by decide +kernel
theorem dX10_suit_179 : decode cX10_suit 179 = .ok (.aload_n 0, 1) := by decide +kernel
theorem dX10_suit_180 : decode cX10_suit 180 = .ok (.getfield 117, 3) := by decide +kernel
theorem dX10_suit_183 : decode cX10_suit 183 = .ok (.aload_n 0, 1) := by decide +kernel
theorem dX10_suit_184 : decode cX10_suit 184 = .ok (.getfield 331, 3) := by decide +kernel
theorem dX10_suit_187 : decode cX10_suit 187 = .ok (.aload_n 0, 1) := by decide +kernel
theorem dX10_suit_188 : decode cX10_suit 188 = .ok (.getfield 173, 3) := by decide +kernel
theorem dX10_suit_191 : decode cX10_suit 191 = .ok (.iastore, 1) := by decide +kernel
theorem dX10_suit_192 : decode cX10_suit 192 = .ok (.aload_n 0, 1) := by decide +kernel
theorem dX10_suit_193 : decode cX10_suit 193 = .ok (.getfield 120, 3) := by decide +kernel
theorem dX10_suit_196 : decode cX10_suit 196 = .ok (.aload_n 0, 1) := by decide +kernel
theorem dX10_suit_197 : decode cX10_suit 197 = .ok (.getfield 331, 3) := by decide +kernel
theorem dX10_suit_200 : decode cX10_suit 200 = .ok (.iconst 0, 1) := by decide +kernel
theorem dX10_suit_201 : decode cX10_suit 201 = .ok (.bastore, 1) := by decide +kernel
theorem dX10_suit_202 : decode cX10_suit 202 = .ok (.iconst 0, 1) := by decide +kernel
theorem dX10_suit_203 : decode cX10_suit 203 = .ok (.istore 8, 2) := by decide +kernel
theorem dX10_suit_205 : decode cX10_suit 205 = .ok (.iconst 0, 1) := by decide +kernel
theorem dX10_suit_206 : decode cX10_suit 206 = .ok (.istore 9, 2) := by decide +kernel
theorem dX10_suit_208 : decode cX10_suit 208 = .ok (.iload 9, 2) := by decide +kernel
theorem dX10_suit_210 : decode cX10_suit 210 = .ok (.aload_n 0, 1) := by decide +kernel
theorem dX10_suit_211 : decode cX10_suit 211 = .ok (.getfield 162, 3) := by decide +kernel
theorem dX10_suit_214 : decode cX10_suit 214 = .ok (.if_icmp .ge 40, 3) := by decide +kernel
theorem dX10_suit_217 : decode cX10_suit 217 = .ok (.iload 9, 2) := by decide +kernel
theorem dX10_suit_219 : decode cX10_suit 219 = .ok (.iload_n 1, 1) := by decide +kernel
theorem dX10_suit_220 : decode cX10_suit 220 = .ok (.if_icmp .eq 28, 3) := by decide +kernel
theorem dX10_suit_223 : decode cX10_suit 223 = .ok (.aload_n 0, 1) := by decide +kernel
theorem dX10_suit_224 : decode cX10_suit 224 = .ok (.iload 9, 2) := by decide +kernel
theorem dX10_suit_226 : decode cX10_suit 226 = .ok (.invokevirtual 176, 3) := by decide +kernel
theorem dX10_suit_229 : decode cX10_suit 229 = .ok (.ifCond .eq 19, 3) := by decide +kernel
theorem dX10_suit_232 : decode cX10_suit 232 = .ok (.aload_n 0, 1) := by decide +kernel
theorem dX10_suit_233 : decode cX10_suit 233 = .ok (.iload_n 1, 1) := by decide +kernel
theorem dX10_suit_234 : decode cX10_suit 234 = .ok (.iload 9, 2) := by decide +kernel
theorem dX10_suit_236 : decode cX10_suit 236 = .ok (.invokevirtual 334, 3) := by decide +kernel
theorem dX10_suit_239 : decode cX10_suit 239 = .ok (.ifCond .eq 9, 3) := by decide +kernel
theorem dX10_suit_242 : decode cX10_suit 242 = .ok (.iload 8, 2) := by decide +kernel
theorem dX10_suit_244 : decode cX10_suit 244 = .ok (.iconst 1, 1) := by decide +kernel
theorem dX10_suit_245 : decode cX10_suit 245 = .ok (.iadd, 1) := by decide +kernel
theorem dX10_suit_246 : decode cX10_suit 246 = .ok (.istore 8, 2) := by decide +kernel
theorem dX10_suit_248 : decode cX10_suit 248 = .ok (.iinc 9 1, 3) := by decide +kernel
theorem dX10_suit_251 : decode cX10_suit 251 = .ok (.goto (-43), 3) := by decide +kernel
theorem dX10_suit_254 : decode cX10_suit 254 = .ok (.iload 8, 2) := by decide +kernel
theorem dX10_suit_256 : decode cX10_suit 256 = .ok (.ifCond .ne 7, 3) := by decide +kernel
theorem dX10_suit_259 : decode cX10_suit 259 = .ok (.iconst 0, 1) := by decide +kernel
theorem dX10_suit_260 : decode cX10_suit 260 = .ok (.goto 10, 3) := by decide +kernel
theorem dX10_suit_263 : decode cX10_suit 263 = .ok (.iload 7, 2) := by decide +kernel
theorem dX10_suit_265 : decode cX10_suit 265 = .ok (.iconst 2, 1) := by decide +kernel
theorem dX10_suit_266 : decode cX10_suit 266 = .ok (.idiv, 1) := by decide +kernel
theorem dX10_suit_267 : decode cX10_suit 267 = .ok (.iload 8, 2) := by decide +kernel
theorem dX10_suit_269 : decode cX10_suit 269 = .ok (.idiv, 1) := by decide +kernel
theorem dX10_suit_270 : decode cX10_suit 270 = .ok (.istore 9, 2) := by decide +kernel
theorem dX10_suit_272 : decode cX10_suit 272 = .ok (.iconst 0, 1) := by decide +kernel
theorem dX10_suit_273 : decode cX10_suit 273 = .ok (.istore 10, 2) := by decide +kernel
theorem dX10_suit_275 : decode cX10_suit 275 = .ok (.iload 10, 2) := by decide +kernel
theorem dX10_suit_277 : decode cX10_suit 277 = .ok (.bipush 24, 2) := by decide +kernel
theorem dX10_suit_279 : decode cX10_suit 279 = .ok (.if_icmp .ge 55, 3) := by decide +kernel
theorem dX10_suit_282 : decode cX10_suit 282 = .ok (.aload_n 0, 1) := by decide +kernel
theorem dX10_suit_283 : decode cX10_suit 283 = .ok (.getfield 123, 3) := by decide +kernel
theorem dX10_suit_286 : decode cX10_suit 286 = .ok (.bipush 24, 2) := by decide +kernel
theorem dX10_suit_288 : decode cX10_suit 288 = .ok (.aload_n 0, 1) := by decide +kernel
theorem dX10_suit_289 : decode cX10_suit 289 = .ok (.getfield 331, 3) := by decide +kernel
theorem dX10_suit_292 : decode cX10_suit 292 = .ok (.imul, 1) := by decide +kernel
theorem dX10_suit_293 : decode cX10_suit 293 = .ok (.iload 10, 2) := by decide +kernel
theorem dX10_suit_295 : decode cX10_suit 295 = .ok (.iadd, 1) := by decide +kernel
theorem dX10_suit_296 : decode cX10_suit 296 = .ok (.iload 10, 2) := by decide +kernel
theorem dX10_suit_298 : decode cX10_suit 298 = .ok (.iload_n 1, 1) := by decide +kernel
theorem dX10_suit_299 : decode cX10_suit 299 = .ok (.if_icmp .eq 27, 3) := by decide +kernel
theorem dX10_suit_302 : decode cX10_suit 302 = .ok (.aload_n 0, 1) := by decide +kernel
theorem dX10_suit_303 : decode cX10_suit 303 = .ok (.iload 10, 2) := by decide +kernel
theorem dX10_suit_305 : decode cX10_suit 305 = .ok (.invokevirtual 176, 3) := by decide +kernel
theorem dX10_suit_308 : decode cX10_suit 308 = .ok (.ifCond .eq 18, 3) := by decide +kernel
theorem dX10_suit_311 : decode cX10_suit 311 = .ok (.aload_n 0, 1) := by decide +kernel
theorem dX10_suit_312 : decode cX10_suit 312 = .ok (.iload_n 1, 1) := by decide +kernel
theorem dX10_suit_313 : decode cX10_suit 313 = .ok (.iload 10, 2) := by decide +kernel
theorem dX10_suit_315 : decode cX10_suit 315 = .ok (.invokevirtual 334, 3) := by decide +kernel
theorem dX10_suit_318 : decode cX10_suit 318 = .ok (.ifCond .eq 8, 3) := by decide +kernel
theorem dX10_suit_321 : decode cX10_suit 321 = .ok (.iload 9, 2) := by decide +kernel
theorem dX10_suit_323 : decode cX10_suit 323 = .ok (.goto 4, 3) := by decide +kernel
theorem dX10_suit_326 : decode cX10_suit 326 = .ok (.iconst 0, 1) := by decide +kernel
theorem dX10_suit_327 : decode cX10_suit 327 = .ok (.iastore, 1) := by decide +kernel
theorem dX10_suit_328 : decode cX10_suit 328 = .ok (.iinc 10 1, 3) := by decide +kernel
theorem dX10_suit_331 : decode cX10_suit 331 = .ok (.goto (-56), 3) := by decide +kernel
theorem dX10_suit_334 : decode cX10_suit 334 = .ok (.aload_n 0, 1) := by decide +kernel
theorem dX10_suit_335 : decode cX10_suit 335 = .ok (.getfield 123, 3) := by decide +kernel
theorem dX10_suit_338 : decode cX10_suit 338 = .ok (.bipush 24, 2) := by decide +kernel
theorem dX10_suit_340 : decode cX10_suit 340 = .ok (.aload_n 0, 1) := by decide +kernel
theorem dX10_suit_341 : decode cX10_suit 341 = .ok (.getfield 331, 3) := by decide +kernel
theorem dX10_suit_344 : decode cX10_suit 344 = .ok (.imul, 1) := by decide +kernel
theorem dX10_suit_345 : decode cX10_suit 345 = .ok (.iload_n 1, 1) := by decide +kernel
theorem dX10_suit_346 : decode cX10_suit 346 = .ok (.iadd, 1) := by decide +kernel
theorem dX10_suit_347 : decode cX10_suit 347 = .ok (.iload 7, 2) := by decide +kernel
theorem dX10_suit_349 : decode cX10_suit 349 = .ok (.iload 9, 2) := by decide +kernel
theorem dX10_suit_351 : decode cX10_suit 351 = .ok (.iload 8, 2) := by decide +kernel
theorem dX10_suit_353 : decode cX10_suit 353 = .ok (.imul, 1) := by decide +kernel
theorem dX10_suit_354 : decode cX10_suit 354 = .ok (.isub, 1) := by decide +kernel
theorem dX10_suit_355 : decode cX10_suit 355 = .ok (.iastore, 1) := by decide +kernel
theorem dX10_suit_356 : decode cX10_suit 356 = .ok (.aload_n 0, 1) := by decide +kernel
theorem dX10_suit_357 : decode cX10_suit 357 = .ok (.aload_n 0, 1) := by decide +kernel
theorem dX10_suit_358 : decode cX10_suit 358 = .ok (.getfield 331, 3) := by decide +kernel
theorem dX10_suit_361 : decode cX10_suit 361 = .ok (.iconst 1, 1) := by decide +kernel
theorem dX10_suit_362 : decode cX10_suit 362 = .ok (.iadd, 1) := by decide +kernel
theorem dX10_suit_363 : decode cX10_suit 363 = .ok (.putfield 331, 3) := by decide +kernel
theorem dX10_suit_366 : decode cX10_suit 366 = .ok (.aload_n 0, 1) := by decide +kernel
theorem dX10_suit_367 : decode cX10_suit 367 = .ok (.getfield 331, 3) := by decide +kernel
theorem dX10_suit_370 : decode cX10_suit 370 = .ok (.iconst 1, 1) := by decide +kernel
theorem dX10_suit_371 : decode cX10_suit 371 = .ok (.isub, 1) := by decide +kernel
theorem dX10_suit_372 : decode cX10_suit 372 = .ok (.ireturn, 1) := by decide +kernel
theorem dX10_suitOf_0 : decode cX10_suitOf 0 = .ok (.aload_n 0, 1) := by decide +kernel
theorem dX10_suitOf_1 : decode cX10_suitOf 1 = .ok (.iconst 0, 1) := by decide +kernel
theorem dX10_suitOf_2 : decode cX10_suitOf 2 = .ok (.putfield 159, 3) := by decide +kernel
theorem dX10_suitOf_5 : decode cX10_suitOf 5 = .ok (.aload_n 0, 1) := by decide +kernel
theorem dX10_suitOf_6 : decode cX10_suitOf 6 = .ok (.iload_n 1, 1) := by decide +kernel
theorem dX10_suitOf_7 : decode cX10_suitOf 7 = .ok (.iconst 0, 1) := by decide +kernel
theorem dX10_suitOf_8 : decode cX10_suitOf 8 = .ok (.aload_n 0, 1) := by decide +kernel
theorem dX10_suitOf_9 : decode cX10_suitOf 9 = .ok (.getfield 331, 3) := by decide +kernel
theorem dX10_suitOf_12 : decode cX10_suitOf 12 = .ok (.iconst 1, 1) := by decide +kernel
theorem dX10_suitOf_13 : decode cX10_suitOf 13 = .ok (.isub, 1) := by decide +kernel
theorem dX10_suitOf_14 : decode cX10_suitOf 14 = .ok (.invokevirtual 169, 3) := by decide +kernel
theorem dX10_suitOf_17 : decode cX10_suitOf 17 = .ok (.ifCond .ne 5, 3) := by decide +kernel
theorem dX10_suitOf_20 : decode cX10_suitOf 20 = .ok (.iconst (-1), 1) := by decide +kernel
theorem dX10_suitOf_21 : decode cX10_suitOf 21 = .ok (.ireturn, 1) := by decide +kernel
theorem dX10_suitOf_22 : decode cX10_suitOf 22 = .ok (.iload_n 2, 1) := by decide +kernel
theorem dX10_suitOf_23 : decode cX10_suitOf 23 = .ok (.ifCond .ne 10, 3) := by decide +kernel
theorem dX10_suitOf_26 : decode cX10_suitOf 26 = .ok (.aload_n 0, 1) := by decide +kernel
theorem dX10_suitOf_27 : decode cX10_suitOf 27 = .ok (.getfield 105, 3) := by decide +kernel
theorem dX10_suitOf_30 : decode cX10_suitOf 30 = .ok (.iload_n 1, 1) := by decide +kernel
theorem dX10_suitOf_31 : decode cX10_suitOf 31 = .ok (.iaload, 1) := by decide +kernel
theorem dX10_suitOf_32 : decode cX10_suitOf 32 = .ok (.ireturn, 1) := by decide +kernel
theorem dX10_suitOf_33 : decode cX10_suitOf 33 = .ok (.iload_n 2, 1) := by decide +kernel
theorem dX10_suitOf_34 : decode cX10_suitOf 34 = .ok (.iconst 1, 1) := by decide +kernel
theorem dX10_suitOf_35 : decode cX10_suitOf 35 = .ok (.if_icmp .ne 10, 3) := by decide +kernel
theorem dX10_suitOf_38 : decode cX10_suitOf 38 = .ok (.aload_n 0, 1) := by decide +kernel
theorem dX10_suitOf_39 : decode cX10_suitOf 39 = .ok (.getfield 108, 3) := by decide +kernel
theorem dX10_suitOf_42 : decode cX10_suitOf 42 = .ok (.iload_n 1, 1) := by decide +kernel
theorem dX10_suitOf_43 : decode cX10_suitOf 43 = .ok (.iaload, 1) := by decide +kernel
theorem dX10_suitOf_44 : decode cX10_suitOf 44 = .ok (.ireturn, 1) := by decide +kernel
theorem dX10_suitOf_45 : decode cX10_suitOf 45 = .ok (.iload_n 2, 1) := by decide +kernel
theorem dX10_suitOf_46 : decode cX10_suitOf 46 = .ok (.iconst 2, 1) := by decide +kernel
theorem dX10_suitOf_47 : decode cX10_suitOf 47 = .ok (.if_icmp .ne 10, 3) := by decide +kernel
theorem dX10_suitOf_50 : decode cX10_suitOf 50 = .ok (.aload_n 0, 1) := by decide +kernel
theorem dX10_suitOf_51 : decode cX10_suitOf 51 = .ok (.getfield 111, 3) := by decide +kernel
theorem dX10_suitOf_54 : decode cX10_suitOf 54 = .ok (.iload_n 1, 1) := by decide +kernel
theorem dX10_suitOf_55 : decode cX10_suitOf 55 = .ok (.iaload, 1) := by decide +kernel
theorem dX10_suitOf_56 : decode cX10_suitOf 56 = .ok (.ireturn, 1) := by decide +kernel
theorem dX10_suitOf_57 : decode cX10_suitOf 57 = .ok (.iload_n 2, 1) := by decide +kernel
theorem dX10_suitOf_58 : decode cX10_suitOf 58 = .ok (.iconst 3, 1) := by decide +kernel
theorem dX10_suitOf_59 : decode cX10_suitOf 59 = .ok (.if_icmp .ne 10, 3) := by decide +kernel
theorem dX10_suitOf_62 : decode cX10_suitOf 62 = .ok (.aload_n 0, 1) := by decide +kernel
theorem dX10_suitOf_63 : decode cX10_suitOf 63 = .ok (.getfield 114, 3) := by decide +kernel
theorem dX10_suitOf_66 : decode cX10_suitOf 66 = .ok (.iload_n 1, 1) := by decide +kernel
theorem dX10_suitOf_67 : decode cX10_suitOf 67 = .ok (.iaload, 1) := by decide +kernel
theorem dX10_suitOf_68 : decode cX10_suitOf 68 = .ok (.ireturn, 1) := by decide +kernel
theorem dX10_suitOf_69 : decode cX10_suitOf 69 = .ok (.iload_n 2, 1) := by decide +kernel
theorem dX10_suitOf_70 : decode cX10_suitOf 70 = .ok (.iconst 4, 1) := by decide +kernel
theorem dX10_suitOf_71 : decode cX10_suitOf 71 = .ok (.if_icmp .ne 10, 3) := by decide +kernel
theorem dX10_suitOf_74 : decode cX10_suitOf 74 = .ok (.aload_n 0, 1) := by decide +kernel
theorem dX10_suitOf_75 : decode cX10_suitOf 75 = .ok (.getfield 117, 3) := by decide +kernel
theorem dX10_suitOf_78 : decode cX10_suitOf 78 = .ok (.iload_n 1, 1) := by decide +kernel
theorem dX10_suitOf_79 : decode cX10_suitOf 79 = .ok (.iaload, 1) := by decide +kernel
theorem dX10_suitOf_80 : decode cX10_suitOf 80 = .ok (.ireturn, 1) := by decide +kernel
theorem dX10_suitOf_81 : decode cX10_suitOf 81 = .ok (.iload_n 2, 1) := by decide +kernel
theorem dX10_suitOf_82 : decode cX10_suitOf 82 = .ok (.iconst 5, 1) := by decide +kernel
theorem dX10_suitOf_83 : decode cX10_suitOf 83 = .ok (.if_icmp .ne 18, 3) := by decide +kernel
theorem dX10_suitOf_86 : decode cX10_suitOf 86 = .ok (.aload_n 0, 1) := by decide +kernel
theorem dX10_suitOf_87 : decode cX10_suitOf 87 = .ok (.getfield 120, 3) := by decide +kernel
theorem dX10_suitOf_90 : decode cX10_suitOf 90 = .ok (.iload_n 1, 1) := by decide +kernel
theorem dX10_suitOf_91 : decode cX10_suitOf 91 = .ok (.baload, 1) := by decide +kernel
theorem dX10_suitOf_92 : decode cX10_suitOf 92 = .ok (.ifCond .eq 7, 3) := by decide +kernel
theorem dX10_suitOf_95 : decode cX10_suitOf 95 = .ok (.iconst 1, 1) := by decide +kernel
theorem dX10_suitOf_96 : decode cX10_suitOf 96 = .ok (.goto 4, 3) := by decide +kernel
theorem dX10_suitOf_99 : decode cX10_suitOf 99 = .ok (.iconst 0, 1) := by decide +kernel
theorem dX10_suitOf_100 : decode cX10_suitOf 100 = .ok (.ireturn, 1) := by decide +kernel
theorem dX10_suitOf_101 : decode cX10_suitOf 101 = .ok (.aload_n 0, 1) := by decide +kernel
theorem dX10_suitOf_102 : decode cX10_suitOf 102 = .ok (.iload_n 2, 1) := by decide +kernel
theorem dX10_suitOf_103 : decode cX10_suitOf 103 = .ok (.bipush 10, 2) := by decide +kernel
theorem dX10_suitOf_105 : decode cX10_suitOf 105 = .ok (.bipush 9, 2) := by decide +kernel
theorem dX10_suitOf_107 : decode cX10_suitOf 107 = .ok (.aload_n 0, 1) := by decide +kernel
theorem dX10_suitOf_108 : decode cX10_suitOf 108 = .ok (.getfield 162, 3) := by decide +kernel
theorem dX10_suitOf_111 : decode cX10_suitOf 111 = .ok (.iadd, 1) := by decide +kernel
theorem dX10_suitOf_112 : decode cX10_suitOf 112 = .ok (.invokevirtual 169, 3) := by decide +kernel
theorem dX10_suitOf_115 : decode cX10_suitOf 115 = .ok (.ifCond .eq 20, 3) := by decide +kernel
theorem dX10_suitOf_118 : decode cX10_suitOf 118 = .ok (.aload_n 0, 1) := by decide +kernel
theorem dX10_suitOf_119 : decode cX10_suitOf 119 = .ok (.getfield 123, 3) := by decide +kernel
theorem dX10_suitOf_122 : decode cX10_suitOf 122 = .ok (.bipush 24, 2) := by decide +kernel
theorem dX10_suitOf_124 : decode cX10_suitOf 124 = .ok (.iload_n 1, 1) := by decide +kernel
theorem dX10_suitOf_125 : decode cX10_suitOf 125 = .ok (.imul, 1) := by decide +kernel
theorem dX10_suitOf_126 : decode cX10_suitOf 126 = .ok (.iload_n 2, 1) := by decide +kernel
theorem dX10_suitOf_127 : decode cX10_suitOf 127 = .ok (.iadd, 1) := by decide +kernel
theorem dX10_suitOf_128 : decode cX10_suitOf 128 = .ok (.bipush 10, 2) := by decide +kernel
theorem dX10_suitOf_130 : decode cX10_suitOf 130 = .ok (.isub, 1) := by decide +kernel
theorem dX10_suitOf_131 : decode cX10_suitOf 131 = .ok (.iaload, 1) := by decide +kernel
theorem dX10_suitOf_132 : decode cX10_suitOf 132 = .ok (.goto 4, 3) := by decide +kernel
theorem dX10_suitOf_135 : decode cX10_suitOf 135 = .ok (.iconst (-1), 1) := by decide +kernel
theorem dX10_suitOf_136 : decode cX10_suitOf 136 = .ok (.ireturn, 1) := by decide +kernel
theorem dX10_pay_0 : decode cX10_pay 0 = .ok (.aload_n 0, 1) := by decide +kernel
theorem dX10_pay_1 : decode cX10_pay 1 = .ok (.iconst 0, 1) := by decide +kernel
theorem dX10_pay_2 : decode cX10_pay 2 = .ok (.putfield 159, 3) := by decide +kernel
theorem dX10_pay_5 : decode cX10_pay 5 = .ok (.aload_n 0, 1) := by decide +kernel
theorem dX10_pay_6 : decode cX10_pay 6 = .ok (.iload_n 1, 1) := by decide +kernel
theorem dX10_pay_7 : decode cX10_pay 7 = .ok (.iconst 0, 1) := by decide +kernel
theorem dX10_pay_8 : decode cX10_pay 8 = .ok (.aload_n 0, 1) := by decide +kernel
theorem dX10_pay_9 : decode cX10_pay 9 = .ok (.getfield 331, 3) := by decide +kernel
theorem dX10_pay_12 : decode cX10_pay 12 = .ok (.iconst 1, 1) := by decide +kernel
theorem dX10_pay_13 : decode cX10_pay 13 = .ok (.isub, 1) := by decide +kernel
theorem dX10_pay_14 : decode cX10_pay 14 = .ok (.invokevirtual 169, 3) := by decide +kernel
theorem dX10_pay_17 : decode cX10_pay 17 = .ok (.ifCond .eq 12, 3) := by decide +kernel
theorem dX10_pay_20 : decode cX10_pay 20 = .ok (.aload_n 0, 1) := by decide +kernel
theorem dX10_pay_21 : decode cX10_pay 21 = .ok (.getfield 120, 3) := by decide +kernel
theorem dX10_pay_24 : decode cX10_pay 24 = .ok (.iload_n 1, 1) := by decide +kernel
theorem dX10_pay_25 : decode cX10_pay 25 = .ok (.baload, 1) := by decide +kernel
theorem dX10_pay_26 : decode cX10_pay 26 = .ok (.ifCond .eq 5, 3) := by decide +kernel
theorem dX10_pay_29 : decode cX10_pay 29 = .ok (.iconst 0, 1) := by decide +kernel
theorem dX10_pay_30 : decode cX10_pay 30 = .ok (.ireturn, 1) := by decide +kernel
theorem dX10_pay_31 : decode cX10_pay 31 = .ok (.aload_n 0, 1) := by decide +kernel
theorem dX10_pay_32 : decode cX10_pay 32 = .ok (.getfield 120, 3) := by decide +kernel
theorem dX10_pay_35 : decode cX10_pay 35 = .ok (.iload_n 1, 1) := by decide +kernel
theorem dX10_pay_36 : decode cX10_pay 36 = .ok (.iconst 1, 1) := by decide +kernel
theorem dX10_pay_37 : decode cX10_pay 37 = .ok (.bastore, 1) := by decide +kernel
theorem dX10_pay_38 : decode cX10_pay 38 = .ok (.iconst 1, 1) := by decide +kernel
theorem dX10_pay_39 : decode cX10_pay 39 = .ok (.ireturn, 1) := by decide +kernel
theorem dX10_takesPresent_0 : decode cX10_takesPresent 0 = .ok (.iconst 0, 1) := by decide +kernel
theorem dX10_takesPresent_1 : decode cX10_takesPresent 1 = .ok (.istore_n 1, 1) := by decide +kernel
theorem dX10_takesPresent_2 : decode cX10_takesPresent 2 = .ok (.iload_n 1, 1) := by decide +kernel
theorem dX10_takesPresent_3 : decode cX10_takesPresent 3 = .ok (.bipush 24, 2) := by decide +kernel
theorem dX10_takesPresent_5 : decode cX10_takesPresent 5 = .ok (.if_icmp .ge 45, 3) := by decide +kernel
theorem dX10_takesPresent_8 : decode cX10_takesPresent 8 = .ok (.aload_n 0, 1) := by decide +kernel
theorem dX10_takesPresent_9 : decode cX10_takesPresent 9 = .ok (.getfield 126, 3) := by decide +kernel
theorem dX10_takesPresent_12 : decode cX10_takesPresent 12 = .ok (.iload_n 1, 1) := by decide +kernel
theorem dX10_takesPresent_13 : decode cX10_takesPresent 13 = .ok (.aload_n 0, 1) := by decide +kernel
theorem dX10_takesPresent_14 : decode cX10_takesPresent 14 = .ok (.iload_n 1, 1) := by decide +kernel
theorem dX10_takesPresent_15 : decode cX10_takesPresent 15 = .ok (.invokevirtual 176, 3) := by decide +kernel
theorem dX10_takesPresent_18 : decode cX10_takesPresent 18 = .ok (.ifCond .eq 24, 3) := by decide +kernel
theorem dX10_takesPresent_21 : decode cX10_takesPresent 21 = .ok (.aload_n 0, 1) := by decide +kernel
theorem dX10_takesPresent_22 : decode cX10_takesPresent 22 = .ok (.getfield 22, 3) := by decide +kernel
theorem dX10_takesPresent_25 : decode cX10_takesPresent 25 = .ok (.iload_n 1, 1) := by decide +kernel
theorem dX10_takesPresent_26 : decode cX10_takesPresent 26 = .ok (.baload, 1) := by decide +kernel
theorem dX10_takesPresent_27 : decode cX10_takesPresent 27 = .ok (.ifCond .ne 15, 3) := by decide +kernel
theorem dX10_takesPresent_30 : decode cX10_takesPresent 30 = .ok (.aload_n 0, 1) := by decide +kernel
theorem dX10_takesPresent_31 : decode cX10_takesPresent 31 = .ok (.iload_n 1, 1) := by decide +kernel
theorem dX10_takesPresent_32 : decode cX10_takesPresent 32 = .ok (.invokevirtual 182, 3) := by decide +kernel
theorem dX10_takesPresent_35 : decode cX10_takesPresent 35 = .ok (.ifCond .ne 7, 3) := by decide +kernel
theorem dX10_takesPresent_38 : decode cX10_takesPresent 38 = .ok (.iconst 1, 1) := by decide +kernel
theorem dX10_takesPresent_39 : decode cX10_takesPresent 39 = .ok (.goto 4, 3) := by decide +kernel
theorem dX10_takesPresent_42 : decode cX10_takesPresent 42 = .ok (.iconst 0, 1) := by decide +kernel
theorem dX10_takesPresent_43 : decode cX10_takesPresent 43 = .ok (.bastore, 1) := by decide +kernel
theorem dX10_takesPresent_44 : decode cX10_takesPresent 44 = .ok (.iinc 1 1, 3) := by decide +kernel
theorem dX10_takesPresent_47 : decode cX10_takesPresent 47 = .ok (.goto (-45), 3) := by decide +kernel
theorem dX10_takesPresent_50 : decode cX10_takesPresent 50 = .ok (.return_, 1) := by decide +kernel
theorem dX10_isHeard_0 : decode cX10_isHeard 0 = .ok (.aload_n 0, 1) := by decide +kernel
theorem dX10_isHeard_1 : decode cX10_isHeard 1 = .ok (.getfield 126, 3) := by decide +kernel
theorem dX10_isHeard_4 : decode cX10_isHeard 4 = .ok (.iload_n 1, 1) := by decide +kernel
theorem dX10_isHeard_5 : decode cX10_isHeard 5 = .ok (.baload, 1) := by decide +kernel
theorem dX10_isHeard_6 : decode cX10_isHeard 6 = .ok (.ifCond .eq 16, 3) := by decide +kernel
theorem dX10_isHeard_9 : decode cX10_isHeard 9 = .ok (.aload_n 0, 1) := by decide +kernel
theorem dX10_isHeard_10 : decode cX10_isHeard 10 = .ok (.iload_n 1, 1) := by decide +kernel
theorem dX10_isHeard_11 : decode cX10_isHeard 11 = .ok (.iload_n 2, 1) := by decide +kernel
theorem dX10_isHeard_12 : decode cX10_isHeard 12 = .ok (.invokevirtual 198, 3) := by decide +kernel
theorem dX10_isHeard_15 : decode cX10_isHeard 15 = .ok (.ifCond .eq 7, 3) := by decide +kernel
theorem dX10_isHeard_18 : decode cX10_isHeard 18 = .ok (.iconst 1, 1) := by decide +kernel
theorem dX10_isHeard_19 : decode cX10_isHeard 19 = .ok (.goto 4, 3) := by decide +kernel
theorem dX10_isHeard_22 : decode cX10_isHeard 22 = .ok (.iconst 0, 1) := by decide +kernel
theorem dX10_isHeard_23 : decode cX10_isHeard 23 = .ok (.ireturn, 1) := by decide +kernel
theorem dX10_speakersOf_0 : decode cX10_speakersOf 0 = .ok (.aload_n 0, 1) := by decide +kernel
theorem dX10_speakersOf_1 : decode cX10_speakersOf 1 = .ok (.getfield 32, 3) := by decide +kernel
theorem dX10_speakersOf_4 : decode cX10_speakersOf 4 = .ok (.iconst (-1), 1) := by decide +kernel
theorem dX10_speakersOf_5 : decode cX10_speakersOf 5 = .ok (.if_icmp .eq 32, 3) := by decide +kernel
theorem dX10_speakersOf_8 : decode cX10_speakersOf 8 = .ok (.aload_n 0, 1) := by decide +kernel
theorem dX10_speakersOf_9 : decode cX10_speakersOf 9 = .ok (.aload_n 0, 1) := by decide +kernel
theorem dX10_speakersOf_10 : decode cX10_speakersOf 10 = .ok (.getfield 32, 3) := by decide +kernel
theorem dX10_speakersOf_13 : decode cX10_speakersOf 13 = .ok (.iload_n 1, 1) := by decide +kernel
theorem dX10_speakersOf_14 : decode cX10_speakersOf 14 = .ok (.invokevirtual 337, 3) := by decide +kernel
theorem dX10_speakersOf_17 : decode cX10_speakersOf 17 = .ok (.ifCond .eq 20, 3) := by decide +kernel
theorem dX10_speakersOf_20 : decode cX10_speakersOf 20 = .ok (.aload_n 0, 1) := by decide +kernel
theorem dX10_speakersOf_21 : decode cX10_speakersOf 21 = .ok (.getfield 57, 3) := by decide +kernel
theorem dX10_speakersOf_24 : decode cX10_speakersOf 24 = .ok (.bipush 24, 2) := by decide +kernel
theorem dX10_speakersOf_26 : decode cX10_speakersOf 26 = .ok (.aload_n 0, 1) := by decide +kernel
theorem dX10_speakersOf_27 : decode cX10_speakersOf 27 = .ok (.getfield 32, 3) := by decide +kernel
theorem dX10_speakersOf_30 : decode cX10_speakersOf 30 = .ok (.imul, 1) := by decide +kernel
theorem dX10_speakersOf_31 : decode cX10_speakersOf 31 = .ok (.iload_n 1, 1) := by decide +kernel
theorem dX10_speakersOf_32 : decode cX10_speakersOf 32 = .ok (.iadd, 1) := by decide +kernel
theorem dX10_speakersOf_33 : decode cX10_speakersOf 33 = .ok (.iaload, 1) := by decide +kernel
theorem dX10_speakersOf_34 : decode cX10_speakersOf 34 = .ok (.goto 4, 3) := by decide +kernel
theorem dX10_speakersOf_37 : decode cX10_speakersOf 37 = .ok (.iconst (-1), 1) := by decide +kernel
theorem dX10_speakersOf_38 : decode cX10_speakersOf 38 = .ok (.ireturn, 1) := by decide +kernel
theorem dX10_counts_0 : decode cX10_counts 0 = .ok (.iconst 0, 1) := by decide +kernel
theorem dX10_counts_1 : decode cX10_counts 1 = .ok (.istore_n 3, 1) := by decide +kernel
theorem dX10_counts_2 : decode cX10_counts 2 = .ok (.iload_n 3, 1) := by decide +kernel
theorem dX10_counts_3 : decode cX10_counts 3 = .ok (.bipush 32, 2) := by decide +kernel
theorem dX10_counts_5 : decode cX10_counts 5 = .ok (.if_icmp .ge 16, 3) := by decide +kernel
theorem dX10_counts_8 : decode cX10_counts 8 = .ok (.aload_n 0, 1) := by decide +kernel
theorem dX10_counts_9 : decode cX10_counts 9 = .ok (.getfield 129, 3) := by decide +kernel
theorem dX10_counts_12 : decode cX10_counts 12 = .ok (.iload_n 3, 1) := by decide +kernel
theorem dX10_counts_13 : decode cX10_counts 13 = .ok (.iconst 0, 1) := by decide +kernel
theorem dX10_counts_14 : decode cX10_counts 14 = .ok (.iastore, 1) := by decide +kernel
theorem dX10_counts_15 : decode cX10_counts 15 = .ok (.iinc 3 1, 3) := by decide +kernel
theorem dX10_counts_18 : decode cX10_counts 18 = .ok (.goto (-16), 3) := by decide +kernel
theorem dX10_counts_21 : decode cX10_counts 21 = .ok (.iconst 0, 1) := by decide +kernel
theorem dX10_counts_22 : decode cX10_counts 22 = .ok (.istore_n 3, 1) := by decide +kernel
theorem dX10_counts_23 : decode cX10_counts 23 = .ok (.iload_n 3, 1) := by decide +kernel
theorem dX10_counts_24 : decode cX10_counts 24 = .ok (.aload_n 0, 1) := by decide +kernel
theorem dX10_counts_25 : decode cX10_counts 25 = .ok (.getfield 162, 3) := by decide +kernel
theorem dX10_counts_28 : decode cX10_counts 28 = .ok (.if_icmp .ge 65, 3) := by decide +kernel
theorem dX10_counts_31 : decode cX10_counts 31 = .ok (.aload_n 0, 1) := by decide +kernel
theorem dX10_counts_32 : decode cX10_counts 32 = .ok (.iload_n 3, 1) := by decide +kernel
theorem dX10_counts_33 : decode cX10_counts 33 = .ok (.iload_n 1, 1) := by decide +kernel
theorem dX10_counts_34 : decode cX10_counts 34 = .ok (.invokevirtual 337, 3) := by decide +kernel
theorem dX10_counts_37 : decode cX10_counts 37 = .ok (.ifCond .eq 50, 3) := by decide +kernel
theorem dX10_counts_40 : decode cX10_counts 40 = .ok (.iload_n 2, 1) := by decide +kernel
theorem dX10_counts_41 : decode cX10_counts 41 = .ok (.iconst (-1), 1) := by decide +kernel
theorem dX10_counts_42 : decode cX10_counts 42 = .ok (.if_icmp .eq 16, 3) := by decide +kernel
theorem dX10_counts_45 : decode cX10_counts 45 = .ok (.aload_n 0, 1) := by decide +kernel
theorem dX10_counts_46 : decode cX10_counts 46 = .ok (.getfield 7, 3) := by decide +kernel
theorem dX10_counts_49 : decode cX10_counts 49 = .ok (.iload_n 3, 1) := by decide +kernel
theorem dX10_counts_50 : decode cX10_counts 50 = .ok (.iaload, 1) := by decide +kernel
theorem dX10_counts_51 : decode cX10_counts 51 = .ok (.iload_n 2, 1) := by decide +kernel
theorem dX10_counts_52 : decode cX10_counts 52 = .ok (.if_icmp .eq 6, 3) := by decide +kernel
theorem dX10_counts_55 : decode cX10_counts 55 = .ok (.goto 32, 3) := by decide +kernel
theorem dX10_counts_58 : decode cX10_counts 58 = .ok (.aload_n 0, 1) := by decide +kernel
theorem dX10_counts_59 : decode cX10_counts 59 = .ok (.getfield 57, 3) := by decide +kernel
theorem dX10_counts_62 : decode cX10_counts 62 = .ok (.bipush 24, 2) := by decide +kernel
theorem dX10_counts_64 : decode cX10_counts 64 = .ok (.iload_n 3, 1) := by decide +kernel
theorem dX10_counts_65 : decode cX10_counts 65 = .ok (.imul, 1) := by decide +kernel
theorem dX10_counts_66 : decode cX10_counts 66 = .ok (.iload_n 1, 1) := by decide +kernel
theorem dX10_counts_67 : decode cX10_counts 67 = .ok (.iadd, 1) := by decide +kernel
theorem dX10_counts_68 : decode cX10_counts 68 = .ok (.iaload, 1) := by decide +kernel
theorem dX10_counts_69 : decode cX10_counts 69 = .ok (.istore 4, 2) := by decide +kernel
theorem dX10_counts_71 : decode cX10_counts 71 = .ok (.aload_n 0, 1) := by decide +kernel
theorem dX10_counts_72 : decode cX10_counts 72 = .ok (.getfield 129, 3) := by decide +kernel
theorem dX10_counts_75 : decode cX10_counts 75 = .ok (.iload 4, 2) := by decide +kernel
theorem dX10_counts_77 : decode cX10_counts 77 = .ok (.aload_n 0, 1) := by decide +kernel
theorem dX10_counts_78 : decode cX10_counts 78 = .ok (.getfield 129, 3) := by decide +kernel
theorem dX10_counts_81 : decode cX10_counts 81 = .ok (.iload 4, 2) := by decide +kernel
theorem dX10_counts_83 : decode cX10_counts 83 = .ok (.iaload, 1) := by decide +kernel
theorem dX10_counts_84 : decode cX10_counts 84 = .ok (.iconst 1, 1) := by decide +kernel
theorem dX10_counts_85 : decode cX10_counts 85 = .ok (.iadd, 1) := by decide +kernel
theorem dX10_counts_86 : decode cX10_counts 86 = .ok (.iastore, 1) := by decide +kernel
theorem dX10_counts_87 : decode cX10_counts 87 = .ok (.iinc 3 1, 3) := by decide +kernel
theorem dX10_counts_90 : decode cX10_counts 90 = .ok (.goto (-67), 3) := by decide +kernel
theorem dX10_counts_93 : decode cX10_counts 93 = .ok (.return_, 1) := by decide +kernel
theorem dX10_greatest_0 : decode cX10_greatest 0 = .ok (.iconst 0, 1) := by decide +kernel
theorem dX10_greatest_1 : decode cX10_greatest 1 = .ok (.istore_n 1, 1) := by decide +kernel
theorem dX10_greatest_2 : decode cX10_greatest 2 = .ok (.iconst 1, 1) := by decide +kernel
theorem dX10_greatest_3 : decode cX10_greatest 3 = .ok (.istore_n 2, 1) := by decide +kernel
theorem dX10_greatest_4 : decode cX10_greatest 4 = .ok (.iload_n 2, 1) := by decide +kernel
theorem dX10_greatest_5 : decode cX10_greatest 5 = .ok (.bipush 32, 2) := by decide +kernel
theorem dX10_greatest_7 : decode cX10_greatest 7 = .ok (.if_icmp .ge 26, 3) := by decide +kernel
theorem dX10_greatest_10 : decode cX10_greatest 10 = .ok (.aload_n 0, 1) := by decide +kernel
theorem dX10_greatest_11 : decode cX10_greatest 11 = .ok (.getfield 129, 3) := by decide +kernel
theorem dX10_greatest_14 : decode cX10_greatest 14 = .ok (.iload_n 2, 1) := by decide +kernel
theorem dX10_greatest_15 : decode cX10_greatest 15 = .ok (.iaload, 1) := by decide +kernel
theorem dX10_greatest_16 : decode cX10_greatest 16 = .ok (.aload_n 0, 1) := by decide +kernel
theorem dX10_greatest_17 : decode cX10_greatest 17 = .ok (.getfield 129, 3) := by decide +kernel
theorem dX10_greatest_20 : decode cX10_greatest 20 = .ok (.iload_n 1, 1) := by decide +kernel
theorem dX10_greatest_21 : decode cX10_greatest 21 = .ok (.iaload, 1) := by decide +kernel
theorem dX10_greatest_22 : decode cX10_greatest 22 = .ok (.if_icmp .le 5, 3) := by decide +kernel
theorem dX10_greatest_25 : decode cX10_greatest 25 = .ok (.iload_n 2, 1) := by decide +kernel
theorem dX10_greatest_26 : decode cX10_greatest 26 = .ok (.istore_n 1, 1) := by decide +kernel
theorem dX10_greatest_27 : decode cX10_greatest 27 = .ok (.iinc 2 1, 3) := by decide +kernel
theorem dX10_greatest_30 : decode cX10_greatest 30 = .ok (.goto (-26), 3) := by decide +kernel
theorem dX10_greatest_33 : decode cX10_greatest 33 = .ok (.iload_n 1, 1) := by decide +kernel
theorem dX10_greatest_34 : decode cX10_greatest 34 = .ok (.ireturn, 1) := by decide +kernel
theorem dX10_standing_0 : decode cX10_standing 0 = .ok (.aload_n 0, 1) := by decide +kernel
theorem dX10_standing_1 : decode cX10_standing 1 = .ok (.iload_n 1, 1) := by decide +kernel
theorem dX10_standing_2 : decode cX10_standing 2 = .ok (.invokevirtual 340, 3) := by decide +kernel
theorem dX10_standing_5 : decode cX10_standing 5 = .ok (.istore_n 2, 1) := by decide +kernel
theorem dX10_standing_6 : decode cX10_standing 6 = .ok (.aload_n 0, 1) := by decide +kernel
theorem dX10_standing_7 : decode cX10_standing 7 = .ok (.getfield 179, 3) := by decide +kernel
theorem dX10_standing_10 : decode cX10_standing 10 = .ok (.ifCond .ne 10, 3) := by decide +kernel
theorem dX10_standing_13 : decode cX10_standing 13 = .ok (.iload_n 2, 1) := by decide +kernel
theorem dX10_standing_14 : decode cX10_standing 14 = .ok (.iconst (-1), 1) := by decide +kernel
theorem dX10_standing_15 : decode cX10_standing 15 = .ok (.if_icmp .eq 5, 3) := by decide +kernel
theorem dX10_standing_18 : decode cX10_standing 18 = .ok (.iload_n 2, 1) := by decide +kernel
theorem dX10_standing_19 : decode cX10_standing 19 = .ok (.ireturn, 1) := by decide +kernel
theorem dX10_standing_20 : decode cX10_standing 20 = .ok (.aload_n 0, 1) := by decide +kernel
theorem dX10_standing_21 : decode cX10_standing 21 = .ok (.getfield 179, 3) := by decide +kernel
theorem dX10_standing_24 : decode cX10_standing 24 = .ok (.iconst 2, 1) := by decide +kernel
theorem dX10_standing_25 : decode cX10_standing 25 = .ok (.if_icmp .ge 12, 3) := by decide +kernel
theorem dX10_standing_28 : decode cX10_standing 28 = .ok (.aload_n 0, 1) := by decide +kernel
theorem dX10_standing_29 : decode cX10_standing 29 = .ok (.iload_n 1, 1) := by decide +kernel
theorem dX10_standing_30 : decode cX10_standing 30 = .ok (.iconst (-1), 1) := by decide +kernel
theorem dX10_standing_31 : decode cX10_standing 31 = .ok (.invokevirtual 343, 3) := by decide +kernel
theorem dX10_standing_34 : decode cX10_standing 34 = .ok (.goto 101, 3) := by decide +kernel
theorem dX10_standing_37 : decode cX10_standing 37 = .ok (.iconst 0, 1) := by decide +kernel
theorem dX10_standing_38 : decode cX10_standing 38 = .ok (.istore_n 3, 1) := by decide +kernel
theorem dX10_standing_39 : decode cX10_standing 39 = .ok (.iload_n 3, 1) := by decide +kernel
theorem dX10_standing_40 : decode cX10_standing 40 = .ok (.bipush 32, 2) := by decide +kernel
theorem dX10_standing_42 : decode cX10_standing 42 = .ok (.if_icmp .ge 16, 3) := by decide +kernel
theorem dX10_standing_45 : decode cX10_standing 45 = .ok (.aload_n 0, 1) := by decide +kernel
theorem dX10_standing_46 : decode cX10_standing 46 = .ok (.getfield 132, 3) := by decide +kernel
theorem dX10_standing_49 : decode cX10_standing 49 = .ok (.iload_n 3, 1) := by decide +kernel
theorem dX10_standing_50 : decode cX10_standing 50 = .ok (.iconst 0, 1) := by decide +kernel
theorem dX10_standing_51 : decode cX10_standing 51 = .ok (.iastore, 1) := by decide +kernel
theorem dX10_standing_52 : decode cX10_standing 52 = .ok (.iinc 3 1, 3) := by decide +kernel
theorem dX10_standing_55 : decode cX10_standing 55 = .ok (.goto (-16), 3) := by decide +kernel
theorem dX10_standing_58 : decode cX10_standing 58 = .ok (.iconst 0, 1) := by decide +kernel
theorem dX10_standing_59 : decode cX10_standing 59 = .ok (.istore_n 3, 1) := by decide +kernel
theorem dX10_standing_60 : decode cX10_standing 60 = .ok (.iload_n 3, 1) := by decide +kernel
theorem dX10_standing_61 : decode cX10_standing 61 = .ok (.iconst 4, 1) := by decide +kernel
theorem dX10_standing_62 : decode cX10_standing 62 = .ok (.if_icmp .ge 47, 3) := by decide +kernel
theorem dX10_standing_65 : decode cX10_standing 65 = .ok (.aload_n 0, 1) := by decide +kernel
theorem dX10_standing_66 : decode cX10_standing 66 = .ok (.iload_n 1, 1) := by decide +kernel
theorem dX10_standing_67 : decode cX10_standing 67 = .ok (.iload_n 3, 1) := by decide +kernel
theorem dX10_standing_68 : decode cX10_standing 68 = .ok (.invokevirtual 343, 3) := by decide +kernel
theorem dX10_standing_71 : decode cX10_standing 71 = .ok (.aload_n 0, 1) := by decide +kernel
theorem dX10_standing_72 : decode cX10_standing 72 = .ok (.invokevirtual 346, 3) := by decide +kernel
theorem dX10_standing_75 : decode cX10_standing 75 = .ok (.istore 4, 2) := by decide +kernel
theorem dX10_standing_77 : decode cX10_standing 77 = .ok (.aload_n 0, 1) := by decide +kernel
theorem dX10_standing_78 : decode cX10_standing 78 = .ok (.getfield 129, 3) := by decide +kernel
theorem dX10_standing_81 : decode cX10_standing 81 = .ok (.iload 4, 2) := by decide +kernel
theorem dX10_standing_83 : decode cX10_standing 83 = .ok (.iaload, 1) := by decide +kernel
theorem dX10_standing_84 : decode cX10_standing 84 = .ok (.ifCond .le 19, 3) := by decide +kernel
theorem dX10_standing_87 : decode cX10_standing 87 = .ok (.aload_n 0, 1) := by decide +kernel
theorem dX10_standing_88 : decode cX10_standing 88 = .ok (.getfield 132, 3) := by decide +kernel
theorem dX10_standing_91 : decode cX10_standing 91 = .ok (.iload 4, 2) := by decide +kernel
theorem dX10_standing_93 : decode cX10_standing 93 = .ok (.aload_n 0, 1) := by decide +kernel
theorem dX10_standing_94 : decode cX10_standing 94 = .ok (.getfield 132, 3) := by decide +kernel
theorem dX10_standing_97 : decode cX10_standing 97 = .ok (.iload 4, 2) := by decide +kernel
theorem dX10_standing_99 : decode cX10_standing 99 = .ok (.iaload, 1) := by decide +kernel
theorem dX10_standing_100 : decode cX10_standing 100 = .ok (.iconst 1, 1) := by decide +kernel
theorem dX10_standing_101 : decode cX10_standing 101 = .ok (.iadd, 1) := by decide +kernel
theorem dX10_standing_102 : decode cX10_standing 102 = .ok (.iastore, 1) := by decide +kernel
theorem dX10_standing_103 : decode cX10_standing 103 = .ok (.iinc 3 1, 3) := by decide +kernel
theorem dX10_standing_106 : decode cX10_standing 106 = .ok (.goto (-46), 3) := by decide +kernel
theorem dX10_standing_109 : decode cX10_standing 109 = .ok (.iconst 0, 1) := by decide +kernel
theorem dX10_standing_110 : decode cX10_standing 110 = .ok (.istore_n 3, 1) := by decide +kernel
theorem dX10_standing_111 : decode cX10_standing 111 = .ok (.iload_n 3, 1) := by decide +kernel
theorem dX10_standing_112 : decode cX10_standing 112 = .ok (.bipush 32, 2) := by decide +kernel
theorem dX10_standing_114 : decode cX10_standing 114 = .ok (.if_icmp .ge 21, 3) := by decide +kernel
theorem dX10_standing_117 : decode cX10_standing 117 = .ok (.aload_n 0, 1) := by decide +kernel
theorem dX10_standing_118 : decode cX10_standing 118 = .ok (.getfield 129, 3) := by decide +kernel
theorem dX10_standing_121 : decode cX10_standing 121 = .ok (.iload_n 3, 1) := by decide +kernel
theorem dX10_standing_122 : decode cX10_standing 122 = .ok (.aload_n 0, 1) := by decide +kernel
theorem dX10_standing_123 : decode cX10_standing 123 = .ok (.getfield 132, 3) := by decide +kernel
theorem dX10_standing_126 : decode cX10_standing 126 = .ok (.iload_n 3, 1) := by decide +kernel
theorem dX10_standing_127 : decode cX10_standing 127 = .ok (.iaload, 1) := by decide +kernel
theorem dX10_standing_128 : decode cX10_standing 128 = .ok (.iastore, 1) := by decide +kernel
theorem dX10_standing_129 : decode cX10_standing 129 = .ok (.iinc 3 1, 3) := by decide +kernel
theorem dX10_standing_132 : decode cX10_standing 132 = .ok (.goto (-21), 3) := by decide +kernel
theorem dX10_standing_135 : decode cX10_standing 135 = .ok (.aload_n 0, 1) := by decide +kernel
theorem dX10_standing_136 : decode cX10_standing 136 = .ok (.invokevirtual 346, 3) := by decide +kernel
theorem dX10_standing_139 : decode cX10_standing 139 = .ok (.istore_n 3, 1) := by decide +kernel
theorem dX10_standing_140 : decode cX10_standing 140 = .ok (.iload_n 2, 1) := by decide +kernel
theorem dX10_standing_141 : decode cX10_standing 141 = .ok (.iconst (-1), 1) := by decide +kernel
theorem dX10_standing_142 : decode cX10_standing 142 = .ok (.if_icmp .eq 22, 3) := by decide +kernel
theorem dX10_standing_145 : decode cX10_standing 145 = .ok (.aload_n 0, 1) := by decide +kernel
theorem dX10_standing_146 : decode cX10_standing 146 = .ok (.getfield 129, 3) := by decide +kernel
theorem dX10_standing_149 : decode cX10_standing 149 = .ok (.iload_n 2, 1) := by decide +kernel
theorem dX10_standing_150 : decode cX10_standing 150 = .ok (.iaload, 1) := by decide +kernel
theorem dX10_standing_151 : decode cX10_standing 151 = .ok (.aload_n 0, 1) := by decide +kernel
theorem dX10_standing_152 : decode cX10_standing 152 = .ok (.getfield 129, 3) := by decide +kernel
theorem dX10_standing_155 : decode cX10_standing 155 = .ok (.iload_n 3, 1) := by decide +kernel
theorem dX10_standing_156 : decode cX10_standing 156 = .ok (.iaload, 1) := by decide +kernel
theorem dX10_standing_157 : decode cX10_standing 157 = .ok (.if_icmp .ne 7, 3) := by decide +kernel
theorem dX10_standing_160 : decode cX10_standing 160 = .ok (.iload_n 2, 1) := by decide +kernel
theorem dX10_standing_161 : decode cX10_standing 161 = .ok (.goto 4, 3) := by decide +kernel
theorem dX10_standing_164 : decode cX10_standing 164 = .ok (.iload_n 3, 1) := by decide +kernel
theorem dX10_standing_165 : decode cX10_standing 165 = .ok (.ireturn, 1) := by decide +kernel
theorem dX10_says_0 : decode cX10_says 0 = .ok (.aload_n 0, 1) := by decide +kernel
theorem dX10_says_1 : decode cX10_says 1 = .ok (.iload_n 1, 1) := by decide +kernel
theorem dX10_says_2 : decode cX10_says 2 = .ok (.invokevirtual 349, 3) := by decide +kernel
theorem dX10_says_5 : decode cX10_says 5 = .ok (.istore_n 2, 1) := by decide +kernel
theorem dX10_says_6 : decode cX10_says 6 = .ok (.aload_n 0, 1) := by decide +kernel
theorem dX10_says_7 : decode cX10_says 7 = .ok (.getfield 51, 3) := by decide +kernel
theorem dX10_says_10 : decode cX10_says 10 = .ok (.sipush 200, 3) := by decide +kernel
theorem dX10_says_13 : decode cX10_says 13 = .ok (.iload_n 1, 1) := by decide +kernel
theorem dX10_says_14 : decode cX10_says 14 = .ok (.imul, 1) := by decide +kernel
theorem dX10_says_15 : decode cX10_says 15 = .ok (.aload_n 0, 1) := by decide +kernel
theorem dX10_says_16 : decode cX10_says 16 = .ok (.getfield 173, 3) := by decide +kernel
theorem dX10_says_19 : decode cX10_says 19 = .ok (.iadd, 1) := by decide +kernel
theorem dX10_says_20 : decode cX10_says 20 = .ok (.iload_n 2, 1) := by decide +kernel
theorem dX10_says_21 : decode cX10_says 21 = .ok (.iastore, 1) := by decide +kernel
theorem dX10_says_22 : decode cX10_says 22 = .ok (.aload_n 0, 1) := by decide +kernel
theorem dX10_says_23 : decode cX10_says 23 = .ok (.getfield 42, 3) := by decide +kernel
theorem dX10_says_26 : decode cX10_says 26 = .ok (.iload_n 1, 1) := by decide +kernel
theorem dX10_says_27 : decode cX10_says 27 = .ok (.iconst 0, 1) := by decide +kernel
theorem dX10_says_28 : decode cX10_says 28 = .ok (.iastore, 1) := by decide +kernel
theorem dX10_says_29 : decode cX10_says 29 = .ok (.aload_n 0, 1) := by decide +kernel
theorem dX10_says_30 : decode cX10_says 30 = .ok (.getfield 48, 3) := by decide +kernel
theorem dX10_says_33 : decode cX10_says 33 = .ok (.iload_n 1, 1) := by decide +kernel
theorem dX10_says_34 : decode cX10_says 34 = .ok (.aload_n 0, 1) := by decide +kernel
theorem dX10_says_35 : decode cX10_says 35 = .ok (.getfield 48, 3) := by decide +kernel
theorem dX10_says_38 : decode cX10_says 38 = .ok (.iload_n 1, 1) := by decide +kernel
theorem dX10_says_39 : decode cX10_says 39 = .ok (.iaload, 1) := by decide +kernel
theorem dX10_says_40 : decode cX10_says 40 = .ok (.iconst 1, 1) := by decide +kernel
theorem dX10_says_41 : decode cX10_says 41 = .ok (.iadd, 1) := by decide +kernel
theorem dX10_says_42 : decode cX10_says 42 = .ok (.iastore, 1) := by decide +kernel
theorem dX10_says_43 : decode cX10_says 43 = .ok (.iconst 0, 1) := by decide +kernel
theorem dX10_says_44 : decode cX10_says 44 = .ok (.istore_n 3, 1) := by decide +kernel
theorem dX10_says_45 : decode cX10_says 45 = .ok (.iload_n 3, 1) := by decide +kernel
theorem dX10_says_46 : decode cX10_says 46 = .ok (.aload_n 0, 1) := by decide +kernel
theorem dX10_says_47 : decode cX10_says 47 = .ok (.getfield 162, 3) := by decide +kernel
theorem dX10_says_50 : decode cX10_says 50 = .ok (.if_icmp .ge 148, 3) := by decide +kernel
theorem dX10_says_53 : decode cX10_says 53 = .ok (.bipush 24, 2) := by decide +kernel
theorem dX10_says_55 : decode cX10_says 55 = .ok (.iload_n 3, 1) := by decide +kernel
theorem dX10_says_56 : decode cX10_says 56 = .ok (.imul, 1) := by decide +kernel
theorem dX10_says_57 : decode cX10_says 57 = .ok (.iload_n 1, 1) := by decide +kernel
theorem dX10_says_58 : decode cX10_says 58 = .ok (.iadd, 1) := by decide +kernel
theorem dX10_says_59 : decode cX10_says 59 = .ok (.istore 4, 2) := by decide +kernel
theorem dX10_says_61 : decode cX10_says 61 = .ok (.aload_n 0, 1) := by decide +kernel
theorem dX10_says_62 : decode cX10_says 62 = .ok (.iload_n 3, 1) := by decide +kernel
theorem dX10_says_63 : decode cX10_says 63 = .ok (.iload_n 1, 1) := by decide +kernel
theorem dX10_says_64 : decode cX10_says 64 = .ok (.invokevirtual 337, 3) := by decide +kernel
theorem dX10_says_67 : decode cX10_says 67 = .ok (.ifCond .eq 84, 3) := by decide +kernel
theorem dX10_says_70 : decode cX10_says 70 = .ok (.aload_n 0, 1) := by decide +kernel
theorem dX10_says_71 : decode cX10_says 71 = .ok (.getfield 54, 3) := by decide +kernel
theorem dX10_says_74 : decode cX10_says 74 = .ok (.iload 4, 2) := by decide +kernel
theorem dX10_says_76 : decode cX10_says 76 = .ok (.aload_n 0, 1) := by decide +kernel
theorem dX10_says_77 : decode cX10_says 77 = .ok (.getfield 54, 3) := by decide +kernel
theorem dX10_says_80 : decode cX10_says 80 = .ok (.iload 4, 2) := by decide +kernel
theorem dX10_says_82 : decode cX10_says 82 = .ok (.iaload, 1) := by decide +kernel
theorem dX10_says_83 : decode cX10_says 83 = .ok (.bipush 6, 2) := by decide +kernel
theorem dX10_says_85 : decode cX10_says 85 = .ok (.if_icmp .le 8, 3) := by decide +kernel
theorem dX10_says_88 : decode cX10_says 88 = .ok (.bipush 9, 2) := by decide +kernel
theorem dX10_says_90 : decode cX10_says 90 = .ok (.goto 12, 3) := by decide +kernel
theorem dX10_says_93 : decode cX10_says 93 = .ok (.aload_n 0, 1) := by decide +kernel
theorem dX10_says_94 : decode cX10_says 94 = .ok (.getfield 54, 3) := by decide +kernel
theorem dX10_says_97 : decode cX10_says 97 = .ok (.iload 4, 2) := by decide +kernel
theorem dX10_says_99 : decode cX10_says 99 = .ok (.iaload, 1) := by decide +kernel
theorem dX10_says_100 : decode cX10_says 100 = .ok (.iconst 3, 1) := by decide +kernel
theorem dX10_says_101 : decode cX10_says 101 = .ok (.iadd, 1) := by decide +kernel
theorem dX10_says_102 : decode cX10_says 102 = .ok (.iastore, 1) := by decide +kernel
theorem dX10_says_103 : decode cX10_says 103 = .ok (.aload_n 0, 1) := by decide +kernel
theorem dX10_says_104 : decode cX10_says 104 = .ok (.getfield 57, 3) := by decide +kernel
theorem dX10_says_107 : decode cX10_says 107 = .ok (.iload 4, 2) := by decide +kernel
theorem dX10_says_109 : decode cX10_says 109 = .ok (.iaload, 1) := by decide +kernel
theorem dX10_says_110 : decode cX10_says 110 = .ok (.iload_n 2, 1) := by decide +kernel
theorem dX10_says_111 : decode cX10_says 111 = .ok (.if_icmp .eq 81, 3) := by decide +kernel
theorem dX10_says_114 : decode cX10_says 114 = .ok (.aload_n 0, 1) := by decide +kernel
theorem dX10_says_115 : decode cX10_says 115 = .ok (.getfield 29, 3) := by decide +kernel
theorem dX10_says_118 : decode cX10_says 118 = .ok (.aload_n 0, 1) := by decide +kernel
theorem dX10_says_119 : decode cX10_says 119 = .ok (.getfield 13, 3) := by decide +kernel
theorem dX10_says_122 : decode cX10_says 122 = .ok (.iload_n 3, 1) := by decide +kernel
theorem dX10_says_123 : decode cX10_says 123 = .ok (.iaload, 1) := by decide +kernel
theorem dX10_says_124 : decode cX10_says 124 = .ok (.baload, 1) := by decide +kernel
theorem dX10_says_125 : decode cX10_says 125 = .ok (.ifCond .eq 6, 3) := by decide +kernel
theorem dX10_says_128 : decode cX10_says 128 = .ok (.goto 64, 3) := by decide +kernel
theorem dX10_says_131 : decode cX10_says 131 = .ok (.aload_n 0, 1) := by decide +kernel
theorem dX10_says_132 : decode cX10_says 132 = .ok (.getfield 57, 3) := by decide +kernel
theorem dX10_says_135 : decode cX10_says 135 = .ok (.iload 4, 2) := by decide +kernel
theorem dX10_says_137 : decode cX10_says 137 = .ok (.iload_n 2, 1) := by decide +kernel
theorem dX10_says_138 : decode cX10_says 138 = .ok (.iastore, 1) := by decide +kernel
theorem dX10_says_139 : decode cX10_says 139 = .ok (.aload_n 0, 1) := by decide +kernel
theorem dX10_says_140 : decode cX10_says 140 = .ok (.getfield 60, 3) := by decide +kernel
theorem dX10_says_143 : decode cX10_says 143 = .ok (.iload 4, 2) := by decide +kernel
theorem dX10_says_145 : decode cX10_says 145 = .ok (.bipush 100, 2) := by decide +kernel
theorem dX10_says_147 : decode cX10_says 147 = .ok (.iastore, 1) := by decide +kernel
theorem dX10_says_148 : decode cX10_says 148 = .ok (.goto 44, 3) := by decide +kernel
theorem dX10_says_151 : decode cX10_says 151 = .ok (.aload_n 0, 1) := by decide +kernel
theorem dX10_says_152 : decode cX10_says 152 = .ok (.getfield 126, 3) := by decide +kernel
theorem dX10_says_155 : decode cX10_says 155 = .ok (.iload_n 3, 1) := by decide +kernel
theorem dX10_says_156 : decode cX10_says 156 = .ok (.baload, 1) := by decide +kernel
theorem dX10_says_157 : decode cX10_says 157 = .ok (.ifCond .eq 35, 3) := by decide +kernel
theorem dX10_says_160 : decode cX10_says 160 = .ok (.aload_n 0, 1) := by decide +kernel
theorem dX10_says_161 : decode cX10_says 161 = .ok (.aload_n 0, 1) := by decide +kernel
theorem dX10_says_162 : decode cX10_says 162 = .ok (.getfield 173, 3) := by decide +kernel
theorem dX10_says_165 : decode cX10_says 165 = .ok (.aload_n 0, 1) := by decide +kernel
theorem dX10_says_166 : decode cX10_says 166 = .ok (.getfield 16, 3) := by decide +kernel
theorem dX10_says_169 : decode cX10_says 169 = .ok (.iload_n 3, 1) := by decide +kernel
theorem dX10_says_170 : decode cX10_says 170 = .ok (.iaload, 1) := by decide +kernel
theorem dX10_says_171 : decode cX10_says 171 = .ok (.isub, 1) := by decide +kernel
theorem dX10_says_172 : decode cX10_says 172 = .ok (.bipush 12, 2) := by decide +kernel
theorem dX10_says_174 : decode cX10_says 174 = .ok (.bipush 40, 2) := by decide +kernel
theorem dX10_says_176 : decode cX10_says 176 = .ok (.invokevirtual 169, 3) := by decide +kernel
theorem dX10_says_179 : decode cX10_says 179 = .ok (.ifCond .eq 13, 3) := by decide +kernel
theorem dX10_says_182 : decode cX10_says 182 = .ok (.aload_n 0, 1) := by decide +kernel
theorem dX10_says_183 : decode cX10_says 183 = .ok (.iload_n 3, 1) := by decide +kernel
theorem dX10_says_184 : decode cX10_says 184 = .ok (.iload_n 1, 1) := by decide +kernel
theorem dX10_says_185 : decode cX10_says 185 = .ok (.iload_n 2, 1) := by decide +kernel
theorem dX10_says_186 : decode cX10_says 186 = .ok (.iconst 3, 1) := by decide +kernel
theorem dX10_says_187 : decode cX10_says 187 = .ok (.bipush 100, 2) := by decide +kernel
theorem dX10_says_189 : decode cX10_says 189 = .ok (.invokevirtual 194, 3) := by decide +kernel
theorem dX10_says_192 : decode cX10_says 192 = .ok (.iinc 3 1, 3) := by decide +kernel
theorem dX10_says_195 : decode cX10_says 195 = .ok (.goto (-150), 3) := by decide +kernel
theorem dX10_says_198 : decode cX10_says 198 = .ok (.return_, 1) := by decide +kernel
theorem dX10_tries_0 : decode cX10_tries 0 = .ok (.iconst 0, 1) := by decide +kernel
theorem dX10_tries_1 : decode cX10_tries 1 = .ok (.istore_n 2, 1) := by decide +kernel
theorem dX10_tries_2 : decode cX10_tries 2 = .ok (.iload_n 2, 1) := by decide +kernel
theorem dX10_tries_3 : decode cX10_tries 3 = .ok (.aload_n 0, 1) := by decide +kernel
theorem dX10_tries_4 : decode cX10_tries 4 = .ok (.getfield 162, 3) := by decide +kernel
theorem dX10_tries_7 : decode cX10_tries 7 = .ok (.if_icmp .ge 27, 3) := by decide +kernel
theorem dX10_tries_10 : decode cX10_tries 10 = .ok (.aload_n 0, 1) := by decide +kernel
theorem dX10_tries_11 : decode cX10_tries 11 = .ok (.iload_n 2, 1) := by decide +kernel
theorem dX10_tries_12 : decode cX10_tries 12 = .ok (.iload_n 1, 1) := by decide +kernel
theorem dX10_tries_13 : decode cX10_tries 13 = .ok (.invokevirtual 337, 3) := by decide +kernel
theorem dX10_tries_16 : decode cX10_tries 16 = .ok (.ifCond .ne 6, 3) := by decide +kernel
theorem dX10_tries_19 : decode cX10_tries 19 = .ok (.goto 9, 3) := by decide +kernel
theorem dX10_tries_22 : decode cX10_tries 22 = .ok (.aload_n 0, 1) := by decide +kernel
theorem dX10_tries_23 : decode cX10_tries 23 = .ok (.iload_n 1, 1) := by decide +kernel
theorem dX10_tries_24 : decode cX10_tries 24 = .ok (.invokevirtual 352, 3) := by decide +kernel
theorem dX10_tries_27 : decode cX10_tries 27 = .ok (.return_, 1) := by decide +kernel
theorem dX10_tries_28 : decode cX10_tries 28 = .ok (.iinc 2 1, 3) := by decide +kernel
theorem dX10_tries_31 : decode cX10_tries 31 = .ok (.goto (-29), 3) := by decide +kernel
theorem dX10_tries_34 : decode cX10_tries 34 = .ok (.aload_n 0, 1) := by decide +kernel
theorem dX10_tries_35 : decode cX10_tries 35 = .ok (.getfield 51, 3) := by decide +kernel
theorem dX10_tries_38 : decode cX10_tries 38 = .ok (.sipush 200, 3) := by decide +kernel
theorem dX10_tries_41 : decode cX10_tries 41 = .ok (.iload_n 1, 1) := by decide +kernel
theorem dX10_tries_42 : decode cX10_tries 42 = .ok (.imul, 1) := by decide +kernel
theorem dX10_tries_43 : decode cX10_tries 43 = .ok (.aload_n 0, 1) := by decide +kernel
theorem dX10_tries_44 : decode cX10_tries 44 = .ok (.getfield 173, 3) := by decide +kernel
theorem dX10_tries_47 : decode cX10_tries 47 = .ok (.iadd, 1) := by decide +kernel
theorem dX10_tries_48 : decode cX10_tries 48 = .ok (.iconst (-1), 1) := by decide +kernel
theorem dX10_tries_49 : decode cX10_tries 49 = .ok (.iastore, 1) := by decide +kernel
theorem dX10_tries_50 : decode cX10_tries 50 = .ok (.aload_n 0, 1) := by decide +kernel
theorem dX10_tries_51 : decode cX10_tries 51 = .ok (.getfield 42, 3) := by decide +kernel
theorem dX10_tries_54 : decode cX10_tries 54 = .ok (.iload_n 1, 1) := by decide +kernel
theorem dX10_tries_55 : decode cX10_tries 55 = .ok (.aload_n 0, 1) := by decide +kernel
theorem dX10_tries_56 : decode cX10_tries 56 = .ok (.getfield 42, 3) := by decide +kernel
theorem dX10_tries_59 : decode cX10_tries 59 = .ok (.iload_n 1, 1) := by decide +kernel
theorem dX10_tries_60 : decode cX10_tries 60 = .ok (.iaload, 1) := by decide +kernel
theorem dX10_tries_61 : decode cX10_tries 61 = .ok (.iconst 1, 1) := by decide +kernel
theorem dX10_tries_62 : decode cX10_tries 62 = .ok (.iadd, 1) := by decide +kernel
theorem dX10_tries_63 : decode cX10_tries 63 = .ok (.iastore, 1) := by decide +kernel
theorem dX10_tries_64 : decode cX10_tries 64 = .ok (.aload_n 0, 1) := by decide +kernel
theorem dX10_tries_65 : decode cX10_tries 65 = .ok (.getfield 42, 3) := by decide +kernel
theorem dX10_tries_68 : decode cX10_tries 68 = .ok (.iload_n 1, 1) := by decide +kernel
theorem dX10_tries_69 : decode cX10_tries 69 = .ok (.iaload, 1) := by decide +kernel
theorem dX10_tries_70 : decode cX10_tries 70 = .ok (.iconst 3, 1) := by decide +kernel
theorem dX10_tries_71 : decode cX10_tries 71 = .ok (.if_icmp .ne 13, 3) := by decide +kernel
theorem dX10_tries_74 : decode cX10_tries 74 = .ok (.aload_n 0, 1) := by decide +kernel
theorem dX10_tries_75 : decode cX10_tries 75 = .ok (.getfield 45, 3) := by decide +kernel
theorem dX10_tries_78 : decode cX10_tries 78 = .ok (.iload_n 1, 1) := by decide +kernel
theorem dX10_tries_79 : decode cX10_tries 79 = .ok (.aload_n 0, 1) := by decide +kernel
theorem dX10_tries_80 : decode cX10_tries 80 = .ok (.getfield 173, 3) := by decide +kernel
theorem dX10_tries_83 : decode cX10_tries 83 = .ok (.iastore, 1) := by decide +kernel
theorem dX10_tries_84 : decode cX10_tries 84 = .ok (.return_, 1) := by decide +kernel
theorem dX10_fades_0 : decode cX10_fades 0 = .ok (.aload_n 0, 1) := by decide +kernel
theorem dX10_fades_1 : decode cX10_fades 1 = .ok (.getfield 51, 3) := by decide +kernel
theorem dX10_fades_4 : decode cX10_fades 4 = .ok (.sipush 200, 3) := by decide +kernel
theorem dX10_fades_7 : decode cX10_fades 7 = .ok (.iload_n 1, 1) := by decide +kernel
theorem dX10_fades_8 : decode cX10_fades 8 = .ok (.imul, 1) := by decide +kernel
theorem dX10_fades_9 : decode cX10_fades 9 = .ok (.aload_n 0, 1) := by decide +kernel
theorem dX10_fades_10 : decode cX10_fades 10 = .ok (.getfield 173, 3) := by decide +kernel
theorem dX10_fades_13 : decode cX10_fades 13 = .ok (.iadd, 1) := by decide +kernel
theorem dX10_fades_14 : decode cX10_fades 14 = .ok (.iaload, 1) := by decide +kernel
theorem dX10_fades_15 : decode cX10_fades 15 = .ok (.ifCond .ge 22, 3) := by decide +kernel
theorem dX10_fades_18 : decode cX10_fades 18 = .ok (.aload_n 0, 1) := by decide +kernel
theorem dX10_fades_19 : decode cX10_fades 19 = .ok (.getfield 39, 3) := by decide +kernel
theorem dX10_fades_22 : decode cX10_fades 22 = .ok (.iload_n 1, 1) := by decide +kernel
theorem dX10_fades_23 : decode cX10_fades 23 = .ok (.baload, 1) := by decide +kernel
theorem dX10_fades_24 : decode cX10_fades 24 = .ok (.ifCond .eq 14, 3) := by decide +kernel
theorem dX10_fades_27 : decode cX10_fades 27 = .ok (.aload_n 0, 1) := by decide +kernel
theorem dX10_fades_28 : decode cX10_fades 28 = .ok (.getfield 173, 3) := by decide +kernel
theorem dX10_fades_31 : decode cX10_fades 31 = .ok (.iconst 3, 1) := by decide +kernel
theorem dX10_fades_32 : decode cX10_fades 32 = .ok (.irem, 1) := by decide +kernel
theorem dX10_fades_33 : decode cX10_fades 33 = .ok (.iconst 2, 1) := by decide +kernel
theorem dX10_fades_34 : decode cX10_fades 34 = .ok (.if_icmp .eq 4, 3) := by decide +kernel
theorem dX10_fades_37 : decode cX10_fades 37 = .ok (.return_, 1) := by decide +kernel
theorem dX10_fades_38 : decode cX10_fades 38 = .ok (.iconst 0, 1) := by decide +kernel
theorem dX10_fades_39 : decode cX10_fades 39 = .ok (.istore_n 2, 1) := by decide +kernel
theorem dX10_fades_40 : decode cX10_fades 40 = .ok (.iload_n 2, 1) := by decide +kernel
theorem dX10_fades_41 : decode cX10_fades 41 = .ok (.aload_n 0, 1) := by decide +kernel
theorem dX10_fades_42 : decode cX10_fades 42 = .ok (.getfield 162, 3) := by decide +kernel
theorem dX10_fades_45 : decode cX10_fades 45 = .ok (.if_icmp .ge 47, 3) := by decide +kernel
theorem dX10_fades_48 : decode cX10_fades 48 = .ok (.bipush 24, 2) := by decide +kernel
theorem dX10_fades_50 : decode cX10_fades 50 = .ok (.iload_n 2, 1) := by decide +kernel
theorem dX10_fades_51 : decode cX10_fades 51 = .ok (.imul, 1) := by decide +kernel
theorem dX10_fades_52 : decode cX10_fades 52 = .ok (.iload_n 1, 1) := by decide +kernel
theorem dX10_fades_53 : decode cX10_fades 53 = .ok (.iadd, 1) := by decide +kernel
theorem dX10_fades_54 : decode cX10_fades 54 = .ok (.istore_n 3, 1) := by decide +kernel
theorem dX10_fades_55 : decode cX10_fades 55 = .ok (.aload_n 0, 1) := by decide +kernel
theorem dX10_fades_56 : decode cX10_fades 56 = .ok (.iload_n 2, 1) := by decide +kernel
theorem dX10_fades_57 : decode cX10_fades 57 = .ok (.invokevirtual 176, 3) := by decide +kernel
theorem dX10_fades_60 : decode cX10_fades 60 = .ok (.ifCond .eq 26, 3) := by decide +kernel
theorem dX10_fades_63 : decode cX10_fades 63 = .ok (.aload_n 0, 1) := by decide +kernel
theorem dX10_fades_64 : decode cX10_fades 64 = .ok (.getfield 54, 3) := by decide +kernel
theorem dX10_fades_67 : decode cX10_fades 67 = .ok (.iload_n 3, 1) := by decide +kernel
theorem dX10_fades_68 : decode cX10_fades 68 = .ok (.iaload, 1) := by decide +kernel
theorem dX10_fades_69 : decode cX10_fades 69 = .ok (.ifCond .le 17, 3) := by decide +kernel
theorem dX10_fades_72 : decode cX10_fades 72 = .ok (.aload_n 0, 1) := by decide +kernel
theorem dX10_fades_73 : decode cX10_fades 73 = .ok (.getfield 54, 3) := by decide +kernel
theorem dX10_fades_76 : decode cX10_fades 76 = .ok (.iload_n 3, 1) := by decide +kernel
theorem dX10_fades_77 : decode cX10_fades 77 = .ok (.aload_n 0, 1) := by decide +kernel
theorem dX10_fades_78 : decode cX10_fades 78 = .ok (.getfield 54, 3) := by decide +kernel
theorem dX10_fades_81 : decode cX10_fades 81 = .ok (.iload_n 3, 1) := by decide +kernel
theorem dX10_fades_82 : decode cX10_fades 82 = .ok (.iaload, 1) := by decide +kernel
theorem dX10_fades_83 : decode cX10_fades 83 = .ok (.iconst 1, 1) := by decide +kernel
theorem dX10_fades_84 : decode cX10_fades 84 = .ok (.isub, 1) := by decide +kernel
theorem dX10_fades_85 : decode cX10_fades 85 = .ok (.iastore, 1) := by decide +kernel
theorem dX10_fades_86 : decode cX10_fades 86 = .ok (.iinc 2 1, 3) := by decide +kernel
theorem dX10_fades_89 : decode cX10_fades 89 = .ok (.goto (-49), 3) := by decide +kernel
theorem dX10_fades_92 : decode cX10_fades 92 = .ok (.return_, 1) := by decide +kernel
theorem dX10_goes_0 : decode cX10_goes 0 = .ok (.aload_n 0, 1) := by decide +kernel
theorem dX10_goes_1 : decode cX10_goes 1 = .ok (.invokevirtual 355, 3) := by decide +kernel
theorem dX10_goes_4 : decode cX10_goes 4 = .ok (.iconst 0, 1) := by decide +kernel
theorem dX10_goes_5 : decode cX10_goes 5 = .ok (.istore_n 1, 1) := by decide +kernel
theorem dX10_goes_6 : decode cX10_goes 6 = .ok (.iload_n 1, 1) := by decide +kernel
theorem dX10_goes_7 : decode cX10_goes 7 = .ok (.aload_n 0, 1) := by decide +kernel
theorem dX10_goes_8 : decode cX10_goes 8 = .ok (.getfield 185, 3) := by decide +kernel
theorem dX10_goes_11 : decode cX10_goes 11 = .ok (.if_icmp .ge 39, 3) := by decide +kernel
theorem dX10_goes_14 : decode cX10_goes 14 = .ok (.aload_n 0, 1) := by decide +kernel
theorem dX10_goes_15 : decode cX10_goes 15 = .ok (.getfield 45, 3) := by decide +kernel
theorem dX10_goes_18 : decode cX10_goes 18 = .ok (.iload_n 1, 1) := by decide +kernel
theorem dX10_goes_19 : decode cX10_goes 19 = .ok (.iaload, 1) := by decide +kernel
theorem dX10_goes_20 : decode cX10_goes 20 = .ok (.iconst (-1), 1) := by decide +kernel
theorem dX10_goes_21 : decode cX10_goes 21 = .ok (.if_icmp .ne 23, 3) := by decide +kernel
theorem dX10_goes_24 : decode cX10_goes 24 = .ok (.aload_n 0, 1) := by decide +kernel
theorem dX10_goes_25 : decode cX10_goes 25 = .ok (.getfield 36, 3) := by decide +kernel
theorem dX10_goes_28 : decode cX10_goes 28 = .ok (.iload_n 1, 1) := by decide +kernel
theorem dX10_goes_29 : decode cX10_goes 29 = .ok (.iaload, 1) := by decide +kernel
theorem dX10_goes_30 : decode cX10_goes 30 = .ok (.aload_n 0, 1) := by decide +kernel
theorem dX10_goes_31 : decode cX10_goes 31 = .ok (.getfield 173, 3) := by decide +kernel
theorem dX10_goes_34 : decode cX10_goes 34 = .ok (.iconst 3, 1) := by decide +kernel
theorem dX10_goes_35 : decode cX10_goes 35 = .ok (.irem, 1) := by decide +kernel
theorem dX10_goes_36 : decode cX10_goes 36 = .ok (.if_icmp .ne 8, 3) := by decide +kernel
theorem dX10_goes_39 : decode cX10_goes 39 = .ok (.aload_n 0, 1) := by decide +kernel
theorem dX10_goes_40 : decode cX10_goes 40 = .ok (.iload_n 1, 1) := by decide +kernel
theorem dX10_goes_41 : decode cX10_goes 41 = .ok (.invokevirtual 358, 3) := by decide +kernel
theorem dX10_goes_44 : decode cX10_goes 44 = .ok (.iinc 1 1, 3) := by decide +kernel
theorem dX10_goes_47 : decode cX10_goes 47 = .ok (.goto (-41), 3) := by decide +kernel
theorem dX10_goes_50 : decode cX10_goes 50 = .ok (.iconst 0, 1) := by decide +kernel
theorem dX10_goes_51 : decode cX10_goes 51 = .ok (.istore_n 1, 1) := by decide +kernel
theorem dX10_goes_52 : decode cX10_goes 52 = .ok (.iload_n 1, 1) := by decide +kernel
theorem dX10_goes_53 : decode cX10_goes 53 = .ok (.aload_n 0, 1) := by decide +kernel
theorem dX10_goes_54 : decode cX10_goes 54 = .ok (.getfield 185, 3) := by decide +kernel
theorem dX10_goes_57 : decode cX10_goes 57 = .ok (.if_icmp .ge 14, 3) := by decide +kernel
theorem dX10_goes_60 : decode cX10_goes 60 = .ok (.aload_n 0, 1) := by decide +kernel
theorem dX10_goes_61 : decode cX10_goes 61 = .ok (.iload_n 1, 1) := by decide +kernel
theorem dX10_goes_62 : decode cX10_goes 62 = .ok (.invokevirtual 361, 3) := by decide +kernel
theorem dX10_goes_65 : decode cX10_goes 65 = .ok (.iinc 1 1, 3) := by decide +kernel
theorem dX10_goes_68 : decode cX10_goes 68 = .ok (.goto (-16), 3) := by decide +kernel
theorem dX10_goes_71 : decode cX10_goes 71 = .ok (.iconst 0, 1) := by decide +kernel
theorem dX10_goes_72 : decode cX10_goes 72 = .ok (.istore_n 1, 1) := by decide +kernel
theorem dX10_goes_73 : decode cX10_goes 73 = .ok (.iload_n 1, 1) := by decide +kernel
theorem dX10_goes_74 : decode cX10_goes 74 = .ok (.aload_n 0, 1) := by decide +kernel
theorem dX10_goes_75 : decode cX10_goes 75 = .ok (.getfield 162, 3) := by decide +kernel
theorem dX10_goes_78 : decode cX10_goes 78 = .ok (.if_icmp .ge 16, 3) := by decide +kernel
theorem dX10_goes_81 : decode cX10_goes 81 = .ok (.aload_n 0, 1) := by decide +kernel
theorem dX10_goes_82 : decode cX10_goes 82 = .ok (.getfield 22, 3) := by decide +kernel
theorem dX10_goes_85 : decode cX10_goes 85 = .ok (.iload_n 1, 1) := by decide +kernel
theorem dX10_goes_86 : decode cX10_goes 86 = .ok (.iconst 0, 1) := by decide +kernel
theorem dX10_goes_87 : decode cX10_goes 87 = .ok (.bastore, 1) := by decide +kernel
theorem dX10_goes_88 : decode cX10_goes 88 = .ok (.iinc 1 1, 3) := by decide +kernel
theorem dX10_goes_91 : decode cX10_goes 91 = .ok (.goto (-18), 3) := by decide +kernel
theorem dX10_goes_94 : decode cX10_goes 94 = .ok (.aload_n 0, 1) := by decide +kernel
theorem dX10_goes_95 : decode cX10_goes 95 = .ok (.aload_n 0, 1) := by decide +kernel
theorem dX10_goes_96 : decode cX10_goes 96 = .ok (.getfield 173, 3) := by decide +kernel
theorem dX10_goes_99 : decode cX10_goes 99 = .ok (.iconst 1, 1) := by decide +kernel
theorem dX10_goes_100 : decode cX10_goes 100 = .ok (.iadd, 1) := by decide +kernel
theorem dX10_goes_101 : decode cX10_goes 101 = .ok (.putfield 173, 3) := by decide +kernel
theorem dX10_goes_104 : decode cX10_goes 104 = .ok (.return_, 1) := by decide +kernel
theorem dX10_summers_0 : decode cX10_summers 0 = .ok (.aload_n 0, 1) := by decide +kernel
theorem dX10_summers_1 : decode cX10_summers 1 = .ok (.iconst 0, 1) := by decide +kernel
theorem dX10_summers_2 : decode cX10_summers 2 = .ok (.putfield 159, 3) := by decide +kernel
theorem dX10_summers_5 : decode cX10_summers 5 = .ok (.aload_n 0, 1) := by decide +kernel
theorem dX10_summers_6 : decode cX10_summers 6 = .ok (.iload_n 1, 1) := by decide +kernel
theorem dX10_summers_7 : decode cX10_summers 7 = .ok (.iconst 1, 1) := by decide +kernel
theorem dX10_summers_8 : decode cX10_summers 8 = .ok (.bipush 20, 2) := by decide +kernel
theorem dX10_summers_10 : decode cX10_summers 10 = .ok (.invokevirtual 169, 3) := by decide +kernel
theorem dX10_summers_13 : decode cX10_summers 13 = .ok (.ifCond .eq 15, 3) := by decide +kernel
theorem dX10_summers_16 : decode cX10_summers 16 = .ok (.aload_n 0, 1) := by decide +kernel
theorem dX10_summers_17 : decode cX10_summers 17 = .ok (.getfield 173, 3) := by decide +kernel
theorem dX10_summers_20 : decode cX10_summers 20 = .ok (.iload_n 1, 1) := by decide +kernel
theorem dX10_summers_21 : decode cX10_summers 21 = .ok (.iadd, 1) := by decide +kernel
theorem dX10_summers_22 : decode cX10_summers 22 = .ok (.sipush 200, 3) := by decide +kernel
theorem dX10_summers_25 : decode cX10_summers 25 = .ok (.if_icmp .lt 5, 3) := by decide +kernel
theorem dX10_summers_28 : decode cX10_summers 28 = .ok (.iconst (-1), 1) := by decide +kernel
theorem dX10_summers_29 : decode cX10_summers 29 = .ok (.ireturn, 1) := by decide +kernel
theorem dX10_summers_30 : decode cX10_summers 30 = .ok (.iconst 0, 1) := by decide +kernel
theorem dX10_summers_31 : decode cX10_summers 31 = .ok (.istore_n 2, 1) := by decide +kernel
theorem dX10_summers_32 : decode cX10_summers 32 = .ok (.iload_n 2, 1) := by decide +kernel
theorem dX10_summers_33 : decode cX10_summers 33 = .ok (.iload_n 1, 1) := by decide +kernel
theorem dX10_summers_34 : decode cX10_summers 34 = .ok (.if_icmp .ge 13, 3) := by decide +kernel
theorem dX10_summers_37 : decode cX10_summers 37 = .ok (.aload_n 0, 1) := by decide +kernel
theorem dX10_summers_38 : decode cX10_summers 38 = .ok (.invokevirtual 364, 3) := by decide +kernel
theorem dX10_summers_41 : decode cX10_summers 41 = .ok (.iinc 2 1, 3) := by decide +kernel
theorem dX10_summers_44 : decode cX10_summers 44 = .ok (.goto (-12), 3) := by decide +kernel
theorem dX10_summers_47 : decode cX10_summers 47 = .ok (.aload_n 0, 1) := by decide +kernel
theorem dX10_summers_48 : decode cX10_summers 48 = .ok (.getfield 173, 3) := by decide +kernel
theorem dX10_summers_51 : decode cX10_summers 51 = .ok (.ireturn, 1) := by decide +kernel
theorem dX10_least_0 : decode cX10_least 0 = .ok (.iload_n 1, 1) := by decide +kernel
theorem dX10_least_1 : decode cX10_least 1 = .ok (.iload_n 2, 1) := by decide +kernel
theorem dX10_least_2 : decode cX10_least 2 = .ok (.if_icmp .ge 7, 3) := by decide +kernel
theorem dX10_least_5 : decode cX10_least 5 = .ok (.iload_n 1, 1) := by decide +kernel
theorem dX10_least_6 : decode cX10_least 6 = .ok (.goto 4, 3) := by decide +kernel
theorem dX10_least_9 : decode cX10_least 9 = .ok (.iload_n 2, 1) := by decide +kernel
theorem dX10_least_10 : decode cX10_least 10 = .ok (.ireturn, 1) := by decide +kernel
theorem dX10_farBetween_0 : decode cX10_farBetween 0 = .ok (.aload_n 0, 1) := by decide +kernel
theorem dX10_farBetween_1 : decode cX10_farBetween 1 = .ok (.getfield 141, 3) := by decide +kernel
theorem dX10_farBetween_4 : decode cX10_farBetween 4 = .ok (.bipush 32, 2) := by decide +kernel
theorem dX10_farBetween_6 : decode cX10_farBetween 6 = .ok (.iload_n 1, 1) := by decide +kernel
theorem dX10_farBetween_7 : decode cX10_farBetween 7 = .ok (.imul, 1) := by decide +kernel
theorem dX10_farBetween_8 : decode cX10_farBetween 8 = .ok (.iload_n 2, 1) := by decide +kernel
theorem dX10_farBetween_9 : decode cX10_farBetween 9 = .ok (.iadd, 1) := by decide +kernel
theorem dX10_farBetween_10 : decode cX10_farBetween 10 = .ok (.iaload, 1) := by decide +kernel
theorem dX10_farBetween_11 : decode cX10_farBetween 11 = .ok (.ifCond .le 17, 3) := by decide +kernel
theorem dX10_farBetween_14 : decode cX10_farBetween 14 = .ok (.aload_n 0, 1) := by decide +kernel
theorem dX10_farBetween_15 : decode cX10_farBetween 15 = .ok (.getfield 141, 3) := by decide +kernel
theorem dX10_farBetween_18 : decode cX10_farBetween 18 = .ok (.bipush 32, 2) := by decide +kernel
theorem dX10_farBetween_20 : decode cX10_farBetween 20 = .ok (.iload_n 1, 1) := by decide +kernel
theorem dX10_farBetween_21 : decode cX10_farBetween 21 = .ok (.imul, 1) := by decide +kernel
theorem dX10_farBetween_22 : decode cX10_farBetween 22 = .ok (.iload_n 2, 1) := by decide +kernel
theorem dX10_farBetween_23 : decode cX10_farBetween 23 = .ok (.iadd, 1) := by decide +kernel
theorem dX10_farBetween_24 : decode cX10_farBetween 24 = .ok (.iaload, 1) := by decide +kernel
theorem dX10_farBetween_25 : decode cX10_farBetween 25 = .ok (.iconst 1, 1) := by decide +kernel
theorem dX10_farBetween_26 : decode cX10_farBetween 26 = .ok (.isub, 1) := by decide +kernel
theorem dX10_farBetween_27 : decode cX10_farBetween 27 = .ok (.ireturn, 1) := by decide +kernel
theorem dX10_farBetween_28 : decode cX10_farBetween 28 = .ok (.iconst 0, 1) := by decide +kernel
theorem dX10_farBetween_29 : decode cX10_farBetween 29 = .ok (.istore_n 3, 1) := by decide +kernel
theorem dX10_farBetween_30 : decode cX10_farBetween 30 = .ok (.iload_n 3, 1) := by decide +kernel
theorem dX10_farBetween_31 : decode cX10_farBetween 31 = .ok (.aload_n 0, 1) := by decide +kernel
theorem dX10_farBetween_32 : decode cX10_farBetween 32 = .ok (.getfield 72, 3) := by decide +kernel
theorem dX10_farBetween_35 : decode cX10_farBetween 35 = .ok (.iload_n 2, 1) := by decide +kernel
theorem dX10_farBetween_36 : decode cX10_farBetween 36 = .ok (.iaload, 1) := by decide +kernel
theorem dX10_farBetween_37 : decode cX10_farBetween 37 = .ok (.if_icmp .gt 16, 3) := by decide +kernel
theorem dX10_farBetween_40 : decode cX10_farBetween 40 = .ok (.aload_n 0, 1) := by decide +kernel
theorem dX10_farBetween_41 : decode cX10_farBetween 41 = .ok (.getfield 135, 3) := by decide +kernel
theorem dX10_farBetween_44 : decode cX10_farBetween 44 = .ok (.iload_n 3, 1) := by decide +kernel
theorem dX10_farBetween_45 : decode cX10_farBetween 45 = .ok (.iload_n 3, 1) := by decide +kernel
theorem dX10_farBetween_46 : decode cX10_farBetween 46 = .ok (.iastore, 1) := by decide +kernel
theorem dX10_farBetween_47 : decode cX10_farBetween 47 = .ok (.iinc 3 1, 3) := by decide +kernel
theorem dX10_farBetween_50 : decode cX10_farBetween 50 = .ok (.goto (-20), 3) := by decide +kernel
theorem dX10_farBetween_53 : decode cX10_farBetween 53 = .ok (.iconst 1, 1) := by decide +kernel
theorem dX10_farBetween_54 : decode cX10_farBetween 54 = .ok (.istore_n 3, 1) := by decide +kernel
theorem dX10_farBetween_55 : decode cX10_farBetween 55 = .ok (.iload_n 3, 1) := by decide +kernel
theorem dX10_farBetween_56 : decode cX10_farBetween 56 = .ok (.aload_n 0, 1) := by decide +kernel
theorem dX10_farBetween_57 : decode cX10_farBetween 57 = .ok (.getfield 72, 3) := by decide +kernel
theorem dX10_farBetween_60 : decode cX10_farBetween 60 = .ok (.iload_n 1, 1) := by decide +kernel
theorem dX10_farBetween_61 : decode cX10_farBetween 61 = .ok (.iaload, 1) := by decide +kernel
theorem dX10_farBetween_62 : decode cX10_farBetween 62 = .ok (.if_icmp .gt 154, 3) := by decide +kernel
theorem dX10_farBetween_65 : decode cX10_farBetween 65 = .ok (.aload_n 0, 1) := by decide +kernel
theorem dX10_farBetween_66 : decode cX10_farBetween 66 = .ok (.getfield 138, 3) := by decide +kernel
theorem dX10_farBetween_69 : decode cX10_farBetween 69 = .ok (.iconst 0, 1) := by decide +kernel
theorem dX10_farBetween_70 : decode cX10_farBetween 70 = .ok (.iload_n 3, 1) := by decide +kernel
theorem dX10_farBetween_71 : decode cX10_farBetween 71 = .ok (.iastore, 1) := by decide +kernel
theorem dX10_farBetween_72 : decode cX10_farBetween 72 = .ok (.iconst 1, 1) := by decide +kernel
theorem dX10_farBetween_73 : decode cX10_farBetween 73 = .ok (.istore 4, 2) := by decide +kernel
theorem dX10_farBetween_75 : decode cX10_farBetween 75 = .ok (.iload 4, 2) := by decide +kernel
theorem dX10_farBetween_77 : decode cX10_farBetween 77 = .ok (.aload_n 0, 1) := by decide +kernel
theorem dX10_farBetween_78 : decode cX10_farBetween 78 = .ok (.getfield 72, 3) := by decide +kernel
theorem dX10_farBetween_81 : decode cX10_farBetween 81 = .ok (.iload_n 2, 1) := by decide +kernel
theorem dX10_farBetween_82 : decode cX10_farBetween 82 = .ok (.iaload, 1) := by decide +kernel
theorem dX10_farBetween_83 : decode cX10_farBetween 83 = .ok (.if_icmp .gt 93, 3) := by decide +kernel
theorem dX10_farBetween_86 : decode cX10_farBetween 86 = .ok (.aload_n 0, 1) := by decide +kernel
theorem dX10_farBetween_87 : decode cX10_farBetween 87 = .ok (.getfield 69, 3) := by decide +kernel
theorem dX10_farBetween_90 : decode cX10_farBetween 90 = .ok (.sipush 400, 3) := by decide +kernel
theorem dX10_farBetween_93 : decode cX10_farBetween 93 = .ok (.iload_n 1, 1) := by decide +kernel
theorem dX10_farBetween_94 : decode cX10_farBetween 94 = .ok (.imul, 1) := by decide +kernel
theorem dX10_farBetween_95 : decode cX10_farBetween 95 = .ok (.iload_n 3, 1) := by decide +kernel
theorem dX10_farBetween_96 : decode cX10_farBetween 96 = .ok (.iadd, 1) := by decide +kernel
theorem dX10_farBetween_97 : decode cX10_farBetween 97 = .ok (.iconst 1, 1) := by decide +kernel
theorem dX10_farBetween_98 : decode cX10_farBetween 98 = .ok (.isub, 1) := by decide +kernel
theorem dX10_farBetween_99 : decode cX10_farBetween 99 = .ok (.iaload, 1) := by decide +kernel
theorem dX10_farBetween_100 : decode cX10_farBetween 100 = .ok (.aload_n 0, 1) := by decide +kernel
theorem dX10_farBetween_101 : decode cX10_farBetween 101 = .ok (.getfield 69, 3) := by decide +kernel
theorem dX10_farBetween_104 : decode cX10_farBetween 104 = .ok (.sipush 400, 3) := by decide +kernel
theorem dX10_farBetween_107 : decode cX10_farBetween 107 = .ok (.iload_n 2, 1) := by decide +kernel
theorem dX10_farBetween_108 : decode cX10_farBetween 108 = .ok (.imul, 1) := by decide +kernel
theorem dX10_farBetween_109 : decode cX10_farBetween 109 = .ok (.iload 4, 2) := by decide +kernel
theorem dX10_farBetween_111 : decode cX10_farBetween 111 = .ok (.iadd, 1) := by decide +kernel
theorem dX10_farBetween_112 : decode cX10_farBetween 112 = .ok (.iconst 1, 1) := by decide +kernel
theorem dX10_farBetween_113 : decode cX10_farBetween 113 = .ok (.isub, 1) := by decide +kernel
theorem dX10_farBetween_114 : decode cX10_farBetween 114 = .ok (.iaload, 1) := by decide +kernel
theorem dX10_farBetween_115 : decode cX10_farBetween 115 = .ok (.if_icmp .ne 7, 3) := by decide +kernel
theorem dX10_farBetween_118 : decode cX10_farBetween 118 = .ok (.iconst 0, 1) := by decide +kernel
theorem dX10_farBetween_119 : decode cX10_farBetween 119 = .ok (.goto 4, 3) := by decide +kernel
theorem dX10_farBetween_122 : decode cX10_farBetween 122 = .ok (.iconst 1, 1) := by decide +kernel
theorem dX10_farBetween_123 : decode cX10_farBetween 123 = .ok (.istore 5, 2) := by decide +kernel
theorem dX10_farBetween_125 : decode cX10_farBetween 125 = .ok (.aload_n 0, 1) := by decide +kernel
theorem dX10_farBetween_126 : decode cX10_farBetween 126 = .ok (.getfield 138, 3) := by decide +kernel
theorem dX10_farBetween_129 : decode cX10_farBetween 129 = .ok (.iload 4, 2) := by decide +kernel
theorem dX10_farBetween_131 : decode cX10_farBetween 131 = .ok (.aload_n 0, 1) := by decide +kernel
theorem dX10_farBetween_132 : decode cX10_farBetween 132 = .ok (.aload_n 0, 1) := by decide +kernel
theorem dX10_farBetween_133 : decode cX10_farBetween 133 = .ok (.getfield 135, 3) := by decide +kernel
theorem dX10_farBetween_136 : decode cX10_farBetween 136 = .ok (.iload 4, 2) := by decide +kernel
theorem dX10_farBetween_138 : decode cX10_farBetween 138 = .ok (.iconst 1, 1) := by decide +kernel
theorem dX10_farBetween_139 : decode cX10_farBetween 139 = .ok (.isub, 1) := by decide +kernel
theorem dX10_farBetween_140 : decode cX10_farBetween 140 = .ok (.iaload, 1) := by decide +kernel
theorem dX10_farBetween_141 : decode cX10_farBetween 141 = .ok (.iload 5, 2) := by decide +kernel
theorem dX10_farBetween_143 : decode cX10_farBetween 143 = .ok (.iadd, 1) := by decide +kernel
theorem dX10_farBetween_144 : decode cX10_farBetween 144 = .ok (.aload_n 0, 1) := by decide +kernel
theorem dX10_farBetween_145 : decode cX10_farBetween 145 = .ok (.aload_n 0, 1) := by decide +kernel
theorem dX10_farBetween_146 : decode cX10_farBetween 146 = .ok (.getfield 135, 3) := by decide +kernel
theorem dX10_farBetween_149 : decode cX10_farBetween 149 = .ok (.iload 4, 2) := by decide +kernel
theorem dX10_farBetween_151 : decode cX10_farBetween 151 = .ok (.iaload, 1) := by decide +kernel
theorem dX10_farBetween_152 : decode cX10_farBetween 152 = .ok (.aload_n 0, 1) := by decide +kernel
theorem dX10_farBetween_153 : decode cX10_farBetween 153 = .ok (.getfield 138, 3) := by decide +kernel
theorem dX10_farBetween_156 : decode cX10_farBetween 156 = .ok (.iload 4, 2) := by decide +kernel
theorem dX10_farBetween_158 : decode cX10_farBetween 158 = .ok (.iconst 1, 1) := by decide +kernel
theorem dX10_farBetween_159 : decode cX10_farBetween 159 = .ok (.isub, 1) := by decide +kernel
theorem dX10_farBetween_160 : decode cX10_farBetween 160 = .ok (.iaload, 1) := by decide +kernel
theorem dX10_farBetween_161 : decode cX10_farBetween 161 = .ok (.invokevirtual 367, 3) := by decide +kernel
theorem dX10_farBetween_164 : decode cX10_farBetween 164 = .ok (.iconst 1, 1) := by decide +kernel
theorem dX10_farBetween_165 : decode cX10_farBetween 165 = .ok (.iadd, 1) := by decide +kernel
theorem dX10_farBetween_166 : decode cX10_farBetween 166 = .ok (.invokevirtual 367, 3) := by decide +kernel
theorem dX10_farBetween_169 : decode cX10_farBetween 169 = .ok (.iastore, 1) := by decide +kernel
theorem dX10_farBetween_170 : decode cX10_farBetween 170 = .ok (.iinc 4 1, 3) := by decide +kernel
theorem dX10_farBetween_173 : decode cX10_farBetween 173 = .ok (.goto (-98), 3) := by decide +kernel
theorem dX10_farBetween_176 : decode cX10_farBetween 176 = .ok (.iconst 0, 1) := by decide +kernel
theorem dX10_farBetween_177 : decode cX10_farBetween 177 = .ok (.istore 4, 2) := by decide +kernel
theorem dX10_farBetween_179 : decode cX10_farBetween 179 = .ok (.iload 4, 2) := by decide +kernel
theorem dX10_farBetween_181 : decode cX10_farBetween 181 = .ok (.aload_n 0, 1) := by decide +kernel
theorem dX10_farBetween_182 : decode cX10_farBetween 182 = .ok (.getfield 72, 3) := by decide +kernel
theorem dX10_farBetween_185 : decode cX10_farBetween 185 = .ok (.iload_n 2, 1) := by decide +kernel
theorem dX10_farBetween_186 : decode cX10_farBetween 186 = .ok (.iaload, 1) := by decide +kernel
theorem dX10_farBetween_187 : decode cX10_farBetween 187 = .ok (.if_icmp .gt 23, 3) := by decide +kernel
theorem dX10_farBetween_190 : decode cX10_farBetween 190 = .ok (.aload_n 0, 1) := by decide +kernel
theorem dX10_farBetween_191 : decode cX10_farBetween 191 = .ok (.getfield 135, 3) := by decide +kernel
theorem dX10_farBetween_194 : decode cX10_farBetween 194 = .ok (.iload 4, 2) := by decide +kernel
theorem dX10_farBetween_196 : decode cX10_farBetween 196 = .ok (.aload_n 0, 1) := by decide +kernel
theorem dX10_farBetween_197 : decode cX10_farBetween 197 = .ok (.getfield 138, 3) := by decide +kernel
theorem dX10_farBetween_200 : decode cX10_farBetween 200 = .ok (.iload 4, 2) := by decide +kernel
theorem dX10_farBetween_202 : decode cX10_farBetween 202 = .ok (.iaload, 1) := by decide +kernel
theorem dX10_farBetween_203 : decode cX10_farBetween 203 = .ok (.iastore, 1) := by decide +kernel
theorem dX10_farBetween_204 : decode cX10_farBetween 204 = .ok (.iinc 4 1, 3) := by decide +kernel
theorem dX10_farBetween_207 : decode cX10_farBetween 207 = .ok (.goto (-28), 3) := by decide +kernel
theorem dX10_farBetween_210 : decode cX10_farBetween 210 = .ok (.iinc 3 1, 3) := by decide +kernel
theorem dX10_farBetween_213 : decode cX10_farBetween 213 = .ok (.goto (-158), 3) := by decide +kernel
theorem dX10_farBetween_216 : decode cX10_farBetween 216 = .ok (.aload_n 0, 1) := by decide +kernel
theorem dX10_farBetween_217 : decode cX10_farBetween 217 = .ok (.getfield 141, 3) := by decide +kernel
theorem dX10_farBetween_220 : decode cX10_farBetween 220 = .ok (.bipush 32, 2) := by decide +kernel
theorem dX10_farBetween_222 : decode cX10_farBetween 222 = .ok (.iload_n 1, 1) := by decide +kernel
theorem dX10_farBetween_223 : decode cX10_farBetween 223 = .ok (.imul, 1) := by decide +kernel
theorem dX10_farBetween_224 : decode cX10_farBetween 224 = .ok (.iload_n 2, 1) := by decide +kernel
theorem dX10_farBetween_225 : decode cX10_farBetween 225 = .ok (.iadd, 1) := by decide +kernel
theorem dX10_farBetween_226 : decode cX10_farBetween 226 = .ok (.aload_n 0, 1) := by decide +kernel
theorem dX10_farBetween_227 : decode cX10_farBetween 227 = .ok (.getfield 135, 3) := by decide +kernel
theorem dX10_farBetween_230 : decode cX10_farBetween 230 = .ok (.aload_n 0, 1) := by decide +kernel
theorem dX10_farBetween_231 : decode cX10_farBetween 231 = .ok (.getfield 72, 3) := by decide +kernel
theorem dX10_farBetween_234 : decode cX10_farBetween 234 = .ok (.iload_n 2, 1) := by decide +kernel
theorem dX10_farBetween_235 : decode cX10_farBetween 235 = .ok (.iaload, 1) := by decide +kernel
theorem dX10_farBetween_236 : decode cX10_farBetween 236 = .ok (.iaload, 1) := by decide +kernel
theorem dX10_farBetween_237 : decode cX10_farBetween 237 = .ok (.iconst 1, 1) := by decide +kernel
theorem dX10_farBetween_238 : decode cX10_farBetween 238 = .ok (.iadd, 1) := by decide +kernel
theorem dX10_farBetween_239 : decode cX10_farBetween 239 = .ok (.iastore, 1) := by decide +kernel
theorem dX10_farBetween_240 : decode cX10_farBetween 240 = .ok (.aload_n 0, 1) := by decide +kernel
theorem dX10_farBetween_241 : decode cX10_farBetween 241 = .ok (.getfield 141, 3) := by decide +kernel
theorem dX10_farBetween_244 : decode cX10_farBetween 244 = .ok (.bipush 32, 2) := by decide +kernel
theorem dX10_farBetween_246 : decode cX10_farBetween 246 = .ok (.iload_n 2, 1) := by decide +kernel
theorem dX10_farBetween_247 : decode cX10_farBetween 247 = .ok (.imul, 1) := by decide +kernel
theorem dX10_farBetween_248 : decode cX10_farBetween 248 = .ok (.iload_n 1, 1) := by decide +kernel
theorem dX10_farBetween_249 : decode cX10_farBetween 249 = .ok (.iadd, 1) := by decide +kernel
theorem dX10_farBetween_250 : decode cX10_farBetween 250 = .ok (.aload_n 0, 1) := by decide +kernel
theorem dX10_farBetween_251 : decode cX10_farBetween 251 = .ok (.getfield 135, 3) := by decide +kernel
theorem dX10_farBetween_254 : decode cX10_farBetween 254 = .ok (.aload_n 0, 1) := by decide +kernel
theorem dX10_farBetween_255 : decode cX10_farBetween 255 = .ok (.getfield 72, 3) := by decide +kernel
theorem dX10_farBetween_258 : decode cX10_farBetween 258 = .ok (.iload_n 2, 1) := by decide +kernel
theorem dX10_farBetween_259 : decode cX10_farBetween 259 = .ok (.iaload, 1) := by decide +kernel
theorem dX10_farBetween_260 : decode cX10_farBetween 260 = .ok (.iaload, 1) := by decide +kernel
theorem dX10_farBetween_261 : decode cX10_farBetween 261 = .ok (.iconst 1, 1) := by decide +kernel
theorem dX10_farBetween_262 : decode cX10_farBetween 262 = .ok (.iadd, 1) := by decide +kernel
theorem dX10_farBetween_263 : decode cX10_farBetween 263 = .ok (.iastore, 1) := by decide +kernel
theorem dX10_farBetween_264 : decode cX10_farBetween 264 = .ok (.aload_n 0, 1) := by decide +kernel
theorem dX10_farBetween_265 : decode cX10_farBetween 265 = .ok (.getfield 135, 3) := by decide +kernel
theorem dX10_farBetween_268 : decode cX10_farBetween 268 = .ok (.aload_n 0, 1) := by decide +kernel
theorem dX10_farBetween_269 : decode cX10_farBetween 269 = .ok (.getfield 72, 3) := by decide +kernel
theorem dX10_farBetween_272 : decode cX10_farBetween 272 = .ok (.iload_n 2, 1) := by decide +kernel
theorem dX10_farBetween_273 : decode cX10_farBetween 273 = .ok (.iaload, 1) := by decide +kernel
theorem dX10_farBetween_274 : decode cX10_farBetween 274 = .ok (.iaload, 1) := by decide +kernel
theorem dX10_farBetween_275 : decode cX10_farBetween 275 = .ok (.ireturn, 1) := by decide +kernel
theorem dX10_far_0 : decode cX10_far 0 = .ok (.aload_n 0, 1) := by decide +kernel
theorem dX10_far_1 : decode cX10_far 1 = .ok (.iconst 0, 1) := by decide +kernel
theorem dX10_far_2 : decode cX10_far 2 = .ok (.putfield 159, 3) := by decide +kernel
theorem dX10_far_5 : decode cX10_far 5 = .ok (.aload_n 0, 1) := by decide +kernel
theorem dX10_far_6 : decode cX10_far 6 = .ok (.iload_n 1, 1) := by decide +kernel
theorem dX10_far_7 : decode cX10_far 7 = .ok (.invokevirtual 191, 3) := by decide +kernel
theorem dX10_far_10 : decode cX10_far 10 = .ok (.ifCond .eq 20, 3) := by decide +kernel
theorem dX10_far_13 : decode cX10_far 13 = .ok (.aload_n 0, 1) := by decide +kernel
theorem dX10_far_14 : decode cX10_far 14 = .ok (.iload_n 2, 1) := by decide +kernel
theorem dX10_far_15 : decode cX10_far 15 = .ok (.invokevirtual 191, 3) := by decide +kernel
theorem dX10_far_18 : decode cX10_far 18 = .ok (.ifCond .eq 12, 3) := by decide +kernel
theorem dX10_far_21 : decode cX10_far 21 = .ok (.aload_n 0, 1) := by decide +kernel
theorem dX10_far_22 : decode cX10_far 22 = .ok (.iload_n 1, 1) := by decide +kernel
theorem dX10_far_23 : decode cX10_far 23 = .ok (.iload_n 2, 1) := by decide +kernel
theorem dX10_far_24 : decode cX10_far 24 = .ok (.invokevirtual 370, 3) := by decide +kernel
theorem dX10_far_27 : decode cX10_far 27 = .ok (.goto 4, 3) := by decide +kernel
theorem dX10_far_30 : decode cX10_far 30 = .ok (.iconst (-1), 1) := by decide +kernel
theorem dX10_far_31 : decode cX10_far 31 = .ok (.ireturn, 1) := by decide +kernel
theorem dX10_ones_0 : decode cX10_ones 0 = .ok (.iconst 0, 1) := by decide +kernel
theorem dX10_ones_1 : decode cX10_ones 1 = .ok (.istore_n 2, 1) := by decide +kernel
theorem dX10_ones_2 : decode cX10_ones 2 = .ok (.iload_n 1, 1) := by decide +kernel
theorem dX10_ones_3 : decode cX10_ones 3 = .ok (.istore_n 3, 1) := by decide +kernel
theorem dX10_ones_4 : decode cX10_ones 4 = .ok (.iload_n 3, 1) := by decide +kernel
theorem dX10_ones_5 : decode cX10_ones 5 = .ok (.ifCond .eq 16, 3) := by decide +kernel
theorem dX10_ones_8 : decode cX10_ones 8 = .ok (.iload_n 2, 1) := by decide +kernel
theorem dX10_ones_9 : decode cX10_ones 9 = .ok (.iconst 1, 1) := by decide +kernel
theorem dX10_ones_10 : decode cX10_ones 10 = .ok (.iadd, 1) := by decide +kernel
theorem dX10_ones_11 : decode cX10_ones 11 = .ok (.istore_n 2, 1) := by decide +kernel
theorem dX10_ones_12 : decode cX10_ones 12 = .ok (.iload_n 3, 1) := by decide +kernel
theorem dX10_ones_13 : decode cX10_ones 13 = .ok (.iload_n 3, 1) := by decide +kernel
theorem dX10_ones_14 : decode cX10_ones 14 = .ok (.iconst 1, 1) := by decide +kernel
theorem dX10_ones_15 : decode cX10_ones 15 = .ok (.isub, 1) := by decide +kernel
theorem dX10_ones_16 : decode cX10_ones 16 = .ok (.iand, 1) := by decide +kernel
theorem dX10_ones_17 : decode cX10_ones 17 = .ok (.istore_n 3, 1) := by decide +kernel
theorem dX10_ones_18 : decode cX10_ones 18 = .ok (.goto (-14), 3) := by decide +kernel
theorem dX10_ones_21 : decode cX10_ones 21 = .ok (.iload_n 2, 1) := by decide +kernel
theorem dX10_ones_22 : decode cX10_ones 22 = .ok (.ireturn, 1) := by decide +kernel
theorem dX10_areWordings_0 : decode cX10_areWordings 0 = .ok (.aload_n 0, 1) := by decide +kernel
theorem dX10_areWordings_1 : decode cX10_areWordings 1 = .ok (.getfield 220, 3) := by decide +kernel
theorem dX10_areWordings_4 : decode cX10_areWordings 4 = .ok (.bipush 32, 2) := by decide +kernel
theorem dX10_areWordings_6 : decode cX10_areWordings 6 = .ok (.if_icmp .eq 16, 3) := by decide +kernel
theorem dX10_areWordings_9 : decode cX10_areWordings 9 = .ok (.iload_n 1, 1) := by decide +kernel
theorem dX10_areWordings_10 : decode cX10_areWordings 10 = .ok (.aload_n 0, 1) := by decide +kernel
theorem dX10_areWordings_11 : decode cX10_areWordings 11 = .ok (.getfield 220, 3) := by decide +kernel
theorem dX10_areWordings_14 : decode cX10_areWordings 14 = .ok (.ishr, 1) := by decide +kernel
theorem dX10_areWordings_15 : decode cX10_areWordings 15 = .ok (.ifCond .ne 11, 3) := by decide +kernel
theorem dX10_areWordings_18 : decode cX10_areWordings 18 = .ok (.iload_n 1, 1) := by decide +kernel
theorem dX10_areWordings_19 : decode cX10_areWordings 19 = .ok (.ifCond .lt 7, 3) := by decide +kernel
theorem dX10_areWordings_22 : decode cX10_areWordings 22 = .ok (.iconst 1, 1) := by decide +kernel
theorem dX10_areWordings_23 : decode cX10_areWordings 23 = .ok (.goto 4, 3) := by decide +kernel
theorem dX10_areWordings_26 : decode cX10_areWordings 26 = .ok (.iconst 0, 1) := by decide +kernel
theorem dX10_areWordings_27 : decode cX10_areWordings 27 = .ok (.ireturn, 1) := by decide +kernel
theorem dX10_tree_0 : decode cX10_tree 0 = .ok (.aload_n 0, 1) := by decide +kernel
theorem dX10_tree_1 : decode cX10_tree 1 = .ok (.iconst 0, 1) := by decide +kernel
theorem dX10_tree_2 : decode cX10_tree 2 = .ok (.putfield 159, 3) := by decide +kernel
theorem dX10_tree_5 : decode cX10_tree 5 = .ok (.aload_n 0, 1) := by decide +kernel
theorem dX10_tree_6 : decode cX10_tree 6 = .ok (.iload_n 1, 1) := by decide +kernel
theorem dX10_tree_7 : decode cX10_tree 7 = .ok (.invokevirtual 373, 3) := by decide +kernel
theorem dX10_tree_10 : decode cX10_tree 10 = .ok (.ifCond .eq 18, 3) := by decide +kernel
theorem dX10_tree_13 : decode cX10_tree 13 = .ok (.aload_n 0, 1) := by decide +kernel
theorem dX10_tree_14 : decode cX10_tree 14 = .ok (.aload_n 0, 1) := by decide +kernel
theorem dX10_tree_15 : decode cX10_tree 15 = .ok (.iload_n 1, 1) := by decide +kernel
theorem dX10_tree_16 : decode cX10_tree 16 = .ok (.invokevirtual 376, 3) := by decide +kernel
theorem dX10_tree_19 : decode cX10_tree 19 = .ok (.iconst 2, 1) := by decide +kernel
theorem dX10_tree_20 : decode cX10_tree 20 = .ok (.bipush 8, 2) := by decide +kernel
theorem dX10_tree_22 : decode cX10_tree 22 = .ok (.invokevirtual 169, 3) := by decide +kernel
theorem dX10_tree_25 : decode cX10_tree 25 = .ok (.ifCond .ne 5, 3) := by decide +kernel
theorem dX10_tree_28 : decode cX10_tree 28 = .ok (.iconst (-1), 1) := by decide +kernel
theorem dX10_tree_29 : decode cX10_tree 29 = .ok (.ireturn, 1) := by decide +kernel
theorem dX10_tree_30 : decode cX10_tree 30 = .ok (.iload_n 2, 1) := by decide +kernel
theorem dX10_tree_31 : decode cX10_tree 31 = .ok (.ifCond .eq 28, 3) := by decide +kernel
theorem dX10_tree_34 : decode cX10_tree 34 = .ok (.aload_n 0, 1) := by decide +kernel
theorem dX10_tree_35 : decode cX10_tree 35 = .ok (.iload_n 2, 1) := by decide +kernel
theorem dX10_tree_36 : decode cX10_tree 36 = .ok (.bipush 10, 2) := by decide +kernel
theorem dX10_tree_38 : decode cX10_tree 38 = .ok (.bipush 41, 2) := by decide +kernel
theorem dX10_tree_40 : decode cX10_tree 40 = .ok (.invokevirtual 169, 3) := by decide +kernel
theorem dX10_tree_43 : decode cX10_tree 43 = .ok (.ifCond .eq 14, 3) := by decide +kernel
theorem dX10_tree_46 : decode cX10_tree 46 = .ok (.iload_n 1, 1) := by decide +kernel
theorem dX10_tree_47 : decode cX10_tree 47 = .ok (.iload_n 2, 1) := by decide +kernel
theorem dX10_tree_48 : decode cX10_tree 48 = .ok (.bipush 10, 2) := by decide +kernel
theorem dX10_tree_50 : decode cX10_tree 50 = .ok (.isub, 1) := by decide +kernel
theorem dX10_tree_51 : decode cX10_tree 51 = .ok (.ishr, 1) := by decide +kernel
theorem dX10_tree_52 : decode cX10_tree 52 = .ok (.iconst 1, 1) := by decide +kernel
theorem dX10_tree_53 : decode cX10_tree 53 = .ok (.iand, 1) := by decide +kernel
theorem dX10_tree_54 : decode cX10_tree 54 = .ok (.ifCond .ne 5, 3) := by decide +kernel
theorem dX10_tree_57 : decode cX10_tree 57 = .ok (.iconst (-1), 1) := by decide +kernel
theorem dX10_tree_58 : decode cX10_tree 58 = .ok (.ireturn, 1) := by decide +kernel
theorem dX10_tree_59 : decode cX10_tree 59 = .ok (.iconst 0, 1) := by decide +kernel
theorem dX10_tree_60 : decode cX10_tree 60 = .ok (.istore_n 3, 1) := by decide +kernel
theorem dX10_tree_61 : decode cX10_tree 61 = .ok (.iload_n 1, 1) := by decide +kernel
theorem dX10_tree_62 : decode cX10_tree 62 = .ok (.iload_n 3, 1) := by decide +kernel
theorem dX10_tree_63 : decode cX10_tree 63 = .ok (.ishr, 1) := by decide +kernel
theorem dX10_tree_64 : decode cX10_tree 64 = .ok (.iconst 1, 1) := by decide +kernel
theorem dX10_tree_65 : decode cX10_tree 65 = .ok (.iand, 1) := by decide +kernel
theorem dX10_tree_66 : decode cX10_tree 66 = .ok (.ifCond .ne 10, 3) := by decide +kernel
theorem dX10_tree_69 : decode cX10_tree 69 = .ok (.iload_n 3, 1) := by decide +kernel
theorem dX10_tree_70 : decode cX10_tree 70 = .ok (.iconst 1, 1) := by decide +kernel
theorem dX10_tree_71 : decode cX10_tree 71 = .ok (.iadd, 1) := by decide +kernel
theorem dX10_tree_72 : decode cX10_tree 72 = .ok (.istore_n 3, 1) := by decide +kernel
theorem dX10_tree_73 : decode cX10_tree 73 = .ok (.goto (-12), 3) := by decide +kernel
theorem dX10_tree_76 : decode cX10_tree 76 = .ok (.iconst 0, 1) := by decide +kernel
theorem dX10_tree_77 : decode cX10_tree 77 = .ok (.istore 4, 2) := by decide +kernel
theorem dX10_tree_79 : decode cX10_tree 79 = .ok (.iload 4, 2) := by decide +kernel
theorem dX10_tree_81 : decode cX10_tree 81 = .ok (.bipush 32, 2) := by decide +kernel
theorem dX10_tree_83 : decode cX10_tree 83 = .ok (.if_icmp .ge 17, 3) := by decide +kernel
theorem dX10_tree_86 : decode cX10_tree 86 = .ok (.aload_n 0, 1) := by decide +kernel
theorem dX10_tree_87 : decode cX10_tree 87 = .ok (.getfield 144, 3) := by decide +kernel
theorem dX10_tree_90 : decode cX10_tree 90 = .ok (.iload 4, 2) := by decide +kernel
theorem dX10_tree_92 : decode cX10_tree 92 = .ok (.iconst 0, 1) := by decide +kernel
theorem dX10_tree_93 : decode cX10_tree 93 = .ok (.bastore, 1) := by decide +kernel
theorem dX10_tree_94 : decode cX10_tree 94 = .ok (.iinc 4 1, 3) := by decide +kernel
theorem dX10_tree_97 : decode cX10_tree 97 = .ok (.goto (-18), 3) := by decide +kernel
theorem dX10_tree_100 : decode cX10_tree 100 = .ok (.aload_n 0, 1) := by decide +kernel
theorem dX10_tree_101 : decode cX10_tree 101 = .ok (.getfield 144, 3) := by decide +kernel
theorem dX10_tree_104 : decode cX10_tree 104 = .ok (.iload_n 3, 1) := by decide +kernel
theorem dX10_tree_105 : decode cX10_tree 105 = .ok (.iconst 1, 1) := by decide +kernel
theorem dX10_tree_106 : decode cX10_tree 106 = .ok (.bastore, 1) := by decide +kernel
theorem dX10_tree_107 : decode cX10_tree 107 = .ok (.aload_n 0, 1) := by decide +kernel
theorem dX10_tree_108 : decode cX10_tree 108 = .ok (.getfield 147, 3) := by decide +kernel
theorem dX10_tree_111 : decode cX10_tree 111 = .ok (.iload_n 3, 1) := by decide +kernel
theorem dX10_tree_112 : decode cX10_tree 112 = .ok (.iconst (-1), 1) := by decide +kernel
theorem dX10_tree_113 : decode cX10_tree 113 = .ok (.iastore, 1) := by decide +kernel
theorem dX10_tree_114 : decode cX10_tree 114 = .ok (.iconst 0, 1) := by decide +kernel
theorem dX10_tree_115 : decode cX10_tree 115 = .ok (.istore 4, 2) := by decide +kernel
theorem dX10_tree_117 : decode cX10_tree 117 = .ok (.iconst 1, 1) := by decide +kernel
theorem dX10_tree_118 : decode cX10_tree 118 = .ok (.istore 5, 2) := by decide +kernel
theorem dX10_tree_120 : decode cX10_tree 120 = .ok (.iload 5, 2) := by decide +kernel
theorem dX10_tree_122 : decode cX10_tree 122 = .ok (.aload_n 0, 1) := by decide +kernel
theorem dX10_tree_123 : decode cX10_tree 123 = .ok (.iload_n 1, 1) := by decide +kernel
theorem dX10_tree_124 : decode cX10_tree 124 = .ok (.invokevirtual 376, 3) := by decide +kernel
theorem dX10_tree_127 : decode cX10_tree 127 = .ok (.if_icmp .ge 146, 3) := by decide +kernel
theorem dX10_tree_130 : decode cX10_tree 130 = .ok (.iconst (-1), 1) := by decide +kernel
theorem dX10_tree_131 : decode cX10_tree 131 = .ok (.istore 6, 2) := by decide +kernel
theorem dX10_tree_133 : decode cX10_tree 133 = .ok (.iconst (-1), 1) := by decide +kernel
theorem dX10_tree_134 : decode cX10_tree 134 = .ok (.istore 7, 2) := by decide +kernel
theorem dX10_tree_136 : decode cX10_tree 136 = .ok (.ldc_w 379, 3) := by decide +kernel
theorem dX10_tree_139 : decode cX10_tree 139 = .ok (.istore 8, 2) := by decide +kernel
theorem dX10_tree_141 : decode cX10_tree 141 = .ok (.iconst 0, 1) := by decide +kernel
theorem dX10_tree_142 : decode cX10_tree 142 = .ok (.istore 9, 2) := by decide +kernel
theorem dX10_tree_144 : decode cX10_tree 144 = .ok (.iload 9, 2) := by decide +kernel
theorem dX10_tree_146 : decode cX10_tree 146 = .ok (.aload_n 0, 1) := by decide +kernel
theorem dX10_tree_147 : decode cX10_tree 147 = .ok (.getfield 220, 3) := by decide +kernel
theorem dX10_tree_150 : decode cX10_tree 150 = .ok (.if_icmp .ge 93, 3) := by decide +kernel
theorem dX10_tree_153 : decode cX10_tree 153 = .ok (.iload_n 1, 1) := by decide +kernel
theorem dX10_tree_154 : decode cX10_tree 154 = .ok (.iload 9, 2) := by decide +kernel
theorem dX10_tree_156 : decode cX10_tree 156 = .ok (.ishr, 1) := by decide +kernel
theorem dX10_tree_157 : decode cX10_tree 157 = .ok (.iconst 1, 1) := by decide +kernel
theorem dX10_tree_158 : decode cX10_tree 158 = .ok (.iand, 1) := by decide +kernel
theorem dX10_tree_159 : decode cX10_tree 159 = .ok (.ifCond .eq 78, 3) := by decide +kernel
theorem dX10_tree_162 : decode cX10_tree 162 = .ok (.aload_n 0, 1) := by decide +kernel
theorem dX10_tree_163 : decode cX10_tree 163 = .ok (.getfield 144, 3) := by decide +kernel
theorem dX10_tree_166 : decode cX10_tree 166 = .ok (.iload 9, 2) := by decide +kernel
theorem dX10_tree_168 : decode cX10_tree 168 = .ok (.baload, 1) := by decide +kernel
theorem dX10_tree_169 : decode cX10_tree 169 = .ok (.ifCond .eq 6, 3) := by decide +kernel
theorem dX10_tree_172 : decode cX10_tree 172 = .ok (.goto 65, 3) := by decide +kernel
theorem dX10_tree_175 : decode cX10_tree 175 = .ok (.iconst 0, 1) := by decide +kernel
theorem dX10_tree_176 : decode cX10_tree 176 = .ok (.istore 10, 2) := by decide +kernel
theorem dX10_tree_178 : decode cX10_tree 178 = .ok (.iload 10, 2) := by decide +kernel
theorem dX10_tree_180 : decode cX10_tree 180 = .ok (.aload_n 0, 1) := by decide +kernel
theorem dX10_tree_181 : decode cX10_tree 181 = .ok (.getfield 220, 3) := by decide +kernel
theorem dX10_tree_184 : decode cX10_tree 184 = .ok (.if_icmp .ge 53, 3) := by decide +kernel
theorem dX10_tree_187 : decode cX10_tree 187 = .ok (.aload_n 0, 1) := by decide +kernel
theorem dX10_tree_188 : decode cX10_tree 188 = .ok (.getfield 144, 3) := by decide +kernel
theorem dX10_tree_191 : decode cX10_tree 191 = .ok (.iload 10, 2) := by decide +kernel
theorem dX10_tree_193 : decode cX10_tree 193 = .ok (.baload, 1) := by decide +kernel
theorem dX10_tree_194 : decode cX10_tree 194 = .ok (.ifCond .eq 37, 3) := by decide +kernel
theorem dX10_tree_197 : decode cX10_tree 197 = .ok (.aload_n 0, 1) := by decide +kernel
theorem dX10_tree_198 : decode cX10_tree 198 = .ok (.iload 10, 2) := by decide +kernel
theorem dX10_tree_200 : decode cX10_tree 200 = .ok (.iload 9, 2) := by decide +kernel
theorem dX10_tree_202 : decode cX10_tree 202 = .ok (.invokevirtual 370, 3) := by decide +kernel
theorem dX10_tree_205 : decode cX10_tree 205 = .ok (.iload 8, 2) := by decide +kernel
theorem dX10_tree_207 : decode cX10_tree 207 = .ok (.if_icmp .lt 6, 3) := by decide +kernel
theorem dX10_tree_210 : decode cX10_tree 210 = .ok (.goto 21, 3) := by decide +kernel
theorem dX10_tree_213 : decode cX10_tree 213 = .ok (.iload 9, 2) := by decide +kernel
theorem dX10_tree_215 : decode cX10_tree 215 = .ok (.istore 6, 2) := by decide +kernel
theorem dX10_tree_217 : decode cX10_tree 217 = .ok (.iload 10, 2) := by decide +kernel
theorem dX10_tree_219 : decode cX10_tree 219 = .ok (.istore 7, 2) := by decide +kernel
theorem dX10_tree_221 : decode cX10_tree 221 = .ok (.aload_n 0, 1) := by decide +kernel
theorem dX10_tree_222 : decode cX10_tree 222 = .ok (.iload 10, 2) := by decide +kernel
theorem dX10_tree_224 : decode cX10_tree 224 = .ok (.iload 9, 2) := by decide +kernel
theorem dX10_tree_226 : decode cX10_tree 226 = .ok (.invokevirtual 370, 3) := by decide +kernel
theorem dX10_tree_229 : decode cX10_tree 229 = .ok (.istore 8, 2) := by decide +kernel
theorem dX10_tree_231 : decode cX10_tree 231 = .ok (.iinc 10 1, 3) := by decide +kernel
theorem dX10_tree_234 : decode cX10_tree 234 = .ok (.goto (-56), 3) := by decide +kernel
theorem dX10_tree_237 : decode cX10_tree 237 = .ok (.iinc 9 1, 3) := by decide +kernel
theorem dX10_tree_240 : decode cX10_tree 240 = .ok (.goto (-96), 3) := by decide +kernel
theorem dX10_tree_243 : decode cX10_tree 243 = .ok (.aload_n 0, 1) := by decide +kernel
theorem dX10_tree_244 : decode cX10_tree 244 = .ok (.getfield 144, 3) := by decide +kernel
theorem dX10_tree_247 : decode cX10_tree 247 = .ok (.iload 6, 2) := by decide +kernel
theorem dX10_tree_249 : decode cX10_tree 249 = .ok (.iconst 1, 1) := by decide +kernel
theorem dX10_tree_250 : decode cX10_tree 250 = .ok (.bastore, 1) := by decide +kernel
theorem dX10_tree_251 : decode cX10_tree 251 = .ok (.aload_n 0, 1) := by decide +kernel
theorem dX10_tree_252 : decode cX10_tree 252 = .ok (.getfield 147, 3) := by decide +kernel
theorem dX10_tree_255 : decode cX10_tree 255 = .ok (.iload 6, 2) := by decide +kernel
theorem dX10_tree_257 : decode cX10_tree 257 = .ok (.iload 7, 2) := by decide +kernel
theorem dX10_tree_259 : decode cX10_tree 259 = .ok (.iastore, 1) := by decide +kernel
theorem dX10_tree_260 : decode cX10_tree 260 = .ok (.iload 4, 2) := by decide +kernel
theorem dX10_tree_262 : decode cX10_tree 262 = .ok (.iload 8, 2) := by decide +kernel
theorem dX10_tree_264 : decode cX10_tree 264 = .ok (.iadd, 1) := by decide +kernel
theorem dX10_tree_265 : decode cX10_tree 265 = .ok (.istore 4, 2) := by decide +kernel
theorem dX10_tree_267 : decode cX10_tree 267 = .ok (.iinc 5 1, 3) := by decide +kernel
theorem dX10_tree_270 : decode cX10_tree 270 = .ok (.goto (-150), 3) := by decide +kernel
theorem dX10_tree_273 : decode cX10_tree 273 = .ok (.iload_n 2, 1) := by decide +kernel
theorem dX10_tree_274 : decode cX10_tree 274 = .ok (.ifCond .ne 8, 3) := by decide +kernel
theorem dX10_tree_277 : decode cX10_tree 277 = .ok (.iload 4, 2) := by decide +kernel
theorem dX10_tree_279 : decode cX10_tree 279 = .ok (.goto 12, 3) := by decide +kernel
theorem dX10_tree_282 : decode cX10_tree 282 = .ok (.aload_n 0, 1) := by decide +kernel
theorem dX10_tree_283 : decode cX10_tree 283 = .ok (.getfield 147, 3) := by decide +kernel
theorem dX10_tree_286 : decode cX10_tree 286 = .ok (.iload_n 2, 1) := by decide +kernel
theorem dX10_tree_287 : decode cX10_tree 287 = .ok (.bipush 10, 2) := by decide +kernel
theorem dX10_tree_289 : decode cX10_tree 289 = .ok (.isub, 1) := by decide +kernel
theorem dX10_tree_290 : decode cX10_tree 290 = .ok (.iaload, 1) := by decide +kernel
theorem dX10_tree_291 : decode cX10_tree 291 = .ok (.ireturn, 1) := by decide +kernel
theorem dX10_areLines_0 : decode cX10_areLines 0 = .ok (.iload_n 1, 1) := by decide +kernel
theorem dX10_areLines_1 : decode cX10_areLines 1 = .ok (.ifCond .le 16, 3) := by decide +kernel
theorem dX10_areLines_4 : decode cX10_areLines 4 = .ok (.iload_n 1, 1) := by decide +kernel
theorem dX10_areLines_5 : decode cX10_areLines 5 = .ok (.aload_n 0, 1) := by decide +kernel
theorem dX10_areLines_6 : decode cX10_areLines 6 = .ok (.getfield 185, 3) := by decide +kernel
theorem dX10_areLines_9 : decode cX10_areLines 9 = .ok (.ishr, 1) := by decide +kernel
theorem dX10_areLines_10 : decode cX10_areLines 10 = .ok (.ifCond .ne 7, 3) := by decide +kernel
theorem dX10_areLines_13 : decode cX10_areLines 13 = .ok (.iconst 1, 1) := by decide +kernel
theorem dX10_areLines_14 : decode cX10_areLines 14 = .ok (.goto 4, 3) := by decide +kernel
theorem dX10_areLines_17 : decode cX10_areLines 17 = .ok (.iconst 0, 1) := by decide +kernel
theorem dX10_areLines_18 : decode cX10_areLines 18 = .ok (.ireturn, 1) := by decide +kernel
theorem dX10_loss_0 : decode cX10_loss 0 = .ok (.aload_n 0, 1) := by decide +kernel
theorem dX10_loss_1 : decode cX10_loss 1 = .ok (.iconst 0, 1) := by decide +kernel
theorem dX10_loss_2 : decode cX10_loss 2 = .ok (.putfield 159, 3) := by decide +kernel
theorem dX10_loss_5 : decode cX10_loss 5 = .ok (.aload_n 0, 1) := by decide +kernel
theorem dX10_loss_6 : decode cX10_loss 6 = .ok (.iload_n 1, 1) := by decide +kernel
theorem dX10_loss_7 : decode cX10_loss 7 = .ok (.invokevirtual 380, 3) := by decide +kernel
theorem dX10_loss_10 : decode cX10_loss 10 = .ok (.ifCond .ne 5, 3) := by decide +kernel
theorem dX10_loss_13 : decode cX10_loss 13 = .ok (.iconst (-1), 1) := by decide +kernel
theorem dX10_loss_14 : decode cX10_loss 14 = .ok (.ireturn, 1) := by decide +kernel
theorem dX10_loss_15 : decode cX10_loss 15 = .ok (.bipush 25, 2) := by decide +kernel
theorem dX10_loss_17 : decode cX10_loss 17 = .ok (.istore_n 2, 1) := by decide +kernel
theorem dX10_loss_18 : decode cX10_loss 18 = .ok (.iconst 0, 1) := by decide +kernel
theorem dX10_loss_19 : decode cX10_loss 19 = .ok (.istore_n 3, 1) := by decide +kernel
theorem dX10_loss_20 : decode cX10_loss 20 = .ok (.iload_n 3, 1) := by decide +kernel
theorem dX10_loss_21 : decode cX10_loss 21 = .ok (.aload_n 0, 1) := by decide +kernel
theorem dX10_loss_22 : decode cX10_loss 22 = .ok (.getfield 185, 3) := by decide +kernel
theorem dX10_loss_25 : decode cX10_loss 25 = .ok (.if_icmp .ge 33, 3) := by decide +kernel
theorem dX10_loss_28 : decode cX10_loss 28 = .ok (.iload_n 1, 1) := by decide +kernel
theorem dX10_loss_29 : decode cX10_loss 29 = .ok (.iload_n 3, 1) := by decide +kernel
theorem dX10_loss_30 : decode cX10_loss 30 = .ok (.ishr, 1) := by decide +kernel
theorem dX10_loss_31 : decode cX10_loss 31 = .ok (.iconst 1, 1) := by decide +kernel
theorem dX10_loss_32 : decode cX10_loss 32 = .ok (.iand, 1) := by decide +kernel
theorem dX10_loss_33 : decode cX10_loss 33 = .ok (.iconst 1, 1) := by decide +kernel
theorem dX10_loss_34 : decode cX10_loss 34 = .ok (.if_icmp .ne 18, 3) := by decide +kernel
theorem dX10_loss_37 : decode cX10_loss 37 = .ok (.aload_n 0, 1) := by decide +kernel
theorem dX10_loss_38 : decode cX10_loss 38 = .ok (.iload_n 3, 1) := by decide +kernel
theorem dX10_loss_39 : decode cX10_loss 39 = .ok (.invokevirtual 202, 3) := by decide +kernel
theorem dX10_loss_42 : decode cX10_loss 42 = .ok (.iload_n 2, 1) := by decide +kernel
theorem dX10_loss_43 : decode cX10_loss 43 = .ok (.if_icmp .ge 9, 3) := by decide +kernel
theorem dX10_loss_46 : decode cX10_loss 46 = .ok (.aload_n 0, 1) := by decide +kernel
theorem dX10_loss_47 : decode cX10_loss 47 = .ok (.iload_n 3, 1) := by decide +kernel
theorem dX10_loss_48 : decode cX10_loss 48 = .ok (.invokevirtual 202, 3) := by decide +kernel
theorem dX10_loss_51 : decode cX10_loss 51 = .ok (.istore_n 2, 1) := by decide +kernel
theorem dX10_loss_52 : decode cX10_loss 52 = .ok (.iinc 3 1, 3) := by decide +kernel
theorem dX10_loss_55 : decode cX10_loss 55 = .ok (.goto (-35), 3) := by decide +kernel
theorem dX10_loss_58 : decode cX10_loss 58 = .ok (.iload_n 2, 1) := by decide +kernel
theorem dX10_loss_59 : decode cX10_loss 59 = .ok (.ireturn, 1) := by decide +kernel
theorem dX10_teachCost_0 : decode cX10_teachCost 0 = .ok (.iconst 0, 1) := by decide +kernel
theorem dX10_teachCost_1 : decode cX10_teachCost 1 = .ok (.istore_n 3, 1) := by decide +kernel
theorem dX10_teachCost_2 : decode cX10_teachCost 2 = .ok (.iload_n 3, 1) := by decide +kernel
theorem dX10_teachCost_3 : decode cX10_teachCost 3 = .ok (.aload_n 0, 1) := by decide +kernel
theorem dX10_teachCost_4 : decode cX10_teachCost 4 = .ok (.getfield 162, 3) := by decide +kernel
theorem dX10_teachCost_7 : decode cX10_teachCost 7 = .ok (.if_icmp .ge 43, 3) := by decide +kernel
theorem dX10_teachCost_10 : decode cX10_teachCost 10 = .ok (.aload_n 0, 1) := by decide +kernel
theorem dX10_teachCost_11 : decode cX10_teachCost 11 = .ok (.iload_n 3, 1) := by decide +kernel
theorem dX10_teachCost_12 : decode cX10_teachCost 12 = .ok (.invokevirtual 176, 3) := by decide +kernel
theorem dX10_teachCost_15 : decode cX10_teachCost 15 = .ok (.ifCond .eq 29, 3) := by decide +kernel
theorem dX10_teachCost_18 : decode cX10_teachCost 18 = .ok (.aload_n 0, 1) := by decide +kernel
theorem dX10_teachCost_19 : decode cX10_teachCost 19 = .ok (.iload_n 3, 1) := by decide +kernel
theorem dX10_teachCost_20 : decode cX10_teachCost 20 = .ok (.iload_n 2, 1) := by decide +kernel
theorem dX10_teachCost_21 : decode cX10_teachCost 21 = .ok (.invokevirtual 198, 3) := by decide +kernel
theorem dX10_teachCost_24 : decode cX10_teachCost 24 = .ok (.ifCond .eq 20, 3) := by decide +kernel
theorem dX10_teachCost_27 : decode cX10_teachCost 27 = .ok (.aload_n 0, 1) := by decide +kernel
theorem dX10_teachCost_28 : decode cX10_teachCost 28 = .ok (.getfield 7, 3) := by decide +kernel
theorem dX10_teachCost_31 : decode cX10_teachCost 31 = .ok (.iload_n 3, 1) := by decide +kernel
theorem dX10_teachCost_32 : decode cX10_teachCost 32 = .ok (.iaload, 1) := by decide +kernel
theorem dX10_teachCost_33 : decode cX10_teachCost 33 = .ok (.aload_n 0, 1) := by decide +kernel
theorem dX10_teachCost_34 : decode cX10_teachCost 34 = .ok (.getfield 7, 3) := by decide +kernel
theorem dX10_teachCost_37 : decode cX10_teachCost 37 = .ok (.iload_n 1, 1) := by decide +kernel
theorem dX10_teachCost_38 : decode cX10_teachCost 38 = .ok (.iaload, 1) := by decide +kernel
theorem dX10_teachCost_39 : decode cX10_teachCost 39 = .ok (.if_icmp .ne 5, 3) := by decide +kernel
theorem dX10_teachCost_42 : decode cX10_teachCost 42 = .ok (.iconst 1, 1) := by decide +kernel
theorem dX10_teachCost_43 : decode cX10_teachCost 43 = .ok (.ireturn, 1) := by decide +kernel
theorem dX10_teachCost_44 : decode cX10_teachCost 44 = .ok (.iinc 3 1, 3) := by decide +kernel
theorem dX10_teachCost_47 : decode cX10_teachCost 47 = .ok (.goto (-45), 3) := by decide +kernel
theorem dX10_teachCost_50 : decode cX10_teachCost 50 = .ok (.iconst 3, 1) := by decide +kernel
theorem dX10_teachCost_51 : decode cX10_teachCost 51 = .ok (.ireturn, 1) := by decide +kernel
theorem dX10_costBy_0 : decode cX10_costBy 0 = .ok (.iload_n 3, 1) := by decide +kernel
theorem dX10_costBy_1 : decode cX10_costBy 1 = .ok (.iconst (-1), 1) := by decide +kernel
theorem dX10_costBy_2 : decode cX10_costBy 2 = .ok (.if_icmp .ne 18, 3) := by decide +kernel
theorem dX10_costBy_5 : decode cX10_costBy 5 = .ok (.aload_n 0, 1) := by decide +kernel
theorem dX10_costBy_6 : decode cX10_costBy 6 = .ok (.getfield 153, 3) := by decide +kernel
theorem dX10_costBy_9 : decode cX10_costBy 9 = .ok (.sipush 256, 3) := by decide +kernel
theorem dX10_costBy_12 : decode cX10_costBy 12 = .ok (.iload_n 1, 1) := by decide +kernel
theorem dX10_costBy_13 : decode cX10_costBy 13 = .ok (.iconst 1, 1) := by decide +kernel
theorem dX10_costBy_14 : decode cX10_costBy 14 = .ok (.iadd, 1) := by decide +kernel
theorem dX10_costBy_15 : decode cX10_costBy 15 = .ok (.imul, 1) := by decide +kernel
theorem dX10_costBy_16 : decode cX10_costBy 16 = .ok (.iload_n 2, 1) := by decide +kernel
theorem dX10_costBy_17 : decode cX10_costBy 17 = .ok (.iadd, 1) := by decide +kernel
theorem dX10_costBy_18 : decode cX10_costBy 18 = .ok (.iaload, 1) := by decide +kernel
theorem dX10_costBy_19 : decode cX10_costBy 19 = .ok (.ireturn, 1) := by decide +kernel
theorem dX10_costBy_20 : decode cX10_costBy 20 = .ok (.aload_n 0, 1) := by decide +kernel
theorem dX10_costBy_21 : decode cX10_costBy 21 = .ok (.iload_n 1, 1) := by decide +kernel
theorem dX10_costBy_22 : decode cX10_costBy 22 = .ok (.invokevirtual 176, 3) := by decide +kernel
theorem dX10_costBy_25 : decode cX10_costBy 25 = .ok (.ifCond .eq 27, 3) := by decide +kernel
theorem dX10_costBy_28 : decode cX10_costBy 28 = .ok (.aload_n 0, 1) := by decide +kernel
theorem dX10_costBy_29 : decode cX10_costBy 29 = .ok (.iload_n 1, 1) := by decide +kernel
theorem dX10_costBy_30 : decode cX10_costBy 30 = .ok (.aload_n 0, 1) := by decide +kernel
theorem dX10_costBy_31 : decode cX10_costBy 31 = .ok (.getfield 150, 3) := by decide +kernel
theorem dX10_costBy_34 : decode cX10_costBy 34 = .ok (.iload_n 3, 1) := by decide +kernel
theorem dX10_costBy_35 : decode cX10_costBy 35 = .ok (.iaload, 1) := by decide +kernel
theorem dX10_costBy_36 : decode cX10_costBy 36 = .ok (.invokevirtual 198, 3) := by decide +kernel
theorem dX10_costBy_39 : decode cX10_costBy 39 = .ok (.ifCond .ne 13, 3) := by decide +kernel
theorem dX10_costBy_42 : decode cX10_costBy 42 = .ok (.iload_n 2, 1) := by decide +kernel
theorem dX10_costBy_43 : decode cX10_costBy 43 = .ok (.iconst 2, 1) := by decide +kernel
theorem dX10_costBy_44 : decode cX10_costBy 44 = .ok (.iload_n 3, 1) := by decide +kernel
theorem dX10_costBy_45 : decode cX10_costBy 45 = .ok (.imul, 1) := by decide +kernel
theorem dX10_costBy_46 : decode cX10_costBy 46 = .ok (.ishr, 1) := by decide +kernel
theorem dX10_costBy_47 : decode cX10_costBy 47 = .ok (.iconst 3, 1) := by decide +kernel
theorem dX10_costBy_48 : decode cX10_costBy 48 = .ok (.iand, 1) := by decide +kernel
theorem dX10_costBy_49 : decode cX10_costBy 49 = .ok (.ifCond .ne 7, 3) := by decide +kernel
theorem dX10_costBy_52 : decode cX10_costBy 52 = .ok (.ldc_w 379, 3) := by decide +kernel
theorem dX10_costBy_55 : decode cX10_costBy 55 = .ok (.ireturn, 1) := by decide +kernel
theorem dX10_costBy_56 : decode cX10_costBy 56 = .ok (.aload_n 0, 1) := by decide +kernel
theorem dX10_costBy_57 : decode cX10_costBy 57 = .ok (.iload_n 1, 1) := by decide +kernel
theorem dX10_costBy_58 : decode cX10_costBy 58 = .ok (.aload_n 0, 1) := by decide +kernel
theorem dX10_costBy_59 : decode cX10_costBy 59 = .ok (.getfield 150, 3) := by decide +kernel
theorem dX10_costBy_62 : decode cX10_costBy 62 = .ok (.iload_n 3, 1) := by decide +kernel
theorem dX10_costBy_63 : decode cX10_costBy 63 = .ok (.iaload, 1) := by decide +kernel
theorem dX10_costBy_64 : decode cX10_costBy 64 = .ok (.invokevirtual 383, 3) := by decide +kernel
theorem dX10_costBy_67 : decode cX10_costBy 67 = .ok (.aload_n 0, 1) := by decide +kernel
theorem dX10_costBy_68 : decode cX10_costBy 68 = .ok (.getfield 153, 3) := by decide +kernel
theorem dX10_costBy_71 : decode cX10_costBy 71 = .ok (.sipush 256, 3) := by decide +kernel
theorem dX10_costBy_74 : decode cX10_costBy 74 = .ok (.iload_n 1, 1) := by decide +kernel
theorem dX10_costBy_75 : decode cX10_costBy 75 = .ok (.iconst 1, 1) := by decide +kernel
theorem dX10_costBy_76 : decode cX10_costBy 76 = .ok (.iadd, 1) := by decide +kernel
theorem dX10_costBy_77 : decode cX10_costBy 77 = .ok (.imul, 1) := by decide +kernel
theorem dX10_costBy_78 : decode cX10_costBy 78 = .ok (.iload_n 2, 1) := by decide +kernel
theorem dX10_costBy_79 : decode cX10_costBy 79 = .ok (.iadd, 1) := by decide +kernel
theorem dX10_costBy_80 : decode cX10_costBy 80 = .ok (.iconst 1, 1) := by decide +kernel
theorem dX10_costBy_81 : decode cX10_costBy 81 = .ok (.iconst 2, 1) := by decide +kernel
theorem dX10_costBy_82 : decode cX10_costBy 82 = .ok (.iload_n 3, 1) := by decide +kernel
theorem dX10_costBy_83 : decode cX10_costBy 83 = .ok (.imul, 1) := by decide +kernel
theorem dX10_costBy_84 : decode cX10_costBy 84 = .ok (.ishl, 1) := by decide +kernel
theorem dX10_costBy_85 : decode cX10_costBy 85 = .ok (.isub, 1) := by decide +kernel
theorem dX10_costBy_86 : decode cX10_costBy 86 = .ok (.iaload, 1) := by decide +kernel
theorem dX10_costBy_87 : decode cX10_costBy 87 = .ok (.iadd, 1) := by decide +kernel
theorem dX10_costBy_88 : decode cX10_costBy 88 = .ok (.ireturn, 1) := by decide +kernel
theorem dX10_lacksNow_0 : decode cX10_lacksNow 0 = .ok (.iconst 0, 1) := by decide +kernel
theorem dX10_lacksNow_1 : decode cX10_lacksNow 1 = .ok (.istore_n 2, 1) := by decide +kernel
theorem dX10_lacksNow_2 : decode cX10_lacksNow 2 = .ok (.iconst 0, 1) := by decide +kernel
theorem dX10_lacksNow_3 : decode cX10_lacksNow 3 = .ok (.istore_n 3, 1) := by decide +kernel
theorem dX10_lacksNow_4 : decode cX10_lacksNow 4 = .ok (.iload_n 3, 1) := by decide +kernel
theorem dX10_lacksNow_5 : decode cX10_lacksNow 5 = .ok (.aload_n 0, 1) := by decide +kernel
theorem dX10_lacksNow_6 : decode cX10_lacksNow 6 = .ok (.getfield 386, 3) := by decide +kernel
theorem dX10_lacksNow_9 : decode cX10_lacksNow 9 = .ok (.if_icmp .ge 49, 3) := by decide +kernel
theorem dX10_lacksNow_12 : decode cX10_lacksNow 12 = .ok (.aload_n 0, 1) := by decide +kernel
theorem dX10_lacksNow_13 : decode cX10_lacksNow 13 = .ok (.aload_n 0, 1) := by decide +kernel
theorem dX10_lacksNow_14 : decode cX10_lacksNow 14 = .ok (.getfield 150, 3) := by decide +kernel
theorem dX10_lacksNow_17 : decode cX10_lacksNow 17 = .ok (.iload_n 3, 1) := by decide +kernel
theorem dX10_lacksNow_18 : decode cX10_lacksNow 18 = .ok (.iaload, 1) := by decide +kernel
theorem dX10_lacksNow_19 : decode cX10_lacksNow 19 = .ok (.invokevirtual 202, 3) := by decide +kernel
theorem dX10_lacksNow_22 : decode cX10_lacksNow 22 = .ok (.istore 4, 2) := by decide +kernel
theorem dX10_lacksNow_24 : decode cX10_lacksNow 24 = .ok (.iload 4, 2) := by decide +kernel
theorem dX10_lacksNow_26 : decode cX10_lacksNow 26 = .ok (.ifCond .ne 5, 3) := by decide +kernel
theorem dX10_lacksNow_29 : decode cX10_lacksNow 29 = .ok (.iconst (-1), 1) := by decide +kernel
theorem dX10_lacksNow_30 : decode cX10_lacksNow 30 = .ok (.ireturn, 1) := by decide +kernel
theorem dX10_lacksNow_31 : decode cX10_lacksNow 31 = .ok (.iload_n 2, 1) := by decide +kernel
theorem dX10_lacksNow_32 : decode cX10_lacksNow 32 = .ok (.iload 4, 2) := by decide +kernel
theorem dX10_lacksNow_34 : decode cX10_lacksNow 34 = .ok (.iload_n 1, 1) := by decide +kernel
theorem dX10_lacksNow_35 : decode cX10_lacksNow 35 = .ok (.if_icmp .ge 10, 3) := by decide +kernel
theorem dX10_lacksNow_38 : decode cX10_lacksNow 38 = .ok (.iload_n 1, 1) := by decide +kernel
theorem dX10_lacksNow_39 : decode cX10_lacksNow 39 = .ok (.iload 4, 2) := by decide +kernel
theorem dX10_lacksNow_41 : decode cX10_lacksNow 41 = .ok (.isub, 1) := by decide +kernel
theorem dX10_lacksNow_42 : decode cX10_lacksNow 42 = .ok (.goto 4, 3) := by decide +kernel
theorem dX10_lacksNow_45 : decode cX10_lacksNow 45 = .ok (.iconst 0, 1) := by decide +kernel
theorem dX10_lacksNow_46 : decode cX10_lacksNow 46 = .ok (.iconst 2, 1) := by decide +kernel
theorem dX10_lacksNow_47 : decode cX10_lacksNow 47 = .ok (.iload_n 3, 1) := by decide +kernel
theorem dX10_lacksNow_48 : decode cX10_lacksNow 48 = .ok (.imul, 1) := by decide +kernel
theorem dX10_lacksNow_49 : decode cX10_lacksNow 49 = .ok (.ishl, 1) := by decide +kernel
theorem dX10_lacksNow_50 : decode cX10_lacksNow 50 = .ok (.ior, 1) := by decide +kernel
theorem dX10_lacksNow_51 : decode cX10_lacksNow 51 = .ok (.istore_n 2, 1) := by decide +kernel
theorem dX10_lacksNow_52 : decode cX10_lacksNow 52 = .ok (.iinc 3 1, 3) := by decide +kernel
theorem dX10_lacksNow_55 : decode cX10_lacksNow 55 = .ok (.goto (-51), 3) := by decide +kernel
theorem dX10_lacksNow_58 : decode cX10_lacksNow 58 = .ok (.iload_n 2, 1) := by decide +kernel
theorem dX10_lacksNow_59 : decode cX10_lacksNow 59 = .ok (.ireturn, 1) := by decide +kernel
theorem dX10_plan_0 : decode cX10_plan 0 = .ok (.aload_n 0, 1) := by decide +kernel
theorem dX10_plan_1 : decode cX10_plan 1 = .ok (.iconst 0, 1) := by decide +kernel
theorem dX10_plan_2 : decode cX10_plan 2 = .ok (.putfield 159, 3) := by decide +kernel
theorem dX10_plan_5 : decode cX10_plan 5 = .ok (.aload_n 0, 1) := by decide +kernel
theorem dX10_plan_6 : decode cX10_plan 6 = .ok (.iload_n 1, 1) := by decide +kernel
theorem dX10_plan_7 : decode cX10_plan 7 = .ok (.invokevirtual 380, 3) := by decide +kernel
theorem dX10_plan_10 : decode cX10_plan 10 = .ok (.ifCond .eq 49, 3) := by decide +kernel
theorem dX10_plan_13 : decode cX10_plan 13 = .ok (.aload_n 0, 1) := by decide +kernel
theorem dX10_plan_14 : decode cX10_plan 14 = .ok (.iload_n 1, 1) := by decide +kernel
theorem dX10_plan_15 : decode cX10_plan 15 = .ok (.invokevirtual 376, 3) := by decide +kernel
theorem dX10_plan_18 : decode cX10_plan 18 = .ok (.iconst 4, 1) := by decide +kernel
theorem dX10_plan_19 : decode cX10_plan 19 = .ok (.if_icmp .gt 40, 3) := by decide +kernel
theorem dX10_plan_22 : decode cX10_plan 22 = .ok (.aload_n 0, 1) := by decide +kernel
theorem dX10_plan_23 : decode cX10_plan 23 = .ok (.iload_n 2, 1) := by decide +kernel
theorem dX10_plan_24 : decode cX10_plan 24 = .ok (.iconst 1, 1) := by decide +kernel
theorem dX10_plan_25 : decode cX10_plan 25 = .ok (.iconst 3, 1) := by decide +kernel
theorem dX10_plan_26 : decode cX10_plan 26 = .ok (.invokevirtual 169, 3) := by decide +kernel
theorem dX10_plan_29 : decode cX10_plan 29 = .ok (.ifCond .eq 30, 3) := by decide +kernel
theorem dX10_plan_32 : decode cX10_plan 32 = .ok (.aload_n 0, 1) := by decide +kernel
theorem dX10_plan_33 : decode cX10_plan 33 = .ok (.iload_n 3, 1) := by decide +kernel
theorem dX10_plan_34 : decode cX10_plan 34 = .ok (.iconst 0, 1) := by decide +kernel
theorem dX10_plan_35 : decode cX10_plan 35 = .ok (.iconst 1, 1) := by decide +kernel
theorem dX10_plan_36 : decode cX10_plan 36 = .ok (.invokevirtual 169, 3) := by decide +kernel
theorem dX10_plan_39 : decode cX10_plan 39 = .ok (.ifCond .ne 22, 3) := by decide +kernel
theorem dX10_plan_42 : decode cX10_plan 42 = .ok (.aload_n 0, 1) := by decide +kernel
theorem dX10_plan_43 : decode cX10_plan 43 = .ok (.iload_n 3, 1) := by decide +kernel
theorem dX10_plan_44 : decode cX10_plan 44 = .ok (.bipush 10, 2) := by decide +kernel
theorem dX10_plan_46 : decode cX10_plan 46 = .ok (.bipush 9, 2) := by decide +kernel
theorem dX10_plan_48 : decode cX10_plan 48 = .ok (.aload_n 0, 1) := by decide +kernel
theorem dX10_plan_49 : decode cX10_plan 49 = .ok (.getfield 162, 3) := by decide +kernel
theorem dX10_plan_52 : decode cX10_plan 52 = .ok (.iadd, 1) := by decide +kernel
theorem dX10_plan_53 : decode cX10_plan 53 = .ok (.invokevirtual 169, 3) := by decide +kernel
theorem dX10_plan_56 : decode cX10_plan 56 = .ok (.ifCond .ne 5, 3) := by decide +kernel
theorem dX10_plan_59 : decode cX10_plan 59 = .ok (.iconst (-1), 1) := by decide +kernel
theorem dX10_plan_60 : decode cX10_plan 60 = .ok (.ireturn, 1) := by decide +kernel
theorem dX10_plan_61 : decode cX10_plan 61 = .ok (.aload_n 0, 1) := by decide +kernel
theorem dX10_plan_62 : decode cX10_plan 62 = .ok (.iconst 0, 1) := by decide +kernel
theorem dX10_plan_63 : decode cX10_plan 63 = .ok (.putfield 386, 3) := by decide +kernel
theorem dX10_plan_66 : decode cX10_plan 66 = .ok (.iconst 0, 1) := by decide +kernel
theorem dX10_plan_67 : decode cX10_plan 67 = .ok (.istore 4, 2) := by decide +kernel
theorem dX10_plan_69 : decode cX10_plan 69 = .ok (.iload 4, 2) := by decide +kernel
theorem dX10_plan_71 : decode cX10_plan 71 = .ok (.aload_n 0, 1) := by decide +kernel
theorem dX10_plan_72 : decode cX10_plan 72 = .ok (.getfield 185, 3) := by decide +kernel
theorem dX10_plan_75 : decode cX10_plan 75 = .ok (.if_icmp .ge 42, 3) := by decide +kernel
theorem dX10_plan_78 : decode cX10_plan 78 = .ok (.iload_n 1, 1) := by decide +kernel
theorem dX10_plan_79 : decode cX10_plan 79 = .ok (.iload 4, 2) := by decide +kernel
theorem dX10_plan_81 : decode cX10_plan 81 = .ok (.ishr, 1) := by decide +kernel
theorem dX10_plan_82 : decode cX10_plan 82 = .ok (.iconst 1, 1) := by decide +kernel
theorem dX10_plan_83 : decode cX10_plan 83 = .ok (.iand, 1) := by decide +kernel
theorem dX10_plan_84 : decode cX10_plan 84 = .ok (.ifCond .ne 6, 3) := by decide +kernel
theorem dX10_plan_87 : decode cX10_plan 87 = .ok (.goto 24, 3) := by decide +kernel
theorem dX10_plan_90 : decode cX10_plan 90 = .ok (.aload_n 0, 1) := by decide +kernel
theorem dX10_plan_91 : decode cX10_plan 91 = .ok (.getfield 150, 3) := by decide +kernel
theorem dX10_plan_94 : decode cX10_plan 94 = .ok (.aload_n 0, 1) := by decide +kernel
theorem dX10_plan_95 : decode cX10_plan 95 = .ok (.getfield 386, 3) := by decide +kernel
theorem dX10_plan_98 : decode cX10_plan 98 = .ok (.iload 4, 2) := by decide +kernel
theorem dX10_plan_100 : decode cX10_plan 100 = .ok (.iastore, 1) := by decide +kernel
theorem dX10_plan_101 : decode cX10_plan 101 = .ok (.aload_n 0, 1) := by decide +kernel
theorem dX10_plan_102 : decode cX10_plan 102 = .ok (.aload_n 0, 1) := by decide +kernel
theorem dX10_plan_103 : decode cX10_plan 103 = .ok (.getfield 386, 3) := by decide +kernel
theorem dX10_plan_106 : decode cX10_plan 106 = .ok (.iconst 1, 1) := by decide +kernel
theorem dX10_plan_107 : decode cX10_plan 107 = .ok (.iadd, 1) := by decide +kernel
theorem dX10_plan_108 : decode cX10_plan 108 = .ok (.putfield 386, 3) := by decide +kernel
theorem dX10_plan_111 : decode cX10_plan 111 = .ok (.iinc 4 1, 3) := by decide +kernel
theorem dX10_plan_114 : decode cX10_plan 114 = .ok (.goto (-45), 3) := by decide +kernel
theorem dX10_plan_117 : decode cX10_plan 117 = .ok (.aload_n 0, 1) := by decide +kernel
theorem dX10_plan_118 : decode cX10_plan 118 = .ok (.iload_n 2, 1) := by decide +kernel
theorem dX10_plan_119 : decode cX10_plan 119 = .ok (.invokevirtual 389, 3) := by decide +kernel
theorem dX10_plan_122 : decode cX10_plan 122 = .ok (.istore 4, 2) := by decide +kernel
theorem dX10_plan_124 : decode cX10_plan 124 = .ok (.iload 4, 2) := by decide +kernel
theorem dX10_plan_126 : decode cX10_plan 126 = .ok (.iconst (-1), 1) := by decide +kernel
theorem dX10_plan_127 : decode cX10_plan 127 = .ok (.if_icmp .ne 5, 3) := by decide +kernel
theorem dX10_plan_130 : decode cX10_plan 130 = .ok (.iconst (-1), 1) := by decide +kernel
theorem dX10_plan_131 : decode cX10_plan 131 = .ok (.ireturn, 1) := by decide +kernel
theorem dX10_plan_132 : decode cX10_plan 132 = .ok (.iconst 0, 1) := by decide +kernel
theorem dX10_plan_133 : decode cX10_plan 133 = .ok (.istore 5, 2) := by decide +kernel
theorem dX10_plan_135 : decode cX10_plan 135 = .ok (.iload 5, 2) := by decide +kernel
theorem dX10_plan_137 : decode cX10_plan 137 = .ok (.sipush 256, 3) := by decide +kernel
theorem dX10_plan_140 : decode cX10_plan 140 = .ok (.if_icmp .ge 37, 3) := by decide +kernel
theorem dX10_plan_143 : decode cX10_plan 143 = .ok (.aload_n 0, 1) := by decide +kernel
theorem dX10_plan_144 : decode cX10_plan 144 = .ok (.getfield 153, 3) := by decide +kernel
theorem dX10_plan_147 : decode cX10_plan 147 = .ok (.sipush 256, 3) := by decide +kernel
theorem dX10_plan_150 : decode cX10_plan 150 = .ok (.aload_n 0, 1) := by decide +kernel
theorem dX10_plan_151 : decode cX10_plan 151 = .ok (.getfield 162, 3) := by decide +kernel
theorem dX10_plan_154 : decode cX10_plan 154 = .ok (.imul, 1) := by decide +kernel
theorem dX10_plan_155 : decode cX10_plan 155 = .ok (.iload 5, 2) := by decide +kernel
theorem dX10_plan_157 : decode cX10_plan 157 = .ok (.iadd, 1) := by decide +kernel
theorem dX10_plan_158 : decode cX10_plan 158 = .ok (.iload 5, 2) := by decide +kernel
theorem dX10_plan_160 : decode cX10_plan 160 = .ok (.ifCond .ne 7, 3) := by decide +kernel
theorem dX10_plan_163 : decode cX10_plan 163 = .ok (.iconst 0, 1) := by decide +kernel
theorem dX10_plan_164 : decode cX10_plan 164 = .ok (.goto 6, 3) := by decide +kernel
theorem dX10_plan_167 : decode cX10_plan 167 = .ok (.ldc_w 379, 3) := by decide +kernel
theorem dX10_plan_170 : decode cX10_plan 170 = .ok (.iastore, 1) := by decide +kernel
theorem dX10_plan_171 : decode cX10_plan 171 = .ok (.iinc 5 1, 3) := by decide +kernel
theorem dX10_plan_174 : decode cX10_plan 174 = .ok (.goto (-39), 3) := by decide +kernel
theorem dX10_plan_177 : decode cX10_plan 177 = .ok (.aload_n 0, 1) := by decide +kernel
theorem dX10_plan_178 : decode cX10_plan 178 = .ok (.getfield 162, 3) := by decide +kernel
theorem dX10_plan_181 : decode cX10_plan 181 = .ok (.iconst 1, 1) := by decide +kernel
theorem dX10_plan_182 : decode cX10_plan 182 = .ok (.isub, 1) := by decide +kernel
theorem dX10_plan_183 : decode cX10_plan 183 = .ok (.istore 5, 2) := by decide +kernel
theorem dX10_plan_185 : decode cX10_plan 185 = .ok (.iload 5, 2) := by decide +kernel
theorem dX10_plan_187 : decode cX10_plan 187 = .ok (.ifCond .lt 103, 3) := by decide +kernel
theorem dX10_plan_190 : decode cX10_plan 190 = .ok (.iconst 0, 1) := by decide +kernel
theorem dX10_plan_191 : decode cX10_plan 191 = .ok (.istore 6, 2) := by decide +kernel
theorem dX10_plan_193 : decode cX10_plan 193 = .ok (.iload 6, 2) := by decide +kernel
theorem dX10_plan_195 : decode cX10_plan 195 = .ok (.sipush 256, 3) := by decide +kernel
theorem dX10_plan_198 : decode cX10_plan 198 = .ok (.if_icmp .ge 86, 3) := by decide +kernel
theorem dX10_plan_201 : decode cX10_plan 201 = .ok (.aload_n 0, 1) := by decide +kernel
theorem dX10_plan_202 : decode cX10_plan 202 = .ok (.iload 5, 2) := by decide +kernel
theorem dX10_plan_204 : decode cX10_plan 204 = .ok (.iload 6, 2) := by decide +kernel
theorem dX10_plan_206 : decode cX10_plan 206 = .ok (.iconst (-1), 1) := by decide +kernel
theorem dX10_plan_207 : decode cX10_plan 207 = .ok (.invokevirtual 392, 3) := by decide +kernel
theorem dX10_plan_210 : decode cX10_plan 210 = .ok (.istore 7, 2) := by decide +kernel
theorem dX10_plan_212 : decode cX10_plan 212 = .ok (.iconst 0, 1) := by decide +kernel
theorem dX10_plan_213 : decode cX10_plan 213 = .ok (.istore 8, 2) := by decide +kernel
theorem dX10_plan_215 : decode cX10_plan 215 = .ok (.iload 8, 2) := by decide +kernel
theorem dX10_plan_217 : decode cX10_plan 217 = .ok (.aload_n 0, 1) := by decide +kernel
theorem dX10_plan_218 : decode cX10_plan 218 = .ok (.getfield 386, 3) := by decide +kernel
theorem dX10_plan_221 : decode cX10_plan 221 = .ok (.if_icmp .ge 27, 3) := by decide +kernel
theorem dX10_plan_224 : decode cX10_plan 224 = .ok (.aload_n 0, 1) := by decide +kernel
theorem dX10_plan_225 : decode cX10_plan 225 = .ok (.iload 7, 2) := by decide +kernel
theorem dX10_plan_227 : decode cX10_plan 227 = .ok (.aload_n 0, 1) := by decide +kernel
theorem dX10_plan_228 : decode cX10_plan 228 = .ok (.iload 5, 2) := by decide +kernel
theorem dX10_plan_230 : decode cX10_plan 230 = .ok (.iload 6, 2) := by decide +kernel
theorem dX10_plan_232 : decode cX10_plan 232 = .ok (.iload 8, 2) := by decide +kernel
theorem dX10_plan_234 : decode cX10_plan 234 = .ok (.invokevirtual 392, 3) := by decide +kernel
theorem dX10_plan_237 : decode cX10_plan 237 = .ok (.invokevirtual 367, 3) := by decide +kernel
theorem dX10_plan_240 : decode cX10_plan 240 = .ok (.istore 7, 2) := by decide +kernel
theorem dX10_plan_242 : decode cX10_plan 242 = .ok (.iinc 8 1, 3) := by decide +kernel
theorem dX10_plan_245 : decode cX10_plan 245 = .ok (.goto (-30), 3) := by decide +kernel
theorem dX10_plan_248 : decode cX10_plan 248 = .ok (.aload_n 0, 1) := by decide +kernel
theorem dX10_plan_249 : decode cX10_plan 249 = .ok (.getfield 153, 3) := by decide +kernel
theorem dX10_plan_252 : decode cX10_plan 252 = .ok (.sipush 256, 3) := by decide +kernel
theorem dX10_plan_255 : decode cX10_plan 255 = .ok (.iload 5, 2) := by decide +kernel
theorem dX10_plan_257 : decode cX10_plan 257 = .ok (.imul, 1) := by decide +kernel
theorem dX10_plan_258 : decode cX10_plan 258 = .ok (.iload 6, 2) := by decide +kernel
theorem dX10_plan_260 : decode cX10_plan 260 = .ok (.iadd, 1) := by decide +kernel
theorem dX10_plan_261 : decode cX10_plan 261 = .ok (.iload 7, 2) := by decide +kernel
theorem dX10_plan_263 : decode cX10_plan 263 = .ok (.ldc_w 379, 3) := by decide +kernel
theorem dX10_plan_266 : decode cX10_plan 266 = .ok (.if_icmp .le 9, 3) := by decide +kernel
theorem dX10_plan_269 : decode cX10_plan 269 = .ok (.ldc_w 379, 3) := by decide +kernel
theorem dX10_plan_272 : decode cX10_plan 272 = .ok (.goto 5, 3) := by decide +kernel
theorem dX10_plan_275 : decode cX10_plan 275 = .ok (.iload 7, 2) := by decide +kernel
theorem dX10_plan_277 : decode cX10_plan 277 = .ok (.iastore, 1) := by decide +kernel
theorem dX10_plan_278 : decode cX10_plan 278 = .ok (.iinc 6 1, 3) := by decide +kernel
theorem dX10_plan_281 : decode cX10_plan 281 = .ok (.goto (-88), 3) := by decide +kernel
theorem dX10_plan_284 : decode cX10_plan 284 = .ok (.iinc 5 (-1), 3) := by decide +kernel
theorem dX10_plan_287 : decode cX10_plan 287 = .ok (.goto (-102), 3) := by decide +kernel
theorem dX10_plan_290 : decode cX10_plan 290 = .ok (.aload_n 0, 1) := by decide +kernel
theorem dX10_plan_291 : decode cX10_plan 291 = .ok (.getfield 153, 3) := by decide +kernel
theorem dX10_plan_294 : decode cX10_plan 294 = .ok (.iload 4, 2) := by decide +kernel
theorem dX10_plan_296 : decode cX10_plan 296 = .ok (.iaload, 1) := by decide +kernel
theorem dX10_plan_297 : decode cX10_plan 297 = .ok (.istore 5, 2) := by decide +kernel
theorem dX10_plan_299 : decode cX10_plan 299 = .ok (.iload 5, 2) := by decide +kernel
theorem dX10_plan_301 : decode cX10_plan 301 = .ok (.ldc_w 379, 3) := by decide +kernel
theorem dX10_plan_304 : decode cX10_plan 304 = .ok (.if_icmp .lt 5, 3) := by decide +kernel
theorem dX10_plan_307 : decode cX10_plan 307 = .ok (.iconst (-1), 1) := by decide +kernel
theorem dX10_plan_308 : decode cX10_plan 308 = .ok (.ireturn, 1) := by decide +kernel
theorem dX10_plan_309 : decode cX10_plan 309 = .ok (.iconst 0, 1) := by decide +kernel
theorem dX10_plan_310 : decode cX10_plan 310 = .ok (.istore 6, 2) := by decide +kernel
theorem dX10_plan_312 : decode cX10_plan 312 = .ok (.iconst 0, 1) := by decide +kernel
theorem dX10_plan_313 : decode cX10_plan 313 = .ok (.istore 7, 2) := by decide +kernel
theorem dX10_plan_315 : decode cX10_plan 315 = .ok (.iload 7, 2) := by decide +kernel
theorem dX10_plan_317 : decode cX10_plan 317 = .ok (.aload_n 0, 1) := by decide +kernel
theorem dX10_plan_318 : decode cX10_plan 318 = .ok (.getfield 386, 3) := by decide +kernel
theorem dX10_plan_321 : decode cX10_plan 321 = .ok (.if_icmp .ge 23, 3) := by decide +kernel
theorem dX10_plan_324 : decode cX10_plan 324 = .ok (.iload 6, 2) := by decide +kernel
theorem dX10_plan_326 : decode cX10_plan 326 = .ok (.iload 4, 2) := by decide +kernel
theorem dX10_plan_328 : decode cX10_plan 328 = .ok (.iconst 2, 1) := by decide +kernel
theorem dX10_plan_329 : decode cX10_plan 329 = .ok (.iload 7, 2) := by decide +kernel
theorem dX10_plan_331 : decode cX10_plan 331 = .ok (.imul, 1) := by decide +kernel
theorem dX10_plan_332 : decode cX10_plan 332 = .ok (.ishr, 1) := by decide +kernel
theorem dX10_plan_333 : decode cX10_plan 333 = .ok (.iconst 3, 1) := by decide +kernel
theorem dX10_plan_334 : decode cX10_plan 334 = .ok (.iand, 1) := by decide +kernel
theorem dX10_plan_335 : decode cX10_plan 335 = .ok (.iadd, 1) := by decide +kernel
theorem dX10_plan_336 : decode cX10_plan 336 = .ok (.istore 6, 2) := by decide +kernel
theorem dX10_plan_338 : decode cX10_plan 338 = .ok (.iinc 7 1, 3) := by decide +kernel
theorem dX10_plan_341 : decode cX10_plan 341 = .ok (.goto (-26), 3) := by decide +kernel
theorem dX10_plan_344 : decode cX10_plan 344 = .ok (.iload_n 3, 1) := by decide +kernel
theorem dX10_plan_345 : decode cX10_plan 345 = .ok (.iconst 2, 1) := by decide +kernel
theorem dX10_plan_346 : decode cX10_plan 346 = .ok (.if_icmp .ge 15, 3) := by decide +kernel
theorem dX10_plan_349 : decode cX10_plan 349 = .ok (.iload_n 3, 1) := by decide +kernel
theorem dX10_plan_350 : decode cX10_plan 350 = .ok (.ifCond .ne 8, 3) := by decide +kernel
theorem dX10_plan_353 : decode cX10_plan 353 = .ok (.iload 5, 2) := by decide +kernel
theorem dX10_plan_355 : decode cX10_plan 355 = .ok (.goto 5, 3) := by decide +kernel
theorem dX10_plan_358 : decode cX10_plan 358 = .ok (.iload 6, 2) := by decide +kernel
theorem dX10_plan_360 : decode cX10_plan 360 = .ok (.ireturn, 1) := by decide +kernel
theorem dX10_plan_361 : decode cX10_plan 361 = .ok (.aload_n 0, 1) := by decide +kernel
theorem dX10_plan_362 : decode cX10_plan 362 = .ok (.iload_n 3, 1) := by decide +kernel
theorem dX10_plan_363 : decode cX10_plan 363 = .ok (.bipush 10, 2) := by decide +kernel
theorem dX10_plan_365 : decode cX10_plan 365 = .ok (.isub, 1) := by decide +kernel
theorem dX10_plan_366 : decode cX10_plan 366 = .ok (.iload 4, 2) := by decide +kernel
theorem dX10_plan_368 : decode cX10_plan 368 = .ok (.invokevirtual 395, 3) := by decide +kernel
theorem dX10_plan_371 : decode cX10_plan 371 = .ok (.ireturn, 1) := by decide +kernel
theorem dX10_taughtBy_0 : decode cX10_taughtBy 0 = .ok (.iload_n 2, 1) := by decide +kernel
theorem dX10_taughtBy_1 : decode cX10_taughtBy 1 = .ok (.istore_n 3, 1) := by decide +kernel
theorem dX10_taughtBy_2 : decode cX10_taughtBy 2 = .ok (.iconst (-1), 1) := by decide +kernel
theorem dX10_taughtBy_3 : decode cX10_taughtBy 3 = .ok (.istore 4, 2) := by decide +kernel
theorem dX10_taughtBy_5 : decode cX10_taughtBy 5 = .ok (.iconst 0, 1) := by decide +kernel
theorem dX10_taughtBy_6 : decode cX10_taughtBy 6 = .ok (.istore 5, 2) := by decide +kernel
theorem dX10_taughtBy_8 : decode cX10_taughtBy 8 = .ok (.iload 5, 2) := by decide +kernel
theorem dX10_taughtBy_10 : decode cX10_taughtBy 10 = .ok (.iload_n 1, 1) := by decide +kernel
theorem dX10_taughtBy_11 : decode cX10_taughtBy 11 = .ok (.if_icmp .gt 95, 3) := by decide +kernel
theorem dX10_taughtBy_14 : decode cX10_taughtBy 14 = .ok (.iconst 0, 1) := by decide +kernel
theorem dX10_taughtBy_15 : decode cX10_taughtBy 15 = .ok (.istore 6, 2) := by decide +kernel
theorem dX10_taughtBy_17 : decode cX10_taughtBy 17 = .ok (.iload 6, 2) := by decide +kernel
theorem dX10_taughtBy_19 : decode cX10_taughtBy 19 = .ok (.aload_n 0, 1) := by decide +kernel
theorem dX10_taughtBy_20 : decode cX10_taughtBy 20 = .ok (.getfield 386, 3) := by decide +kernel
theorem dX10_taughtBy_23 : decode cX10_taughtBy 23 = .ok (.if_icmp .ge 37, 3) := by decide +kernel
theorem dX10_taughtBy_26 : decode cX10_taughtBy 26 = .ok (.aload_n 0, 1) := by decide +kernel
theorem dX10_taughtBy_27 : decode cX10_taughtBy 27 = .ok (.iload 5, 2) := by decide +kernel
theorem dX10_taughtBy_29 : decode cX10_taughtBy 29 = .ok (.iload_n 3, 1) := by decide +kernel
theorem dX10_taughtBy_30 : decode cX10_taughtBy 30 = .ok (.iload 6, 2) := by decide +kernel
theorem dX10_taughtBy_32 : decode cX10_taughtBy 32 = .ok (.invokevirtual 392, 3) := by decide +kernel
theorem dX10_taughtBy_35 : decode cX10_taughtBy 35 = .ok (.aload_n 0, 1) := by decide +kernel
theorem dX10_taughtBy_36 : decode cX10_taughtBy 36 = .ok (.getfield 153, 3) := by decide +kernel
theorem dX10_taughtBy_39 : decode cX10_taughtBy 39 = .ok (.sipush 256, 3) := by decide +kernel
theorem dX10_taughtBy_42 : decode cX10_taughtBy 42 = .ok (.iload 5, 2) := by decide +kernel
theorem dX10_taughtBy_44 : decode cX10_taughtBy 44 = .ok (.imul, 1) := by decide +kernel
theorem dX10_taughtBy_45 : decode cX10_taughtBy 45 = .ok (.iload_n 3, 1) := by decide +kernel
theorem dX10_taughtBy_46 : decode cX10_taughtBy 46 = .ok (.iadd, 1) := by decide +kernel
theorem dX10_taughtBy_47 : decode cX10_taughtBy 47 = .ok (.iaload, 1) := by decide +kernel
theorem dX10_taughtBy_48 : decode cX10_taughtBy 48 = .ok (.if_icmp .eq 12, 3) := by decide +kernel
theorem dX10_taughtBy_51 : decode cX10_taughtBy 51 = .ok (.iload 6, 2) := by decide +kernel
theorem dX10_taughtBy_53 : decode cX10_taughtBy 53 = .ok (.iconst 1, 1) := by decide +kernel
theorem dX10_taughtBy_54 : decode cX10_taughtBy 54 = .ok (.iadd, 1) := by decide +kernel
theorem dX10_taughtBy_55 : decode cX10_taughtBy 55 = .ok (.istore 6, 2) := by decide +kernel
theorem dX10_taughtBy_57 : decode cX10_taughtBy 57 = .ok (.goto (-40), 3) := by decide +kernel
theorem dX10_taughtBy_60 : decode cX10_taughtBy 60 = .ok (.iload 6, 2) := by decide +kernel
theorem dX10_taughtBy_62 : decode cX10_taughtBy 62 = .ok (.aload_n 0, 1) := by decide +kernel
theorem dX10_taughtBy_63 : decode cX10_taughtBy 63 = .ok (.getfield 386, 3) := by decide +kernel
theorem dX10_taughtBy_66 : decode cX10_taughtBy 66 = .ok (.if_icmp .ge 13, 3) := by decide +kernel
theorem dX10_taughtBy_69 : decode cX10_taughtBy 69 = .ok (.aload_n 0, 1) := by decide +kernel
theorem dX10_taughtBy_70 : decode cX10_taughtBy 70 = .ok (.getfield 150, 3) := by decide +kernel
theorem dX10_taughtBy_73 : decode cX10_taughtBy 73 = .ok (.iload 6, 2) := by decide +kernel
theorem dX10_taughtBy_75 : decode cX10_taughtBy 75 = .ok (.iaload, 1) := by decide +kernel
theorem dX10_taughtBy_76 : decode cX10_taughtBy 76 = .ok (.goto 4, 3) := by decide +kernel
theorem dX10_taughtBy_79 : decode cX10_taughtBy 79 = .ok (.iconst (-1), 1) := by decide +kernel
theorem dX10_taughtBy_80 : decode cX10_taughtBy 80 = .ok (.istore 4, 2) := by decide +kernel
theorem dX10_taughtBy_82 : decode cX10_taughtBy 82 = .ok (.iload 6, 2) := by decide +kernel
theorem dX10_taughtBy_84 : decode cX10_taughtBy 84 = .ok (.aload_n 0, 1) := by decide +kernel
theorem dX10_taughtBy_85 : decode cX10_taughtBy 85 = .ok (.getfield 386, 3) := by decide +kernel
theorem dX10_taughtBy_88 : decode cX10_taughtBy 88 = .ok (.if_icmp .ge 12, 3) := by decide +kernel
theorem dX10_taughtBy_91 : decode cX10_taughtBy 91 = .ok (.iload_n 3, 1) := by decide +kernel
theorem dX10_taughtBy_92 : decode cX10_taughtBy 92 = .ok (.iconst 1, 1) := by decide +kernel
theorem dX10_taughtBy_93 : decode cX10_taughtBy 93 = .ok (.iconst 2, 1) := by decide +kernel
theorem dX10_taughtBy_94 : decode cX10_taughtBy 94 = .ok (.iload 6, 2) := by decide +kernel
theorem dX10_taughtBy_96 : decode cX10_taughtBy 96 = .ok (.imul, 1) := by decide +kernel
theorem dX10_taughtBy_97 : decode cX10_taughtBy 97 = .ok (.ishl, 1) := by decide +kernel
theorem dX10_taughtBy_98 : decode cX10_taughtBy 98 = .ok (.isub, 1) := by decide +kernel
theorem dX10_taughtBy_99 : decode cX10_taughtBy 99 = .ok (.istore_n 3, 1) := by decide +kernel
theorem dX10_taughtBy_100 : decode cX10_taughtBy 100 = .ok (.iinc 5 1, 3) := by decide +kernel
theorem dX10_taughtBy_103 : decode cX10_taughtBy 103 = .ok (.goto (-95), 3) := by decide +kernel
theorem dX10_taughtBy_106 : decode cX10_taughtBy 106 = .ok (.iload 4, 2) := by decide +kernel
theorem dX10_taughtBy_108 : decode cX10_taughtBy 108 = .ok (.ireturn, 1) := by decide +kernel
theorem dX10_book_0 : decode cX10_book 0 = .ok (.aload_n 0, 1) := by decide +kernel
theorem dX10_book_1 : decode cX10_book 1 = .ok (.iconst 0, 1) := by decide +kernel
theorem dX10_book_2 : decode cX10_book 2 = .ok (.putfield 159, 3) := by decide +kernel
theorem dX10_book_5 : decode cX10_book 5 = .ok (.aload_n 0, 1) := by decide +kernel
theorem dX10_book_6 : decode cX10_book 6 = .ok (.iload_n 1, 1) := by decide +kernel
theorem dX10_book_7 : decode cX10_book 7 = .ok (.invokevirtual 188, 3) := by decide +kernel
theorem dX10_book_10 : decode cX10_book 10 = .ok (.ifCond .eq 16, 3) := by decide +kernel
theorem dX10_book_13 : decode cX10_book 13 = .ok (.iload_n 2, 1) := by decide +kernel
theorem dX10_book_14 : decode cX10_book 14 = .ok (.iconst (-1), 1) := by decide +kernel
theorem dX10_book_15 : decode cX10_book 15 = .ok (.if_icmp .eq 13, 3) := by decide +kernel
theorem dX10_book_18 : decode cX10_book 18 = .ok (.aload_n 0, 1) := by decide +kernel
theorem dX10_book_19 : decode cX10_book 19 = .ok (.iload_n 2, 1) := by decide +kernel
theorem dX10_book_20 : decode cX10_book 20 = .ok (.invokevirtual 191, 3) := by decide +kernel
theorem dX10_book_23 : decode cX10_book 23 = .ok (.ifCond .ne 5, 3) := by decide +kernel
theorem dX10_book_26 : decode cX10_book 26 = .ok (.iconst 0, 1) := by decide +kernel
theorem dX10_book_27 : decode cX10_book 27 = .ok (.ireturn, 1) := by decide +kernel
theorem dX10_book_28 : decode cX10_book 28 = .ok (.aload_n 0, 1) := by decide +kernel
theorem dX10_book_29 : decode cX10_book 29 = .ok (.getfield 156, 3) := by decide +kernel
theorem dX10_book_32 : decode cX10_book 32 = .ok (.iload_n 1, 1) := by decide +kernel
theorem dX10_book_33 : decode cX10_book 33 = .ok (.iload_n 2, 1) := by decide +kernel
theorem dX10_book_34 : decode cX10_book 34 = .ok (.iastore, 1) := by decide +kernel
theorem dX10_book_35 : decode cX10_book 35 = .ok (.iconst 1, 1) := by decide +kernel
theorem dX10_book_36 : decode cX10_book 36 = .ok (.ireturn, 1) := by decide +kernel
theorem dX10_wrong_0 : decode cX10_wrong 0 = .ok (.aload_n 0, 1) := by decide +kernel
theorem dX10_wrong_1 : decode cX10_wrong 1 = .ok (.iconst 0, 1) := by decide +kernel
theorem dX10_wrong_2 : decode cX10_wrong 2 = .ok (.putfield 159, 3) := by decide +kernel
theorem dX10_wrong_5 : decode cX10_wrong 5 = .ok (.iconst 0, 1) := by decide +kernel
theorem dX10_wrong_6 : decode cX10_wrong 6 = .ok (.istore_n 1, 1) := by decide +kernel
theorem dX10_wrong_7 : decode cX10_wrong 7 = .ok (.iconst 0, 1) := by decide +kernel
theorem dX10_wrong_8 : decode cX10_wrong 8 = .ok (.istore_n 2, 1) := by decide +kernel
theorem dX10_wrong_9 : decode cX10_wrong 9 = .ok (.iload_n 2, 1) := by decide +kernel
theorem dX10_wrong_10 : decode cX10_wrong 10 = .ok (.aload_n 0, 1) := by decide +kernel
theorem dX10_wrong_11 : decode cX10_wrong 11 = .ok (.getfield 185, 3) := by decide +kernel
theorem dX10_wrong_14 : decode cX10_wrong 14 = .ok (.if_icmp .ge 45, 3) := by decide +kernel
theorem dX10_wrong_17 : decode cX10_wrong 17 = .ok (.aload_n 0, 1) := by decide +kernel
theorem dX10_wrong_18 : decode cX10_wrong 18 = .ok (.getfield 156, 3) := by decide +kernel
theorem dX10_wrong_21 : decode cX10_wrong 21 = .ok (.iload_n 2, 1) := by decide +kernel
theorem dX10_wrong_22 : decode cX10_wrong 22 = .ok (.iaload, 1) := by decide +kernel
theorem dX10_wrong_23 : decode cX10_wrong 23 = .ok (.iconst (-1), 1) := by decide +kernel
theorem dX10_wrong_24 : decode cX10_wrong 24 = .ok (.if_icmp .eq 29, 3) := by decide +kernel
theorem dX10_wrong_27 : decode cX10_wrong 27 = .ok (.aload_n 0, 1) := by decide +kernel
theorem dX10_wrong_28 : decode cX10_wrong 28 = .ok (.getfield 156, 3) := by decide +kernel
theorem dX10_wrong_31 : decode cX10_wrong 31 = .ok (.iload_n 2, 1) := by decide +kernel
theorem dX10_wrong_32 : decode cX10_wrong 32 = .ok (.iaload, 1) := by decide +kernel
theorem dX10_wrong_33 : decode cX10_wrong 33 = .ok (.aload_n 0, 1) := by decide +kernel
theorem dX10_wrong_34 : decode cX10_wrong 34 = .ok (.iload_n 2, 1) := by decide +kernel
theorem dX10_wrong_35 : decode cX10_wrong 35 = .ok (.aload_n 0, 1) := by decide +kernel
theorem dX10_wrong_36 : decode cX10_wrong 36 = .ok (.getfield 173, 3) := by decide +kernel
theorem dX10_wrong_39 : decode cX10_wrong 39 = .ok (.iconst 1, 1) := by decide +kernel
theorem dX10_wrong_40 : decode cX10_wrong 40 = .ok (.isub, 1) := by decide +kernel
theorem dX10_wrong_41 : decode cX10_wrong 41 = .ok (.invokevirtual 209, 3) := by decide +kernel
theorem dX10_wrong_44 : decode cX10_wrong 44 = .ok (.if_icmp .eq 9, 3) := by decide +kernel
theorem dX10_wrong_47 : decode cX10_wrong 47 = .ok (.iload_n 1, 1) := by decide +kernel
theorem dX10_wrong_48 : decode cX10_wrong 48 = .ok (.iconst 1, 1) := by decide +kernel
theorem dX10_wrong_49 : decode cX10_wrong 49 = .ok (.iload_n 2, 1) := by decide +kernel
theorem dX10_wrong_50 : decode cX10_wrong 50 = .ok (.ishl, 1) := by decide +kernel
theorem dX10_wrong_51 : decode cX10_wrong 51 = .ok (.ior, 1) := by decide +kernel
theorem dX10_wrong_52 : decode cX10_wrong 52 = .ok (.istore_n 1, 1) := by decide +kernel
theorem dX10_wrong_53 : decode cX10_wrong 53 = .ok (.iinc 2 1, 3) := by decide +kernel
theorem dX10_wrong_56 : decode cX10_wrong 56 = .ok (.goto (-47), 3) := by decide +kernel
theorem dX10_wrong_59 : decode cX10_wrong 59 = .ok (.iload_n 1, 1) := by decide +kernel
theorem dX10_wrong_60 : decode cX10_wrong 60 = .ok (.ireturn, 1) := by decide +kernel
theorem dX10_look_0 : decode cX10_look 0 = .ok (.aload_n 0, 1) := by decide +kernel
theorem dX10_look_1 : decode cX10_look 1 = .ok (.iconst 0, 1) := by decide +kernel
theorem dX10_look_2 : decode cX10_look 2 = .ok (.putfield 159, 3) := by decide +kernel
theorem dX10_look_5 : decode cX10_look 5 = .ok (.iconst 0, 1) := by decide +kernel
theorem dX10_look_6 : decode cX10_look 6 = .ok (.istore_n 2, 1) := by decide +kernel
theorem dX10_look_7 : decode cX10_look 7 = .ok (.iload_n 1, 1) := by decide +kernel
theorem dX10_look_8 : decode cX10_look 8 = .ok (.ifCond .ne 8, 3) := by decide +kernel
theorem dX10_look_11 : decode cX10_look 11 = .ok (.aload_n 0, 1) := by decide +kernel
theorem dX10_look_12 : decode cX10_look 12 = .ok (.getfield 173, 3) := by decide +kernel
theorem dX10_look_15 : decode cX10_look 15 = .ok (.ireturn, 1) := by decide +kernel
theorem dX10_look_16 : decode cX10_look 16 = .ok (.iload_n 1, 1) := by decide +kernel
theorem dX10_look_17 : decode cX10_look 17 = .ok (.iconst 1, 1) := by decide +kernel
theorem dX10_look_18 : decode cX10_look 18 = .ok (.if_icmp .ne 8, 3) := by decide +kernel
theorem dX10_look_21 : decode cX10_look 21 = .ok (.aload_n 0, 1) := by decide +kernel
theorem dX10_look_22 : decode cX10_look 22 = .ok (.getfield 162, 3) := by decide +kernel
theorem dX10_look_25 : decode cX10_look 25 = .ok (.ireturn, 1) := by decide +kernel
theorem dX10_look_26 : decode cX10_look 26 = .ok (.iload_n 1, 1) := by decide +kernel
theorem dX10_look_27 : decode cX10_look 27 = .ok (.iconst 3, 1) := by decide +kernel
theorem dX10_look_28 : decode cX10_look 28 = .ok (.if_icmp .ne 8, 3) := by decide +kernel
theorem dX10_look_31 : decode cX10_look 31 = .ok (.aload_n 0, 1) := by decide +kernel
theorem dX10_look_32 : decode cX10_look 32 = .ok (.getfield 185, 3) := by decide +kernel
theorem dX10_look_35 : decode cX10_look 35 = .ok (.ireturn, 1) := by decide +kernel
theorem dX10_look_36 : decode cX10_look 36 = .ok (.iload_n 1, 1) := by decide +kernel
theorem dX10_look_37 : decode cX10_look 37 = .ok (.iconst 5, 1) := by decide +kernel
theorem dX10_look_38 : decode cX10_look 38 = .ok (.if_icmp .ne 8, 3) := by decide +kernel
theorem dX10_look_41 : decode cX10_look 41 = .ok (.aload_n 0, 1) := by decide +kernel
theorem dX10_look_42 : decode cX10_look 42 = .ok (.getfield 220, 3) := by decide +kernel
theorem dX10_look_45 : decode cX10_look 45 = .ok (.ireturn, 1) := by decide +kernel
theorem dX10_look_46 : decode cX10_look 46 = .ok (.iload_n 1, 1) := by decide +kernel
theorem dX10_look_47 : decode cX10_look 47 = .ok (.bipush 6, 2) := by decide +kernel
theorem dX10_look_49 : decode cX10_look 49 = .ok (.if_icmp .ne 8, 3) := by decide +kernel
theorem dX10_look_52 : decode cX10_look 52 = .ok (.aload_n 0, 1) := by decide +kernel
theorem dX10_look_53 : decode cX10_look 53 = .ok (.getfield 331, 3) := by decide +kernel
theorem dX10_look_56 : decode cX10_look 56 = .ok (.ireturn, 1) := by decide +kernel
theorem dX10_look_57 : decode cX10_look 57 = .ok (.iload_n 1, 1) := by decide +kernel
theorem dX10_look_58 : decode cX10_look 58 = .ok (.bipush 7, 2) := by decide +kernel
theorem dX10_look_60 : decode cX10_look 60 = .ok (.if_icmp .ne 8, 3) := by decide +kernel
theorem dX10_look_63 : decode cX10_look 63 = .ok (.aload_n 0, 1) := by decide +kernel
theorem dX10_look_64 : decode cX10_look 64 = .ok (.getfield 32, 3) := by decide +kernel
theorem dX10_look_67 : decode cX10_look 67 = .ok (.ireturn, 1) := by decide +kernel
theorem dX10_look_68 : decode cX10_look 68 = .ok (.iload_n 1, 1) := by decide +kernel
theorem dX10_look_69 : decode cX10_look 69 = .ok (.bipush 8, 2) := by decide +kernel
theorem dX10_look_71 : decode cX10_look 71 = .ok (.if_icmp .ne 8, 3) := by decide +kernel
theorem dX10_look_74 : decode cX10_look 74 = .ok (.aload_n 0, 1) := by decide +kernel
theorem dX10_look_75 : decode cX10_look 75 = .ok (.getfield 179, 3) := by decide +kernel
theorem dX10_look_78 : decode cX10_look 78 = .ok (.ireturn, 1) := by decide +kernel
theorem dX10_look_79 : decode cX10_look 79 = .ok (.iload_n 1, 1) := by decide +kernel
theorem dX10_look_80 : decode cX10_look 80 = .ok (.iconst 4, 1) := by decide +kernel
theorem dX10_look_81 : decode cX10_look 81 = .ok (.if_icmp .eq 9, 3) := by decide +kernel
theorem dX10_look_84 : decode cX10_look 84 = .ok (.iload_n 1, 1) := by decide +kernel
theorem dX10_look_85 : decode cX10_look 85 = .ok (.bipush 10, 2) := by decide +kernel
theorem dX10_look_87 : decode cX10_look 87 = .ok (.if_icmp .ne 53, 3) := by decide +kernel
theorem dX10_look_90 : decode cX10_look 90 = .ok (.iconst 0, 1) := by decide +kernel
theorem dX10_look_91 : decode cX10_look 91 = .ok (.istore_n 3, 1) := by decide +kernel
theorem dX10_look_92 : decode cX10_look 92 = .ok (.iload_n 3, 1) := by decide +kernel
theorem dX10_look_93 : decode cX10_look 93 = .ok (.aload_n 0, 1) := by decide +kernel
theorem dX10_look_94 : decode cX10_look 94 = .ok (.getfield 185, 3) := by decide +kernel
theorem dX10_look_97 : decode cX10_look 97 = .ok (.if_icmp .ge 41, 3) := by decide +kernel
theorem dX10_look_100 : decode cX10_look 100 = .ok (.iload_n 1, 1) := by decide +kernel
theorem dX10_look_101 : decode cX10_look 101 = .ok (.iconst 4, 1) := by decide +kernel
theorem dX10_look_102 : decode cX10_look 102 = .ok (.if_icmp .ne 16, 3) := by decide +kernel
theorem dX10_look_105 : decode cX10_look 105 = .ok (.aload_n 0, 1) := by decide +kernel
theorem dX10_look_106 : decode cX10_look 106 = .ok (.getfield 45, 3) := by decide +kernel
theorem dX10_look_109 : decode cX10_look 109 = .ok (.iload_n 3, 1) := by decide +kernel
theorem dX10_look_110 : decode cX10_look 110 = .ok (.iaload, 1) := by decide +kernel
theorem dX10_look_111 : decode cX10_look 111 = .ok (.iconst (-1), 1) := by decide +kernel
theorem dX10_look_112 : decode cX10_look 112 = .ok (.if_icmp .eq 20, 3) := by decide +kernel
theorem dX10_look_115 : decode cX10_look 115 = .ok (.goto 13, 3) := by decide +kernel
theorem dX10_look_118 : decode cX10_look 118 = .ok (.aload_n 0, 1) := by decide +kernel
theorem dX10_look_119 : decode cX10_look 119 = .ok (.getfield 156, 3) := by decide +kernel
theorem dX10_look_122 : decode cX10_look 122 = .ok (.iload_n 3, 1) := by decide +kernel
theorem dX10_look_123 : decode cX10_look 123 = .ok (.iaload, 1) := by decide +kernel
theorem dX10_look_124 : decode cX10_look 124 = .ok (.iconst (-1), 1) := by decide +kernel
theorem dX10_look_125 : decode cX10_look 125 = .ok (.if_icmp .eq 7, 3) := by decide +kernel
theorem dX10_look_128 : decode cX10_look 128 = .ok (.iload_n 2, 1) := by decide +kernel
theorem dX10_look_129 : decode cX10_look 129 = .ok (.iconst 1, 1) := by decide +kernel
theorem dX10_look_130 : decode cX10_look 130 = .ok (.iadd, 1) := by decide +kernel
theorem dX10_look_131 : decode cX10_look 131 = .ok (.istore_n 2, 1) := by decide +kernel
theorem dX10_look_132 : decode cX10_look 132 = .ok (.iinc 3 1, 3) := by decide +kernel
theorem dX10_look_135 : decode cX10_look 135 = .ok (.goto (-43), 3) := by decide +kernel
theorem dX10_look_138 : decode cX10_look 138 = .ok (.iload_n 2, 1) := by decide +kernel
theorem dX10_look_139 : decode cX10_look 139 = .ok (.ireturn, 1) := by decide +kernel
theorem dX10_look_140 : decode cX10_look 140 = .ok (.iload_n 1, 1) := by decide +kernel
theorem dX10_look_141 : decode cX10_look 141 = .ok (.iconst 2, 1) := by decide +kernel
theorem dX10_look_142 : decode cX10_look 142 = .ok (.if_icmp .eq 12, 3) := by decide +kernel
theorem dX10_look_145 : decode cX10_look 145 = .ok (.iload_n 1, 1) := by decide +kernel
theorem dX10_look_146 : decode cX10_look 146 = .ok (.bipush 9, 2) := by decide +kernel
theorem dX10_look_148 : decode cX10_look 148 = .ok (.if_icmp .eq 6, 3) := by decide +kernel
theorem dX10_look_151 : decode cX10_look 151 = .ok (.bipush (-2), 2) := by decide +kernel
theorem dX10_look_153 : decode cX10_look 153 = .ok (.ireturn, 1) := by decide +kernel
theorem dX10_look_154 : decode cX10_look 154 = .ok (.iconst 0, 1) := by decide +kernel
theorem dX10_look_155 : decode cX10_look 155 = .ok (.istore_n 3, 1) := by decide +kernel
theorem dX10_look_156 : decode cX10_look 156 = .ok (.iload_n 3, 1) := by decide +kernel
theorem dX10_look_157 : decode cX10_look 157 = .ok (.aload_n 0, 1) := by decide +kernel
theorem dX10_look_158 : decode cX10_look 158 = .ok (.getfield 162, 3) := by decide +kernel
theorem dX10_look_161 : decode cX10_look 161 = .ok (.if_icmp .ge 37, 3) := by decide +kernel
theorem dX10_look_164 : decode cX10_look 164 = .ok (.iload_n 1, 1) := by decide +kernel
theorem dX10_look_165 : decode cX10_look 165 = .ok (.iconst 2, 1) := by decide +kernel
theorem dX10_look_166 : decode cX10_look 166 = .ok (.if_icmp .ne 14, 3) := by decide +kernel
theorem dX10_look_169 : decode cX10_look 169 = .ok (.aload_n 0, 1) := by decide +kernel
theorem dX10_look_170 : decode cX10_look 170 = .ok (.iload_n 3, 1) := by decide +kernel
theorem dX10_look_171 : decode cX10_look 171 = .ok (.invokevirtual 176, 3) := by decide +kernel
theorem dX10_look_174 : decode cX10_look 174 = .ok (.ifCond .eq 18, 3) := by decide +kernel
theorem dX10_look_177 : decode cX10_look 177 = .ok (.goto 11, 3) := by decide +kernel
theorem dX10_look_180 : decode cX10_look 180 = .ok (.aload_n 0, 1) := by decide +kernel
theorem dX10_look_181 : decode cX10_look 181 = .ok (.iload_n 3, 1) := by decide +kernel
theorem dX10_look_182 : decode cX10_look 182 = .ok (.invokevirtual 182, 3) := by decide +kernel
theorem dX10_look_185 : decode cX10_look 185 = .ok (.ifCond .eq 7, 3) := by decide +kernel
theorem dX10_look_188 : decode cX10_look 188 = .ok (.iload_n 2, 1) := by decide +kernel
theorem dX10_look_189 : decode cX10_look 189 = .ok (.iconst 1, 1) := by decide +kernel
theorem dX10_look_190 : decode cX10_look 190 = .ok (.iadd, 1) := by decide +kernel
theorem dX10_look_191 : decode cX10_look 191 = .ok (.istore_n 2, 1) := by decide +kernel
theorem dX10_look_192 : decode cX10_look 192 = .ok (.iinc 3 1, 3) := by decide +kernel
theorem dX10_look_195 : decode cX10_look 195 = .ok (.goto (-39), 3) := by decide +kernel
theorem dX10_look_198 : decode cX10_look 198 = .ok (.iload_n 2, 1) := by decide +kernel
theorem dX10_look_199 : decode cX10_look 199 = .ok (.ireturn, 1) := by decide +kernel
