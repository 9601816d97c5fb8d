theorem dX7_init_0 : decode cX7_init 0 = .ok (.aload_n 0, 1) := by decide +kernel
theorem dX7_init_1 : decode cX7_init 1 = .ok (.invokespecial 1, 3) := by decide +kernel
theorem dX7_init_4 : decode cX7_init 4 = .ok (.aload_n 0, 1) := by decide +kernel
theorem dX7_init_5 : decode cX7_init 5 = .ok (.iconst 0, 1) := by decide +kernel
theorem dX7_init_6 : decode cX7_init 6 = .ok (.putfield 7, 3) := by decide +kernel
theorem dX7_init_9 : decode cX7_init 9 = .ok (.aload_n 0, 1) := by decide +kernel
theorem dX7_init_10 : decode cX7_init 10 = .ok (.iconst 0, 1) := by decide +kernel
theorem dX7_init_11 : decode cX7_init 11 = .ok (.putfield 13, 3) := by decide +kernel
theorem dX7_init_14 : decode cX7_init 14 = .ok (.aload_n 0, 1) := by decide +kernel
theorem dX7_init_15 : decode cX7_init 15 = .ok (.bipush 8, 2) := by decide +kernel
theorem dX7_init_17 : decode cX7_init 17 = .ok (.newarray .int, 2) := by decide +kernel
theorem dX7_init_19 : decode cX7_init 19 = .ok (.putfield 16, 3) := by decide +kernel
theorem dX7_init_22 : decode cX7_init 22 = .ok (.aload_n 0, 1) := by decide +kernel
theorem dX7_init_23 : decode cX7_init 23 = .ok (.bipush 8, 2) := by decide +kernel
theorem dX7_init_25 : decode cX7_init 25 = .ok (.newarray .int, 2) := by decide +kernel
theorem dX7_init_27 : decode cX7_init 27 = .ok (.putfield 20, 3) := by decide +kernel
theorem dX7_init_30 : decode cX7_init 30 = .ok (.aload_n 0, 1) := by decide +kernel
theorem dX7_init_31 : decode cX7_init 31 = .ok (.bipush 8, 2) := by decide +kernel
theorem dX7_init_33 : decode cX7_init 33 = .ok (.newarray .int, 2) := by decide +kernel
theorem dX7_init_35 : decode cX7_init 35 = .ok (.putfield 23, 3) := by decide +kernel
theorem dX7_init_38 : decode cX7_init 38 = .ok (.aload_n 0, 1) := by decide +kernel
theorem dX7_init_39 : decode cX7_init 39 = .ok (.bipush 32, 2) := by decide +kernel
theorem dX7_init_41 : decode cX7_init 41 = .ok (.newarray .int, 2) := by decide +kernel
theorem dX7_init_43 : decode cX7_init 43 = .ok (.putfield 26, 3) := by decide +kernel
theorem dX7_init_46 : decode cX7_init 46 = .ok (.aload_n 0, 1) := by decide +kernel
theorem dX7_init_47 : decode cX7_init 47 = .ok (.iconst 0, 1) := by decide +kernel
theorem dX7_init_48 : decode cX7_init 48 = .ok (.putfield 29, 3) := by decide +kernel
theorem dX7_init_51 : decode cX7_init 51 = .ok (.aload_n 0, 1) := by decide +kernel
theorem dX7_init_52 : decode cX7_init 52 = .ok (.iconst (-1), 1) := by decide +kernel
theorem dX7_init_53 : decode cX7_init 53 = .ok (.putfield 32, 3) := by decide +kernel
theorem dX7_init_56 : decode cX7_init 56 = .ok (.aload_n 0, 1) := by decide +kernel
theorem dX7_init_57 : decode cX7_init 57 = .ok (.iconst 0, 1) := by decide +kernel
theorem dX7_init_58 : decode cX7_init 58 = .ok (.putfield 35, 3) := by decide +kernel
theorem dX7_init_61 : decode cX7_init 61 = .ok (.aload_n 0, 1) := by decide +kernel
theorem dX7_init_62 : decode cX7_init 62 = .ok (.iconst 0, 1) := by decide +kernel
theorem dX7_init_63 : decode cX7_init 63 = .ok (.putfield 38, 3) := by decide +kernel
theorem dX7_init_66 : decode cX7_init 66 = .ok (.aload_n 0, 1) := by decide +kernel
theorem dX7_init_67 : decode cX7_init 67 = .ok (.iconst 0, 1) := by decide +kernel
theorem dX7_init_68 : decode cX7_init 68 = .ok (.putfield 41, 3) := by decide +kernel
theorem dX7_init_71 : decode cX7_init 71 = .ok (.aload_n 0, 1) := by decide +kernel
theorem dX7_init_72 : decode cX7_init 72 = .ok (.bipush 100, 2) := by decide +kernel
theorem dX7_init_74 : decode cX7_init 74 = .ok (.newarray .int, 2) := by decide +kernel
theorem dX7_init_76 : decode cX7_init 76 = .ok (.putfield 44, 3) := by decide +kernel
theorem dX7_init_79 : decode cX7_init 79 = .ok (.aload_n 0, 1) := by decide +kernel
theorem dX7_init_80 : decode cX7_init 80 = .ok (.bipush 6, 2) := by decide +kernel
theorem dX7_init_82 : decode cX7_init 82 = .ok (.newarray .int, 2) := by decide +kernel
theorem dX7_init_84 : decode cX7_init 84 = .ok (.putfield 47, 3) := by decide +kernel
theorem dX7_init_87 : decode cX7_init 87 = .ok (.aload_n 0, 1) := by decide +kernel
theorem dX7_init_88 : decode cX7_init 88 = .ok (.bipush 60, 2) := by decide +kernel
theorem dX7_init_90 : decode cX7_init 90 = .ok (.newarray .int, 2) := by decide +kernel
theorem dX7_init_92 : decode cX7_init 92 = .ok (.putfield 50, 3) := by decide +kernel
theorem dX7_init_95 : decode cX7_init 95 = .ok (.aload_n 0, 1) := by decide +kernel
theorem dX7_init_96 : decode cX7_init 96 = .ok (.bipush 60, 2) := by decide +kernel
theorem dX7_init_98 : decode cX7_init 98 = .ok (.newarray .int, 2) := by decide +kernel
theorem dX7_init_100 : decode cX7_init 100 = .ok (.putfield 53, 3) := by decide +kernel
theorem dX7_init_103 : decode cX7_init 103 = .ok (.aload_n 0, 1) := by decide +kernel
theorem dX7_init_104 : decode cX7_init 104 = .ok (.bipush 60, 2) := by decide +kernel
theorem dX7_init_106 : decode cX7_init 106 = .ok (.newarray .int, 2) := by decide +kernel
theorem dX7_init_108 : decode cX7_init 108 = .ok (.putfield 56, 3) := by decide +kernel
theorem dX7_init_111 : decode cX7_init 111 = .ok (.aload_n 0, 1) := by decide +kernel
theorem dX7_init_112 : decode cX7_init 112 = .ok (.bipush 60, 2) := by decide +kernel
theorem dX7_init_114 : decode cX7_init 114 = .ok (.newarray .int, 2) := by decide +kernel
theorem dX7_init_116 : decode cX7_init 116 = .ok (.putfield 59, 3) := by decide +kernel
theorem dX7_init_119 : decode cX7_init 119 = .ok (.aload_n 0, 1) := by decide +kernel
theorem dX7_init_120 : decode cX7_init 120 = .ok (.sipush 600, 3) := by decide +kernel
theorem dX7_init_123 : decode cX7_init 123 = .ok (.newarray .int, 2) := by decide +kernel
theorem dX7_init_125 : decode cX7_init 125 = .ok (.putfield 62, 3) := by decide +kernel
theorem dX7_init_128 : decode cX7_init 128 = .ok (.aload_n 0, 1) := by decide +kernel
theorem dX7_init_129 : decode cX7_init 129 = .ok (.bipush 101, 2) := by decide +kernel
theorem dX7_init_131 : decode cX7_init 131 = .ok (.newarray .int, 2) := by decide +kernel
theorem dX7_init_133 : decode cX7_init 133 = .ok (.putfield 65, 3) := by decide +kernel
theorem dX7_init_136 : decode cX7_init 136 = .ok (.aload_n 0, 1) := by decide +kernel
theorem dX7_init_137 : decode cX7_init 137 = .ok (.iconst 0, 1) := by decide +kernel
theorem dX7_init_138 : decode cX7_init 138 = .ok (.putfield 68, 3) := by decide +kernel
theorem dX7_init_141 : decode cX7_init 141 = .ok (.aload_n 0, 1) := by decide +kernel
theorem dX7_init_142 : decode cX7_init 142 = .ok (.iconst 0, 1) := by decide +kernel
theorem dX7_init_143 : decode cX7_init 143 = .ok (.putfield 71, 3) := by decide +kernel
theorem dX7_init_146 : decode cX7_init 146 = .ok (.aload_n 0, 1) := by decide +kernel
theorem dX7_init_147 : decode cX7_init 147 = .ok (.iconst 0, 1) := by decide +kernel
theorem dX7_init_148 : decode cX7_init 148 = .ok (.putfield 74, 3) := by decide +kernel
theorem dX7_init_151 : decode cX7_init 151 = .ok (.aload_n 0, 1) := by decide +kernel
theorem dX7_init_152 : decode cX7_init 152 = .ok (.bipush 13, 2) := by decide +kernel
theorem dX7_init_154 : decode cX7_init 154 = .ok (.newarray .int, 2) := by decide +kernel
theorem dX7_init_156 : decode cX7_init 156 = .ok (.dup, 1) := by decide +kernel
theorem dX7_init_157 : decode cX7_init 157 = .ok (.iconst 0, 1) := by decide +kernel
theorem dX7_init_158 : decode cX7_init 158 = .ok (.bipush 97, 2) := by decide +kernel
theorem dX7_init_160 : decode cX7_init 160 = .ok (.iastore, 1) := by decide +kernel
theorem dX7_init_161 : decode cX7_init 161 = .ok (.dup, 1) := by decide +kernel
theorem dX7_init_162 : decode cX7_init 162 = .ok (.iconst 1, 1) := by decide +kernel
theorem dX7_init_163 : decode cX7_init 163 = .ok (.bipush 100, 2) := by decide +kernel
theorem dX7_init_165 : decode cX7_init 165 = .ok (.iastore, 1) := by decide +kernel
theorem dX7_init_166 : decode cX7_init 166 = .ok (.dup, 1) := by decide +kernel
theorem dX7_init_167 : decode cX7_init 167 = .ok (.iconst 2, 1) := by decide +kernel
theorem dX7_init_168 : decode cX7_init 168 = .ok (.bipush 100, 2) := by decide +kernel
theorem dX7_init_170 : decode cX7_init 170 = .ok (.iastore, 1) := by decide +kernel
theorem dX7_init_171 : decode cX7_init 171 = .ok (.dup, 1) := by decide +kernel
theorem dX7_init_172 : decode cX7_init 172 = .ok (.iconst 3, 1) := by decide +kernel
theorem dX7_init_173 : decode cX7_init 173 = .ok (.bipush 116, 2) := by decide +kernel
theorem dX7_init_175 : decode cX7_init 175 = .ok (.iastore, 1) := by decide +kernel
theorem dX7_init_176 : decode cX7_init 176 = .ok (.dup, 1) := by decide +kernel
theorem dX7_init_177 : decode cX7_init 177 = .ok (.iconst 4, 1) := by decide +kernel
theorem dX7_init_178 : decode cX7_init 178 = .ok (.bipush 97, 2) := by decide +kernel
theorem dX7_init_180 : decode cX7_init 180 = .ok (.iastore, 1) := by decide +kernel
theorem dX7_init_181 : decode cX7_init 181 = .ok (.dup, 1) := by decide +kernel
theorem dX7_init_182 : decode cX7_init 182 = .ok (.iconst 5, 1) := by decide +kernel
theorem dX7_init_183 : decode cX7_init 183 = .ok (.bipush 120, 2) := by decide +kernel
theorem dX7_init_185 : decode cX7_init 185 = .ok (.iastore, 1) := by decide +kernel
theorem dX7_init_186 : decode cX7_init 186 = .ok (.dup, 1) := by decide +kernel
theorem dX7_init_187 : decode cX7_init 187 = .ok (.bipush 6, 2) := by decide +kernel
theorem dX7_init_189 : decode cX7_init 189 = .ok (.bipush 114, 2) := by decide +kernel
theorem dX7_init_191 : decode cX7_init 191 = .ok (.iastore, 1) := by decide +kernel
theorem dX7_init_192 : decode cX7_init 192 = .ok (.dup, 1) := by decide +kernel
theorem dX7_init_193 : decode cX7_init 193 = .ok (.bipush 7, 2) := by decide +kernel
theorem dX7_init_195 : decode cX7_init 195 = .ok (.bipush 105, 2) := by decide +kernel
theorem dX7_init_197 : decode cX7_init 197 = .ok (.iastore, 1) := by decide +kernel
theorem dX7_init_198 : decode cX7_init 198 = .ok (.dup, 1) := by decide +kernel
theorem dX7_init_199 : decode cX7_init 199 = .ok (.bipush 8, 2) := by decide +kernel
theorem dX7_init_201 : decode cX7_init 201 = .ok (.bipush 110, 2) := by decide +kernel
theorem dX7_init_203 : decode cX7_init 203 = .ok (.iastore, 1) := by decide +kernel
theorem dX7_init_204 : decode cX7_init 204 = .ok (.dup, 1) := by decide +kernel
theorem dX7_init_205 : decode cX7_init 205 = .ok (.bipush 9, 2) := by decide +kernel
theorem dX7_init_207 : decode cX7_init 207 = .ok (.bipush 103, 2) := by decide +kernel
theorem dX7_init_209 : decode cX7_init 209 = .ok (.iastore, 1) := by decide +kernel
theorem dX7_init_210 : decode cX7_init 210 = .ok (.dup, 1) := by decide +kernel
theorem dX7_init_211 : decode cX7_init 211 = .ok (.bipush 10, 2) := by decide +kernel
theorem dX7_init_213 : decode cX7_init 213 = .ok (.bipush 114, 2) := by decide +kernel
theorem dX7_init_215 : decode cX7_init 215 = .ok (.iastore, 1) := by decide +kernel
theorem dX7_init_216 : decode cX7_init 216 = .ok (.dup, 1) := by decide +kernel
theorem dX7_init_217 : decode cX7_init 217 = .ok (.bipush 11, 2) := by decide +kernel
theorem dX7_init_219 : decode cX7_init 219 = .ok (.bipush 111, 2) := by decide +kernel
theorem dX7_init_221 : decode cX7_init 221 = .ok (.iastore, 1) := by decide +kernel
theorem dX7_init_222 : decode cX7_init 222 = .ok (.dup, 1) := by decide +kernel
theorem dX7_init_223 : decode cX7_init 223 = .ok (.bipush 12, 2) := by decide +kernel
theorem dX7_init_225 : decode cX7_init 225 = .ok (.bipush 119, 2) := by decide +kernel
theorem dX7_init_227 : decode cX7_init 227 = .ok (.iastore, 1) := by decide +kernel
theorem dX7_init_228 : decode cX7_init 228 = .ok (.putfield 77, 3) := by decide +kernel
theorem dX7_init_231 : decode cX7_init 231 = .ok (.aload_n 0, 1) := by decide +kernel
theorem dX7_init_232 : decode cX7_init 232 = .ok (.bipush 100, 2) := by decide +kernel
theorem dX7_init_234 : decode cX7_init 234 = .ok (.newarray .boolean, 2) := by decide +kernel
theorem dX7_init_236 : decode cX7_init 236 = .ok (.putfield 80, 3) := by decide +kernel
theorem dX7_init_239 : decode cX7_init 239 = .ok (.aload_n 0, 1) := by decide +kernel
theorem dX7_init_240 : decode cX7_init 240 = .ok (.iconst (-1), 1) := by decide +kernel
theorem dX7_init_241 : decode cX7_init 241 = .ok (.putfield 84, 3) := by decide +kernel
theorem dX7_init_244 : decode cX7_init 244 = .ok (.aload_n 0, 1) := by decide +kernel
theorem dX7_init_245 : decode cX7_init 245 = .ok (.bipush 8, 2) := by decide +kernel
theorem dX7_init_247 : decode cX7_init 247 = .ok (.newarray .int, 2) := by decide +kernel
theorem dX7_init_249 : decode cX7_init 249 = .ok (.putfield 87, 3) := by decide +kernel
theorem dX7_init_252 : decode cX7_init 252 = .ok (.aload_n 0, 1) := by decide +kernel
theorem dX7_init_253 : decode cX7_init 253 = .ok (.iconst 0, 1) := by decide +kernel
theorem dX7_init_254 : decode cX7_init 254 = .ok (.putfield 90, 3) := by decide +kernel
theorem dX7_init_257 : decode cX7_init 257 = .ok (.aload_n 0, 1) := by decide +kernel
theorem dX7_init_258 : decode cX7_init 258 = .ok (.bipush 8, 2) := by decide +kernel
theorem dX7_init_260 : decode cX7_init 260 = .ok (.newarray .int, 2) := by decide +kernel
theorem dX7_init_262 : decode cX7_init 262 = .ok (.putfield 93, 3) := by decide +kernel
theorem dX7_init_265 : decode cX7_init 265 = .ok (.aload_n 0, 1) := by decide +kernel
theorem dX7_init_266 : decode cX7_init 266 = .ok (.bipush 8, 2) := by decide +kernel
theorem dX7_init_268 : decode cX7_init 268 = .ok (.newarray .int, 2) := by decide +kernel
theorem dX7_init_270 : decode cX7_init 270 = .ok (.putfield 96, 3) := by decide +kernel
theorem dX7_init_273 : decode cX7_init 273 = .ok (.aload_n 0, 1) := by decide +kernel
theorem dX7_init_274 : decode cX7_init 274 = .ok (.iconst 0, 1) := by decide +kernel
theorem dX7_init_275 : decode cX7_init 275 = .ok (.putfield 99, 3) := by decide +kernel
theorem dX7_init_278 : decode cX7_init 278 = .ok (.aload_n 0, 1) := by decide +kernel
theorem dX7_init_279 : decode cX7_init 279 = .ok (.bipush 8, 2) := by decide +kernel
theorem dX7_init_281 : decode cX7_init 281 = .ok (.newarray .int, 2) := by decide +kernel
theorem dX7_init_283 : decode cX7_init 283 = .ok (.putfield 102, 3) := by decide +kernel
theorem dX7_init_286 : decode cX7_init 286 = .ok (.aload_n 0, 1) := by decide +kernel
theorem dX7_init_287 : decode cX7_init 287 = .ok (.bipush 8, 2) := by decide +kernel
theorem dX7_init_289 : decode cX7_init 289 = .ok (.newarray .int, 2) := by decide +kernel
theorem dX7_init_291 : decode cX7_init 291 = .ok (.putfield 105, 3) := by decide +kernel
theorem dX7_init_294 : decode cX7_init 294 = .ok (.aload_n 0, 1) := by decide +kernel
theorem dX7_init_295 : decode cX7_init 295 = .ok (.bipush 8, 2) := by decide +kernel
theorem dX7_init_297 : decode cX7_init 297 = .ok (.newarray .int, 2) := by decide +kernel
theorem dX7_init_299 : decode cX7_init 299 = .ok (.putfield 108, 3) := by decide +kernel
theorem dX7_init_302 : decode cX7_init 302 = .ok (.aload_n 0, 1) := by decide +kernel
theorem dX7_init_303 : decode cX7_init 303 = .ok (.bipush 8, 2) := by decide +kernel
theorem dX7_init_305 : decode cX7_init 305 = .ok (.newarray .int, 2) := by decide +kernel
theorem dX7_init_307 : decode cX7_init 307 = .ok (.putfield 111, 3) := by decide +kernel
theorem dX7_init_310 : decode cX7_init 310 = .ok (.aload_n 0, 1) := by decide +kernel
theorem dX7_init_311 : decode cX7_init 311 = .ok (.bipush 8, 2) := by decide +kernel
theorem dX7_init_313 : decode cX7_init 313 = .ok (.newarray .int, 2) := by decide +kernel
theorem dX7_init_315 : decode cX7_init 315 = .ok (.putfield 114, 3) := by decide +kernel
theorem dX7_init_318 : decode cX7_init 318 = .ok (.aload_n 0, 1) := by decide +kernel
theorem dX7_init_319 : decode cX7_init 319 = .ok (.bipush 8, 2) := by decide +kernel
theorem dX7_init_321 : decode cX7_init 321 = .ok (.newarray .int, 2) := by decide +kernel
theorem dX7_init_323 : decode cX7_init 323 = .ok (.putfield 117, 3) := by decide +kernel
theorem dX7_init_326 : decode cX7_init 326 = .ok (.aload_n 0, 1) := by decide +kernel
theorem dX7_init_327 : decode cX7_init 327 = .ok (.iconst 0, 1) := by decide +kernel
theorem dX7_init_328 : decode cX7_init 328 = .ok (.putfield 120, 3) := by decide +kernel
theorem dX7_init_331 : decode cX7_init 331 = .ok (.aload_n 0, 1) := by decide +kernel
theorem dX7_init_332 : decode cX7_init 332 = .ok (.iconst 0, 1) := by decide +kernel
theorem dX7_init_333 : decode cX7_init 333 = .ok (.putfield 123, 3) := by decide +kernel
theorem dX7_init_336 : decode cX7_init 336 = .ok (.aload_n 0, 1) := by decide +kernel
theorem dX7_init_337 : decode cX7_init 337 = .ok (.bipush 8, 2) := by decide +kernel
theorem dX7_init_339 : decode cX7_init 339 = .ok (.newarray .int, 2) := by decide +kernel
theorem dX7_init_341 : decode cX7_init 341 = .ok (.putfield 126, 3) := by decide +kernel
theorem dX7_init_344 : decode cX7_init 344 = .ok (.aload_n 0, 1) := by decide +kernel
theorem dX7_init_345 : decode cX7_init 345 = .ok (.bipush 8, 2) := by decide +kernel
theorem dX7_init_347 : decode cX7_init 347 = .ok (.newarray .int, 2) := by decide +kernel
theorem dX7_init_349 : decode cX7_init 349 = .ok (.putfield 129, 3) := by decide +kernel
theorem dX7_init_352 : decode cX7_init 352 = .ok (.aload_n 0, 1) := by decide +kernel
theorem dX7_init_353 : decode cX7_init 353 = .ok (.iconst 0, 1) := by decide +kernel
theorem dX7_init_354 : decode cX7_init 354 = .ok (.putfield 132, 3) := by decide +kernel
theorem dX7_init_357 : decode cX7_init 357 = .ok (.aload_n 0, 1) := by decide +kernel
theorem dX7_init_358 : decode cX7_init 358 = .ok (.bipush 12, 2) := by decide +kernel
theorem dX7_init_360 : decode cX7_init 360 = .ok (.newarray .int, 2) := by decide +kernel
theorem dX7_init_362 : decode cX7_init 362 = .ok (.putfield 135, 3) := by decide +kernel
theorem dX7_init_365 : decode cX7_init 365 = .ok (.aload_n 0, 1) := by decide +kernel
theorem dX7_init_366 : decode cX7_init 366 = .ok (.iconst 0, 1) := by decide +kernel
theorem dX7_init_367 : decode cX7_init 367 = .ok (.putfield 138, 3) := by decide +kernel
theorem dX7_init_370 : decode cX7_init 370 = .ok (.aload_n 0, 1) := by decide +kernel
theorem dX7_init_371 : decode cX7_init 371 = .ok (.iconst (-1), 1) := by decide +kernel
theorem dX7_init_372 : decode cX7_init 372 = .ok (.putfield 142, 3) := by decide +kernel
theorem dX7_init_375 : decode cX7_init 375 = .ok (.aload_n 0, 1) := by decide +kernel
theorem dX7_init_376 : decode cX7_init 376 = .ok (.iconst 0, 1) := by decide +kernel
theorem dX7_init_377 : decode cX7_init 377 = .ok (.putfield 145, 3) := by decide +kernel
theorem dX7_init_380 : decode cX7_init 380 = .ok (.aload_n 0, 1) := by decide +kernel
theorem dX7_init_381 : decode cX7_init 381 = .ok (.iconst 0, 1) := by decide +kernel
theorem dX7_init_382 : decode cX7_init 382 = .ok (.putfield 148, 3) := by decide +kernel
theorem dX7_init_385 : decode cX7_init 385 = .ok (.aload_n 0, 1) := by decide +kernel
theorem dX7_init_386 : decode cX7_init 386 = .ok (.iconst 0, 1) := by decide +kernel
theorem dX7_init_387 : decode cX7_init 387 = .ok (.putfield 151, 3) := by decide +kernel
theorem dX7_init_390 : decode cX7_init 390 = .ok (.aload_n 0, 1) := by decide +kernel
theorem dX7_init_391 : decode cX7_init 391 = .ok (.iconst 0, 1) := by decide +kernel
theorem dX7_init_392 : decode cX7_init 392 = .ok (.putfield 154, 3) := by decide +kernel
theorem dX7_init_395 : decode cX7_init 395 = .ok (.aload_n 0, 1) := by decide +kernel
theorem dX7_init_396 : decode cX7_init 396 = .ok (.bipush 8, 2) := by decide +kernel
theorem dX7_init_398 : decode cX7_init 398 = .ok (.newarray .int, 2) := by decide +kernel
theorem dX7_init_400 : decode cX7_init 400 = .ok (.putfield 157, 3) := by decide +kernel
theorem dX7_init_403 : decode cX7_init 403 = .ok (.aload_n 0, 1) := by decide +kernel
theorem dX7_init_404 : decode cX7_init 404 = .ok (.bipush 8, 2) := by decide +kernel
theorem dX7_init_406 : decode cX7_init 406 = .ok (.newarray .int, 2) := by decide +kernel
theorem dX7_init_408 : decode cX7_init 408 = .ok (.putfield 160, 3) := by decide +kernel
theorem dX7_init_411 : decode cX7_init 411 = .ok (.aload_n 0, 1) := by decide +kernel
theorem dX7_init_412 : decode cX7_init 412 = .ok (.bipush 8, 2) := by decide +kernel
theorem dX7_init_414 : decode cX7_init 414 = .ok (.newarray .int, 2) := by decide +kernel
theorem dX7_init_416 : decode cX7_init 416 = .ok (.putfield 163, 3) := by decide +kernel
theorem dX7_init_419 : decode cX7_init 419 = .ok (.aload_n 0, 1) := by decide +kernel
theorem dX7_init_420 : decode cX7_init 420 = .ok (.bipush 32, 2) := by decide +kernel
theorem dX7_init_422 : decode cX7_init 422 = .ok (.newarray .int, 2) := by decide +kernel
theorem dX7_init_424 : decode cX7_init 424 = .ok (.putfield 166, 3) := by decide +kernel
theorem dX7_init_427 : decode cX7_init 427 = .ok (.aload_n 0, 1) := by decide +kernel
theorem dX7_init_428 : decode cX7_init 428 = .ok (.bipush 8, 2) := by decide +kernel
theorem dX7_init_430 : decode cX7_init 430 = .ok (.newarray .int, 2) := by decide +kernel
theorem dX7_init_432 : decode cX7_init 432 = .ok (.putfield 169, 3) := by decide +kernel
theorem dX7_init_435 : decode cX7_init 435 = .ok (.aload_n 0, 1) := by decide +kernel
theorem dX7_init_436 : decode cX7_init 436 = .ok (.bipush 8, 2) := by decide +kernel
theorem dX7_init_438 : decode cX7_init 438 = .ok (.newarray .int, 2) := by decide +kernel
theorem dX7_init_440 : decode cX7_init 440 = .ok (.putfield 172, 3) := by decide +kernel
theorem dX7_init_443 : decode cX7_init 443 = .ok (.aload_n 0, 1) := by decide +kernel
theorem dX7_init_444 : decode cX7_init 444 = .ok (.bipush 12, 2) := by decide +kernel
theorem dX7_init_446 : decode cX7_init 446 = .ok (.newarray .int, 2) := by decide +kernel
theorem dX7_init_448 : decode cX7_init 448 = .ok (.putfield 175, 3) := by decide +kernel
theorem dX7_init_451 : decode cX7_init 451 = .ok (.aload_n 0, 1) := by decide +kernel
theorem dX7_init_452 : decode cX7_init 452 = .ok (.iconst 0, 1) := by decide +kernel
theorem dX7_init_453 : decode cX7_init 453 = .ok (.putfield 178, 3) := by decide +kernel
theorem dX7_init_456 : decode cX7_init 456 = .ok (.aload_n 0, 1) := by decide +kernel
theorem dX7_init_457 : decode cX7_init 457 = .ok (.bipush 20, 2) := by decide +kernel
theorem dX7_init_459 : decode cX7_init 459 = .ok (.newarray .int, 2) := by decide +kernel
theorem dX7_init_461 : decode cX7_init 461 = .ok (.putfield 181, 3) := by decide +kernel
theorem dX7_init_464 : decode cX7_init 464 = .ok (.aload_n 0, 1) := by decide +kernel
theorem dX7_init_465 : decode cX7_init 465 = .ok (.bipush 6, 2) := by decide +kernel
theorem dX7_init_467 : decode cX7_init 467 = .ok (.newarray .int, 2) := by decide +kernel
theorem dX7_init_469 : decode cX7_init 469 = .ok (.dup, 1) := by decide +kernel
theorem dX7_init_470 : decode cX7_init 470 = .ok (.iconst 0, 1) := by decide +kernel
theorem dX7_init_471 : decode cX7_init 471 = .ok (.iconst (-1), 1) := by decide +kernel
theorem dX7_init_472 : decode cX7_init 472 = .ok (.iastore, 1) := by decide +kernel
theorem dX7_init_473 : decode cX7_init 473 = .ok (.dup, 1) := by decide +kernel
theorem dX7_init_474 : decode cX7_init 474 = .ok (.iconst 1, 1) := by decide +kernel
theorem dX7_init_475 : decode cX7_init 475 = .ok (.iconst (-1), 1) := by decide +kernel
theorem dX7_init_476 : decode cX7_init 476 = .ok (.iastore, 1) := by decide +kernel
theorem dX7_init_477 : decode cX7_init 477 = .ok (.dup, 1) := by decide +kernel
theorem dX7_init_478 : decode cX7_init 478 = .ok (.iconst 2, 1) := by decide +kernel
theorem dX7_init_479 : decode cX7_init 479 = .ok (.iconst (-1), 1) := by decide +kernel
theorem dX7_init_480 : decode cX7_init 480 = .ok (.iastore, 1) := by decide +kernel
theorem dX7_init_481 : decode cX7_init 481 = .ok (.dup, 1) := by decide +kernel
theorem dX7_init_482 : decode cX7_init 482 = .ok (.iconst 3, 1) := by decide +kernel
theorem dX7_init_483 : decode cX7_init 483 = .ok (.iconst (-1), 1) := by decide +kernel
theorem dX7_init_484 : decode cX7_init 484 = .ok (.iastore, 1) := by decide +kernel
theorem dX7_init_485 : decode cX7_init 485 = .ok (.dup, 1) := by decide +kernel
theorem dX7_init_486 : decode cX7_init 486 = .ok (.iconst 4, 1) := by decide +kernel
theorem dX7_init_487 : decode cX7_init 487 = .ok (.iconst (-1), 1) := by decide +kernel
theorem dX7_init_488 : decode cX7_init 488 = .ok (.iastore, 1) := by decide +kernel
theorem dX7_init_489 : decode cX7_init 489 = .ok (.dup, 1) := by decide +kernel
theorem dX7_init_490 : decode cX7_init 490 = .ok (.iconst 5, 1) := by decide +kernel
theorem dX7_init_491 : decode cX7_init 491 = .ok (.iconst (-1), 1) := by decide +kernel
theorem dX7_init_492 : decode cX7_init 492 = .ok (.iastore, 1) := by decide +kernel
theorem dX7_init_493 : decode cX7_init 493 = .ok (.putfield 184, 3) := by decide +kernel
theorem dX7_init_496 : decode cX7_init 496 = .ok (.aload_n 0, 1) := by decide +kernel
theorem dX7_init_497 : decode cX7_init 497 = .ok (.bipush 6, 2) := by decide +kernel
theorem dX7_init_499 : decode cX7_init 499 = .ok (.newarray .int, 2) := by decide +kernel
theorem dX7_init_501 : decode cX7_init 501 = .ok (.putfield 187, 3) := by decide +kernel
theorem dX7_init_504 : decode cX7_init 504 = .ok (.aload_n 0, 1) := by decide +kernel
theorem dX7_init_505 : decode cX7_init 505 = .ok (.sipush 360, 3) := by decide +kernel
theorem dX7_init_508 : decode cX7_init 508 = .ok (.newarray .long, 2) := by decide +kernel
theorem dX7_init_510 : decode cX7_init 510 = .ok (.putfield 190, 3) := by decide +kernel
theorem dX7_init_513 : decode cX7_init 513 = .ok (.aload_n 0, 1) := by decide +kernel
theorem dX7_init_514 : decode cX7_init 514 = .ok (.bipush 60, 2) := by decide +kernel
theorem dX7_init_516 : decode cX7_init 516 = .ok (.newarray .long, 2) := by decide +kernel
theorem dX7_init_518 : decode cX7_init 518 = .ok (.putfield 194, 3) := by decide +kernel
theorem dX7_init_521 : decode cX7_init 521 = .ok (.return_, 1) := by decide +kernel
theorem dX7_in_0 : decode cX7_in 0 = .ok (.iload_n 1, 1) := by decide +kernel
theorem dX7_in_1 : decode cX7_in 1 = .ok (.iload_n 2, 1) := by decide +kernel
theorem dX7_in_2 : decode cX7_in 2 = .ok (.if_icmp .lt 12, 3) := by decide +kernel
theorem dX7_in_5 : decode cX7_in 5 = .ok (.iload_n 1, 1) := by decide +kernel
theorem dX7_in_6 : decode cX7_in 6 = .ok (.iload_n 3, 1) := by decide +kernel
theorem dX7_in_7 : decode cX7_in 7 = .ok (.if_icmp .gt 7, 3) := by decide +kernel
theorem dX7_in_10 : decode cX7_in 10 = .ok (.iconst 1, 1) := by decide +kernel
theorem dX7_in_11 : decode cX7_in 11 = .ok (.goto 4, 3) := by decide +kernel
theorem dX7_in_14 : decode cX7_in 14 = .ok (.iconst 0, 1) := by decide +kernel
theorem dX7_in_15 : decode cX7_in 15 = .ok (.ireturn, 1) := by decide +kernel
theorem dX7_isHouse_0 : decode cX7_isHouse 0 = .ok (.aload_n 0, 1) := by decide +kernel
theorem dX7_isHouse_1 : decode cX7_isHouse 1 = .ok (.iload_n 1, 1) := by decide +kernel
theorem dX7_isHouse_2 : decode cX7_isHouse 2 = .ok (.iconst 0, 1) := by decide +kernel
theorem dX7_isHouse_3 : decode cX7_isHouse 3 = .ok (.aload_n 0, 1) := by decide +kernel
theorem dX7_isHouse_4 : decode cX7_isHouse 4 = .ok (.getfield 7, 3) := by decide +kernel
theorem dX7_isHouse_7 : decode cX7_isHouse 7 = .ok (.iconst 1, 1) := by decide +kernel
theorem dX7_isHouse_8 : decode cX7_isHouse 8 = .ok (.isub, 1) := by decide +kernel
theorem dX7_isHouse_9 : decode cX7_isHouse 9 = .ok (.invokevirtual 197, 3) := by decide +kernel
theorem dX7_isHouse_12 : decode cX7_isHouse 12 = .ok (.ireturn, 1) := by decide +kernel
theorem dX7_lay_0 : decode cX7_lay 0 = .ok (.aload_n 0, 1) := by decide +kernel
theorem dX7_lay_1 : decode cX7_lay 1 = .ok (.getfield 16, 3) := by decide +kernel
theorem dX7_lay_4 : decode cX7_lay 4 = .ok (.iload_n 1, 1) := by decide +kernel
theorem dX7_lay_5 : decode cX7_lay 5 = .ok (.iload_n 2, 1) := by decide +kernel
theorem dX7_lay_6 : decode cX7_lay 6 = .ok (.iastore, 1) := by decide +kernel
theorem dX7_lay_7 : decode cX7_lay 7 = .ok (.aload_n 0, 1) := by decide +kernel
theorem dX7_lay_8 : decode cX7_lay 8 = .ok (.getfield 20, 3) := by decide +kernel
theorem dX7_lay_11 : decode cX7_lay 11 = .ok (.iload_n 1, 1) := by decide +kernel
theorem dX7_lay_12 : decode cX7_lay 12 = .ok (.iload_n 3, 1) := by decide +kernel
theorem dX7_lay_13 : decode cX7_lay 13 = .ok (.iastore, 1) := by decide +kernel
theorem dX7_lay_14 : decode cX7_lay 14 = .ok (.aload_n 0, 1) := by decide +kernel
theorem dX7_lay_15 : decode cX7_lay 15 = .ok (.getfield 23, 3) := by decide +kernel
theorem dX7_lay_18 : decode cX7_lay 18 = .ok (.iload_n 1, 1) := by decide +kernel
theorem dX7_lay_19 : decode cX7_lay 19 = .ok (.iload 4, 2) := by decide +kernel
theorem dX7_lay_21 : decode cX7_lay 21 = .ok (.iastore, 1) := by decide +kernel
theorem dX7_lay_22 : decode cX7_lay 22 = .ok (.iconst 0, 1) := by decide +kernel
theorem dX7_lay_23 : decode cX7_lay 23 = .ok (.istore 5, 2) := by decide +kernel
theorem dX7_lay_25 : decode cX7_lay 25 = .ok (.iload 5, 2) := by decide +kernel
theorem dX7_lay_27 : decode cX7_lay 27 = .ok (.iconst 4, 1) := by decide +kernel
theorem dX7_lay_28 : decode cX7_lay 28 = .ok (.if_icmp .ge 21, 3) := by decide +kernel
theorem dX7_lay_31 : decode cX7_lay 31 = .ok (.aload_n 0, 1) := by decide +kernel
theorem dX7_lay_32 : decode cX7_lay 32 = .ok (.getfield 26, 3) := by decide +kernel
theorem dX7_lay_35 : decode cX7_lay 35 = .ok (.iconst 4, 1) := by decide +kernel
theorem dX7_lay_36 : decode cX7_lay 36 = .ok (.iload_n 1, 1) := by decide +kernel
theorem dX7_lay_37 : decode cX7_lay 37 = .ok (.imul, 1) := by decide +kernel
theorem dX7_lay_38 : decode cX7_lay 38 = .ok (.iload 5, 2) := by decide +kernel
theorem dX7_lay_40 : decode cX7_lay 40 = .ok (.iadd, 1) := by decide +kernel
theorem dX7_lay_41 : decode cX7_lay 41 = .ok (.iconst 0, 1) := by decide +kernel
theorem dX7_lay_42 : decode cX7_lay 42 = .ok (.iastore, 1) := by decide +kernel
theorem dX7_lay_43 : decode cX7_lay 43 = .ok (.iinc 5 1, 3) := by decide +kernel
theorem dX7_lay_46 : decode cX7_lay 46 = .ok (.goto (-21), 3) := by decide +kernel
theorem dX7_lay_49 : decode cX7_lay 49 = .ok (.return_, 1) := by decide +kernel
theorem dX7_copy_0 : decode cX7_copy 0 = .ok (.aload_n 0, 1) := by decide +kernel
theorem dX7_copy_1 : decode cX7_copy 1 = .ok (.getfield 16, 3) := by decide +kernel
theorem dX7_copy_4 : decode cX7_copy 4 = .ok (.iload_n 1, 1) := by decide +kernel
theorem dX7_copy_5 : decode cX7_copy 5 = .ok (.aload_n 0, 1) := by decide +kernel
theorem dX7_copy_6 : decode cX7_copy 6 = .ok (.getfield 16, 3) := by decide +kernel
theorem dX7_copy_9 : decode cX7_copy 9 = .ok (.iload_n 2, 1) := by decide +kernel
theorem dX7_copy_10 : decode cX7_copy 10 = .ok (.iaload, 1) := by decide +kernel
theorem dX7_copy_11 : decode cX7_copy 11 = .ok (.iastore, 1) := by decide +kernel
theorem dX7_copy_12 : decode cX7_copy 12 = .ok (.aload_n 0, 1) := by decide +kernel
theorem dX7_copy_13 : decode cX7_copy 13 = .ok (.getfield 20, 3) := by decide +kernel
theorem dX7_copy_16 : decode cX7_copy 16 = .ok (.iload_n 1, 1) := by decide +kernel
theorem dX7_copy_17 : decode cX7_copy 17 = .ok (.aload_n 0, 1) := by decide +kernel
theorem dX7_copy_18 : decode cX7_copy 18 = .ok (.getfield 20, 3) := by decide +kernel
theorem dX7_copy_21 : decode cX7_copy 21 = .ok (.iload_n 2, 1) := by decide +kernel
theorem dX7_copy_22 : decode cX7_copy 22 = .ok (.iaload, 1) := by decide +kernel
theorem dX7_copy_23 : decode cX7_copy 23 = .ok (.iastore, 1) := by decide +kernel
theorem dX7_copy_24 : decode cX7_copy 24 = .ok (.aload_n 0, 1) := by decide +kernel
theorem dX7_copy_25 : decode cX7_copy 25 = .ok (.getfield 23, 3) := by decide +kernel
theorem dX7_copy_28 : decode cX7_copy 28 = .ok (.iload_n 1, 1) := by decide +kernel
theorem dX7_copy_29 : decode cX7_copy 29 = .ok (.aload_n 0, 1) := by decide +kernel
theorem dX7_copy_30 : decode cX7_copy 30 = .ok (.getfield 23, 3) := by decide +kernel
theorem dX7_copy_33 : decode cX7_copy 33 = .ok (.iload_n 2, 1) := by decide +kernel
theorem dX7_copy_34 : decode cX7_copy 34 = .ok (.iaload, 1) := by decide +kernel
theorem dX7_copy_35 : decode cX7_copy 35 = .ok (.iastore, 1) := by decide +kernel
theorem dX7_copy_36 : decode cX7_copy 36 = .ok (.iconst 0, 1) := by decide +kernel
theorem dX7_copy_37 : decode cX7_copy 37 = .ok (.istore_n 3, 1) := by decide +kernel
theorem dX7_copy_38 : decode cX7_copy 38 = .ok (.iload_n 3, 1) := by decide +kernel
theorem dX7_copy_39 : decode cX7_copy 39 = .ok (.iconst 4, 1) := by decide +kernel
theorem dX7_copy_40 : decode cX7_copy 40 = .ok (.if_icmp .ge 29, 3) := by decide +kernel
theorem dX7_copy_43 : decode cX7_copy 43 = .ok (.aload_n 0, 1) := by decide +kernel
theorem dX7_copy_44 : decode cX7_copy 44 = .ok (.getfield 26, 3) := by decide +kernel
theorem dX7_copy_47 : decode cX7_copy 47 = .ok (.iconst 4, 1) := by decide +kernel
theorem dX7_copy_48 : decode cX7_copy 48 = .ok (.iload_n 1, 1) := by decide +kernel
theorem dX7_copy_49 : decode cX7_copy 49 = .ok (.imul, 1) := by decide +kernel
theorem dX7_copy_50 : decode cX7_copy 50 = .ok (.iload_n 3, 1) := by decide +kernel
theorem dX7_copy_51 : decode cX7_copy 51 = .ok (.iadd, 1) := by decide +kernel
theorem dX7_copy_52 : decode cX7_copy 52 = .ok (.aload_n 0, 1) := by decide +kernel
theorem dX7_copy_53 : decode cX7_copy 53 = .ok (.getfield 26, 3) := by decide +kernel
theorem dX7_copy_56 : decode cX7_copy 56 = .ok (.iconst 4, 1) := by decide +kernel
theorem dX7_copy_57 : decode cX7_copy 57 = .ok (.iload_n 2, 1) := by decide +kernel
theorem dX7_copy_58 : decode cX7_copy 58 = .ok (.imul, 1) := by decide +kernel
theorem dX7_copy_59 : decode cX7_copy 59 = .ok (.iload_n 3, 1) := by decide +kernel
theorem dX7_copy_60 : decode cX7_copy 60 = .ok (.iadd, 1) := by decide +kernel
theorem dX7_copy_61 : decode cX7_copy 61 = .ok (.iaload, 1) := by decide +kernel
theorem dX7_copy_62 : decode cX7_copy 62 = .ok (.iastore, 1) := by decide +kernel
theorem dX7_copy_63 : decode cX7_copy 63 = .ok (.iinc 3 1, 3) := by decide +kernel
theorem dX7_copy_66 : decode cX7_copy 66 = .ok (.goto (-28), 3) := by decide +kernel
theorem dX7_copy_69 : decode cX7_copy 69 = .ok (.return_, 1) := by decide +kernel
theorem dX7_house_0 : decode cX7_house 0 = .ok (.aload_n 0, 1) := by decide +kernel
theorem dX7_house_1 : decode cX7_house 1 = .ok (.iload_n 1, 1) := by decide +kernel
theorem dX7_house_2 : decode cX7_house 2 = .ok (.iconst 0, 1) := by decide +kernel
theorem dX7_house_3 : decode cX7_house 3 = .ok (.bipush 6, 2) := by decide +kernel
theorem dX7_house_5 : decode cX7_house 5 = .ok (.invokevirtual 197, 3) := by decide +kernel
theorem dX7_house_8 : decode cX7_house 8 = .ok (.ifCond .ne 5, 3) := by decide +kernel
theorem dX7_house_11 : decode cX7_house 11 = .ok (.iconst (-1), 1) := by decide +kernel
theorem dX7_house_12 : decode cX7_house 12 = .ok (.ireturn, 1) := by decide +kernel
theorem dX7_house_13 : decode cX7_house 13 = .ok (.aload_n 0, 1) := by decide +kernel
theorem dX7_house_14 : decode cX7_house 14 = .ok (.iload_n 2, 1) := by decide +kernel
theorem dX7_house_15 : decode cX7_house 15 = .ok (.iconst 0, 1) := by decide +kernel
theorem dX7_house_16 : decode cX7_house 16 = .ok (.bipush 9, 2) := by decide +kernel
theorem dX7_house_18 : decode cX7_house 18 = .ok (.invokevirtual 197, 3) := by decide +kernel
theorem dX7_house_21 : decode cX7_house 21 = .ok (.ifCond .eq 14, 3) := by decide +kernel
theorem dX7_house_24 : decode cX7_house 24 = .ok (.aload_n 0, 1) := by decide +kernel
theorem dX7_house_25 : decode cX7_house 25 = .ok (.iload_n 3, 1) := by decide +kernel
theorem dX7_house_26 : decode cX7_house 26 = .ok (.iconst 0, 1) := by decide +kernel
theorem dX7_house_27 : decode cX7_house 27 = .ok (.bipush 99, 2) := by decide +kernel
theorem dX7_house_29 : decode cX7_house 29 = .ok (.invokevirtual 197, 3) := by decide +kernel
theorem dX7_house_32 : decode cX7_house 32 = .ok (.ifCond .ne 6, 3) := by decide +kernel
theorem dX7_house_35 : decode cX7_house 35 = .ok (.bipush (-2), 2) := by decide +kernel
theorem dX7_house_37 : decode cX7_house 37 = .ok (.ireturn, 1) := by decide +kernel
theorem dX7_house_38 : decode cX7_house 38 = .ok (.aload_n 0, 1) := by decide +kernel
theorem dX7_house_39 : decode cX7_house 39 = .ok (.getfield 7, 3) := by decide +kernel
theorem dX7_house_42 : decode cX7_house 42 = .ok (.bipush 7, 2) := by decide +kernel
theorem dX7_house_44 : decode cX7_house 44 = .ok (.if_icmp .ne 6, 3) := by decide +kernel
theorem dX7_house_47 : decode cX7_house 47 = .ok (.bipush (-4), 2) := by decide +kernel
theorem dX7_house_49 : decode cX7_house 49 = .ok (.ireturn, 1) := by decide +kernel
theorem dX7_house_50 : decode cX7_house 50 = .ok (.aload_n 0, 1) := by decide +kernel
theorem dX7_house_51 : decode cX7_house 51 = .ok (.aload_n 0, 1) := by decide +kernel
theorem dX7_house_52 : decode cX7_house 52 = .ok (.getfield 7, 3) := by decide +kernel
theorem dX7_house_55 : decode cX7_house 55 = .ok (.iload_n 1, 1) := by decide +kernel
theorem dX7_house_56 : decode cX7_house 56 = .ok (.iload_n 2, 1) := by decide +kernel
theorem dX7_house_57 : decode cX7_house 57 = .ok (.iload_n 3, 1) := by decide +kernel
theorem dX7_house_58 : decode cX7_house 58 = .ok (.invokevirtual 201, 3) := by decide +kernel
theorem dX7_house_61 : decode cX7_house 61 = .ok (.aload_n 0, 1) := by decide +kernel
theorem dX7_house_62 : decode cX7_house 62 = .ok (.dup, 1) := by decide +kernel
theorem dX7_house_63 : decode cX7_house 63 = .ok (.getfield 7, 3) := by decide +kernel
theorem dX7_house_66 : decode cX7_house 66 = .ok (.iconst 1, 1) := by decide +kernel
theorem dX7_house_67 : decode cX7_house 67 = .ok (.iadd, 1) := by decide +kernel
theorem dX7_house_68 : decode cX7_house 68 = .ok (.putfield 7, 3) := by decide +kernel
theorem dX7_house_71 : decode cX7_house 71 = .ok (.aload_n 0, 1) := by decide +kernel
theorem dX7_house_72 : decode cX7_house 72 = .ok (.getfield 7, 3) := by decide +kernel
theorem dX7_house_75 : decode cX7_house 75 = .ok (.iconst 1, 1) := by decide +kernel
theorem dX7_house_76 : decode cX7_house 76 = .ok (.isub, 1) := by decide +kernel
theorem dX7_house_77 : decode cX7_house 77 = .ok (.ireturn, 1) := by decide +kernel
theorem dX7_earn_0 : decode cX7_earn 0 = .ok (.aload_n 0, 1) := by decide +kernel
theorem dX7_earn_1 : decode cX7_earn 1 = .ok (.iload_n 1, 1) := by decide +kernel
theorem dX7_earn_2 : decode cX7_earn 2 = .ok (.invokevirtual 205, 3) := by decide +kernel
theorem dX7_earn_5 : decode cX7_earn 5 = .ok (.ifCond .ne 5, 3) := by decide +kernel
theorem dX7_earn_8 : decode cX7_earn 8 = .ok (.iconst (-1), 1) := by decide +kernel
theorem dX7_earn_9 : decode cX7_earn 9 = .ok (.ireturn, 1) := by decide +kernel
theorem dX7_earn_10 : decode cX7_earn 10 = .ok (.aload_n 0, 1) := by decide +kernel
theorem dX7_earn_11 : decode cX7_earn 11 = .ok (.iload_n 2, 1) := by decide +kernel
theorem dX7_earn_12 : decode cX7_earn 12 = .ok (.iconst 0, 1) := by decide +kernel
theorem dX7_earn_13 : decode cX7_earn 13 = .ok (.bipush 99, 2) := by decide +kernel
theorem dX7_earn_15 : decode cX7_earn 15 = .ok (.invokevirtual 197, 3) := by decide +kernel
theorem dX7_earn_18 : decode cX7_earn 18 = .ok (.ifCond .ne 6, 3) := by decide +kernel
theorem dX7_earn_21 : decode cX7_earn 21 = .ok (.bipush (-2), 2) := by decide +kernel
theorem dX7_earn_23 : decode cX7_earn 23 = .ok (.ireturn, 1) := by decide +kernel
theorem dX7_earn_24 : decode cX7_earn 24 = .ok (.aload_n 0, 1) := by decide +kernel
theorem dX7_earn_25 : decode cX7_earn 25 = .ok (.getfield 23, 3) := by decide +kernel
theorem dX7_earn_28 : decode cX7_earn 28 = .ok (.iload_n 1, 1) := by decide +kernel
theorem dX7_earn_29 : decode cX7_earn 29 = .ok (.iaload, 1) := by decide +kernel
theorem dX7_earn_30 : decode cX7_earn 30 = .ok (.istore_n 3, 1) := by decide +kernel
theorem dX7_earn_31 : decode cX7_earn 31 = .ok (.aload_n 0, 1) := by decide +kernel
theorem dX7_earn_32 : decode cX7_earn 32 = .ok (.getfield 23, 3) := by decide +kernel
theorem dX7_earn_35 : decode cX7_earn 35 = .ok (.iload_n 1, 1) := by decide +kernel
theorem dX7_earn_36 : decode cX7_earn 36 = .ok (.iload_n 2, 1) := by decide +kernel
theorem dX7_earn_37 : decode cX7_earn 37 = .ok (.iastore, 1) := by decide +kernel
theorem dX7_earn_38 : decode cX7_earn 38 = .ok (.iload_n 3, 1) := by decide +kernel
theorem dX7_earn_39 : decode cX7_earn 39 = .ok (.ireturn, 1) := by decide +kernel
theorem dX7_row_0 : decode cX7_row 0 = .ok (.aload_n 0, 1) := by decide +kernel
theorem dX7_row_1 : decode cX7_row 1 = .ok (.iload_n 1, 1) := by decide +kernel
theorem dX7_row_2 : decode cX7_row 2 = .ok (.invokevirtual 205, 3) := by decide +kernel
theorem dX7_row_5 : decode cX7_row 5 = .ok (.ifCond .eq 13, 3) := by decide +kernel
theorem dX7_row_8 : decode cX7_row 8 = .ok (.aload_n 0, 1) := by decide +kernel
theorem dX7_row_9 : decode cX7_row 9 = .ok (.iload_n 2, 1) := by decide +kernel
theorem dX7_row_10 : decode cX7_row 10 = .ok (.iconst 0, 1) := by decide +kernel
theorem dX7_row_11 : decode cX7_row 11 = .ok (.iconst 3, 1) := by decide +kernel
theorem dX7_row_12 : decode cX7_row 12 = .ok (.invokevirtual 197, 3) := by decide +kernel
theorem dX7_row_15 : decode cX7_row 15 = .ok (.ifCond .ne 5, 3) := by decide +kernel
theorem dX7_row_18 : decode cX7_row 18 = .ok (.iconst (-1), 1) := by decide +kernel
theorem dX7_row_19 : decode cX7_row 19 = .ok (.ireturn, 1) := by decide +kernel
theorem dX7_row_20 : decode cX7_row 20 = .ok (.aload_n 0, 1) := by decide +kernel
theorem dX7_row_21 : decode cX7_row 21 = .ok (.iload_n 3, 1) := by decide +kernel
theorem dX7_row_22 : decode cX7_row 22 = .ok (.iconst 0, 1) := by decide +kernel
theorem dX7_row_23 : decode cX7_row 23 = .ok (.iconst 4, 1) := by decide +kernel
theorem dX7_row_24 : decode cX7_row 24 = .ok (.invokevirtual 197, 3) := by decide +kernel
theorem dX7_row_27 : decode cX7_row 27 = .ok (.ifCond .ne 6, 3) := by decide +kernel
theorem dX7_row_30 : decode cX7_row 30 = .ok (.bipush (-2), 2) := by decide +kernel
theorem dX7_row_32 : decode cX7_row 32 = .ok (.ireturn, 1) := by decide +kernel
theorem dX7_row_33 : decode cX7_row 33 = .ok (.aload_n 0, 1) := by decide +kernel
theorem dX7_row_34 : decode cX7_row 34 = .ok (.getfield 16, 3) := by decide +kernel
theorem dX7_row_37 : decode cX7_row 37 = .ok (.iload_n 1, 1) := by decide +kernel
theorem dX7_row_38 : decode cX7_row 38 = .ok (.iaload, 1) := by decide +kernel
theorem dX7_row_39 : decode cX7_row 39 = .ok (.bipush 6, 2) := by decide +kernel
theorem dX7_row_41 : decode cX7_row 41 = .ok (.if_icmp .eq 6, 3) := by decide +kernel
theorem dX7_row_44 : decode cX7_row 44 = .ok (.bipush (-3), 2) := by decide +kernel
theorem dX7_row_46 : decode cX7_row 46 = .ok (.ireturn, 1) := by decide +kernel
theorem dX7_row_47 : decode cX7_row 47 = .ok (.aload_n 0, 1) := by decide +kernel
theorem dX7_row_48 : decode cX7_row 48 = .ok (.getfield 26, 3) := by decide +kernel
theorem dX7_row_51 : decode cX7_row 51 = .ok (.iconst 4, 1) := by decide +kernel
theorem dX7_row_52 : decode cX7_row 52 = .ok (.iload_n 1, 1) := by decide +kernel
theorem dX7_row_53 : decode cX7_row 53 = .ok (.imul, 1) := by decide +kernel
theorem dX7_row_54 : decode cX7_row 54 = .ok (.iload_n 2, 1) := by decide +kernel
theorem dX7_row_55 : decode cX7_row 55 = .ok (.iadd, 1) := by decide +kernel
theorem dX7_row_56 : decode cX7_row 56 = .ok (.iaload, 1) := by decide +kernel
theorem dX7_row_57 : decode cX7_row 57 = .ok (.istore 4, 2) := by decide +kernel
theorem dX7_row_59 : decode cX7_row 59 = .ok (.aload_n 0, 1) := by decide +kernel
theorem dX7_row_60 : decode cX7_row 60 = .ok (.getfield 26, 3) := by decide +kernel
theorem dX7_row_63 : decode cX7_row 63 = .ok (.iconst 4, 1) := by decide +kernel
theorem dX7_row_64 : decode cX7_row 64 = .ok (.iload_n 1, 1) := by decide +kernel
theorem dX7_row_65 : decode cX7_row 65 = .ok (.imul, 1) := by decide +kernel
theorem dX7_row_66 : decode cX7_row 66 = .ok (.iload_n 2, 1) := by decide +kernel
theorem dX7_row_67 : decode cX7_row 67 = .ok (.iadd, 1) := by decide +kernel
theorem dX7_row_68 : decode cX7_row 68 = .ok (.iload_n 3, 1) := by decide +kernel
theorem dX7_row_69 : decode cX7_row 69 = .ok (.iastore, 1) := by decide +kernel
theorem dX7_row_70 : decode cX7_row 70 = .ok (.iload 4, 2) := by decide +kernel
theorem dX7_row_72 : decode cX7_row 72 = .ok (.ireturn, 1) := by decide +kernel
theorem dX7_feed_0 : decode cX7_feed 0 = .ok (.aload_n 0, 1) := by decide +kernel
theorem dX7_feed_1 : decode cX7_feed 1 = .ok (.iload_n 1, 1) := by decide +kernel
theorem dX7_feed_2 : decode cX7_feed 2 = .ok (.iconst 0, 1) := by decide +kernel
theorem dX7_feed_3 : decode cX7_feed 3 = .ok (.bipush 127, 2) := by decide +kernel
theorem dX7_feed_5 : decode cX7_feed 5 = .ok (.invokevirtual 197, 3) := by decide +kernel
theorem dX7_feed_8 : decode cX7_feed 8 = .ok (.ifCond .ne 6, 3) := by decide +kernel
theorem dX7_feed_11 : decode cX7_feed 11 = .ok (.bipush (-2), 2) := by decide +kernel
theorem dX7_feed_13 : decode cX7_feed 13 = .ok (.ireturn, 1) := by decide +kernel
theorem dX7_feed_14 : decode cX7_feed 14 = .ok (.aload_n 0, 1) := by decide +kernel
theorem dX7_feed_15 : decode cX7_feed 15 = .ok (.getfield 35, 3) := by decide +kernel
theorem dX7_feed_18 : decode cX7_feed 18 = .ok (.bipush 100, 2) := by decide +kernel
theorem dX7_feed_20 : decode cX7_feed 20 = .ok (.if_icmp .ne 6, 3) := by decide +kernel
theorem dX7_feed_23 : decode cX7_feed 23 = .ok (.bipush (-4), 2) := by decide +kernel
theorem dX7_feed_25 : decode cX7_feed 25 = .ok (.ireturn, 1) := by decide +kernel
theorem dX7_feed_26 : decode cX7_feed 26 = .ok (.aload_n 0, 1) := by decide +kernel
theorem dX7_feed_27 : decode cX7_feed 27 = .ok (.getfield 44, 3) := by decide +kernel
theorem dX7_feed_30 : decode cX7_feed 30 = .ok (.aload_n 0, 1) := by decide +kernel
theorem dX7_feed_31 : decode cX7_feed 31 = .ok (.getfield 35, 3) := by decide +kernel
theorem dX7_feed_34 : decode cX7_feed 34 = .ok (.iload_n 1, 1) := by decide +kernel
theorem dX7_feed_35 : decode cX7_feed 35 = .ok (.iastore, 1) := by decide +kernel
theorem dX7_feed_36 : decode cX7_feed 36 = .ok (.aload_n 0, 1) := by decide +kernel
theorem dX7_feed_37 : decode cX7_feed 37 = .ok (.dup, 1) := by decide +kernel
theorem dX7_feed_38 : decode cX7_feed 38 = .ok (.getfield 35, 3) := by decide +kernel
theorem dX7_feed_41 : decode cX7_feed 41 = .ok (.iconst 1, 1) := by decide +kernel
theorem dX7_feed_42 : decode cX7_feed 42 = .ok (.iadd, 1) := by decide +kernel
theorem dX7_feed_43 : decode cX7_feed 43 = .ok (.putfield 35, 3) := by decide +kernel
theorem dX7_feed_46 : decode cX7_feed 46 = .ok (.aload_n 0, 1) := by decide +kernel
theorem dX7_feed_47 : decode cX7_feed 47 = .ok (.getfield 35, 3) := by decide +kernel
theorem dX7_feed_50 : decode cX7_feed 50 = .ok (.ireturn, 1) := by decide +kernel
theorem dX7_next_0 : decode cX7_next 0 = .ok (.aload_n 0, 1) := by decide +kernel
theorem dX7_next_1 : decode cX7_next 1 = .ok (.getfield 38, 3) := by decide +kernel
theorem dX7_next_4 : decode cX7_next 4 = .ok (.aload_n 0, 1) := by decide +kernel
theorem dX7_next_5 : decode cX7_next 5 = .ok (.getfield 35, 3) := by decide +kernel
theorem dX7_next_8 : decode cX7_next 8 = .ok (.if_icmp .ge 15, 3) := by decide +kernel
theorem dX7_next_11 : decode cX7_next 11 = .ok (.aload_n 0, 1) := by decide +kernel
theorem dX7_next_12 : decode cX7_next 12 = .ok (.getfield 44, 3) := by decide +kernel
theorem dX7_next_15 : decode cX7_next 15 = .ok (.aload_n 0, 1) := by decide +kernel
theorem dX7_next_16 : decode cX7_next 16 = .ok (.getfield 38, 3) := by decide +kernel
theorem dX7_next_19 : decode cX7_next 19 = .ok (.iaload, 1) := by decide +kernel
theorem dX7_next_20 : decode cX7_next 20 = .ok (.goto 4, 3) := by decide +kernel
theorem dX7_next_23 : decode cX7_next 23 = .ok (.iconst (-1), 1) := by decide +kernel
theorem dX7_next_24 : decode cX7_next 24 = .ok (.ireturn, 1) := by decide +kernel
theorem dX7_second_0 : decode cX7_second 0 = .ok (.aload_n 0, 1) := by decide +kernel
theorem dX7_second_1 : decode cX7_second 1 = .ok (.getfield 38, 3) := by decide +kernel
theorem dX7_second_4 : decode cX7_second 4 = .ok (.iconst 1, 1) := by decide +kernel
theorem dX7_second_5 : decode cX7_second 5 = .ok (.iadd, 1) := by decide +kernel
theorem dX7_second_6 : decode cX7_second 6 = .ok (.aload_n 0, 1) := by decide +kernel
theorem dX7_second_7 : decode cX7_second 7 = .ok (.getfield 35, 3) := by decide +kernel
theorem dX7_second_10 : decode cX7_second 10 = .ok (.if_icmp .ge 17, 3) := by decide +kernel
theorem dX7_second_13 : decode cX7_second 13 = .ok (.aload_n 0, 1) := by decide +kernel
theorem dX7_second_14 : decode cX7_second 14 = .ok (.getfield 44, 3) := by decide +kernel
theorem dX7_second_17 : decode cX7_second 17 = .ok (.aload_n 0, 1) := by decide +kernel
theorem dX7_second_18 : decode cX7_second 18 = .ok (.getfield 38, 3) := by decide +kernel
theorem dX7_second_21 : decode cX7_second 21 = .ok (.iconst 1, 1) := by decide +kernel
theorem dX7_second_22 : decode cX7_second 22 = .ok (.iadd, 1) := by decide +kernel
theorem dX7_second_23 : decode cX7_second 23 = .ok (.iaload, 1) := by decide +kernel
theorem dX7_second_24 : decode cX7_second 24 = .ok (.goto 4, 3) := by decide +kernel
theorem dX7_second_27 : decode cX7_second 27 = .ok (.iconst (-1), 1) := by decide +kernel
theorem dX7_second_28 : decode cX7_second 28 = .ok (.ireturn, 1) := by decide +kernel
theorem dX7_takes_0 : decode cX7_takes 0 = .ok (.aload_n 0, 1) := by decide +kernel
theorem dX7_takes_1 : decode cX7_takes 1 = .ok (.invokevirtual 209, 3) := by decide +kernel
theorem dX7_takes_4 : decode cX7_takes 4 = .ok (.iload_n 1, 1) := by decide +kernel
theorem dX7_takes_5 : decode cX7_takes 5 = .ok (.if_icmp .eq 5, 3) := by decide +kernel
theorem dX7_takes_8 : decode cX7_takes 8 = .ok (.iconst 0, 1) := by decide +kernel
theorem dX7_takes_9 : decode cX7_takes 9 = .ok (.ireturn, 1) := by decide +kernel
theorem dX7_takes_10 : decode cX7_takes 10 = .ok (.aload_n 0, 1) := by decide +kernel
theorem dX7_takes_11 : decode cX7_takes 11 = .ok (.dup, 1) := by decide +kernel
theorem dX7_takes_12 : decode cX7_takes 12 = .ok (.getfield 38, 3) := by decide +kernel
theorem dX7_takes_15 : decode cX7_takes 15 = .ok (.iconst 1, 1) := by decide +kernel
theorem dX7_takes_16 : decode cX7_takes 16 = .ok (.iadd, 1) := by decide +kernel
theorem dX7_takes_17 : decode cX7_takes 17 = .ok (.putfield 38, 3) := by decide +kernel
theorem dX7_takes_20 : decode cX7_takes 20 = .ok (.iconst 1, 1) := by decide +kernel
theorem dX7_takes_21 : decode cX7_takes 21 = .ok (.ireturn, 1) := by decide +kernel
theorem dX7_takesAlone_0 : decode cX7_takesAlone 0 = .ok (.iconst 0, 1) := by decide +kernel
theorem dX7_takesAlone_1 : decode cX7_takesAlone 1 = .ok (.istore_n 3, 1) := by decide +kernel
theorem dX7_takesAlone_2 : decode cX7_takesAlone 2 = .ok (.iload_n 3, 1) := by decide +kernel
theorem dX7_takesAlone_3 : decode cX7_takesAlone 3 = .ok (.iload_n 2, 1) := by decide +kernel
theorem dX7_takesAlone_4 : decode cX7_takesAlone 4 = .ok (.if_icmp .ge 26, 3) := by decide +kernel
theorem dX7_takesAlone_7 : decode cX7_takesAlone 7 = .ok (.aload_n 0, 1) := by decide +kernel
theorem dX7_takesAlone_8 : decode cX7_takesAlone 8 = .ok (.aload_n 0, 1) := by decide +kernel
theorem dX7_takesAlone_9 : decode cX7_takesAlone 9 = .ok (.getfield 77, 3) := by decide +kernel
theorem dX7_takesAlone_12 : decode cX7_takesAlone 12 = .ok (.iload_n 1, 1) := by decide +kernel
theorem dX7_takesAlone_13 : decode cX7_takesAlone 13 = .ok (.iload_n 3, 1) := by decide +kernel
theorem dX7_takesAlone_14 : decode cX7_takesAlone 14 = .ok (.iadd, 1) := by decide +kernel
theorem dX7_takesAlone_15 : decode cX7_takesAlone 15 = .ok (.iaload, 1) := by decide +kernel
theorem dX7_takesAlone_16 : decode cX7_takesAlone 16 = .ok (.invokevirtual 213, 3) := by decide +kernel
theorem dX7_takesAlone_19 : decode cX7_takesAlone 19 = .ok (.ifCond .ne 5, 3) := by decide +kernel
theorem dX7_takesAlone_22 : decode cX7_takesAlone 22 = .ok (.iconst 0, 1) := by decide +kernel
theorem dX7_takesAlone_23 : decode cX7_takesAlone 23 = .ok (.ireturn, 1) := by decide +kernel
theorem dX7_takesAlone_24 : decode cX7_takesAlone 24 = .ok (.iinc 3 1, 3) := by decide +kernel
theorem dX7_takesAlone_27 : decode cX7_takesAlone 27 = .ok (.goto (-25), 3) := by decide +kernel
theorem dX7_takesAlone_30 : decode cX7_takesAlone 30 = .ok (.iconst 1, 1) := by decide +kernel
theorem dX7_takesAlone_31 : decode cX7_takesAlone 31 = .ok (.ireturn, 1) := by decide +kernel
theorem dX7_takesWord_0 : decode cX7_takesWord 0 = .ok (.aload_n 0, 1) := by decide +kernel
theorem dX7_takesWord_1 : decode cX7_takesWord 1 = .ok (.iload_n 1, 1) := by decide +kernel
theorem dX7_takesWord_2 : decode cX7_takesWord 2 = .ok (.iload_n 2, 1) := by decide +kernel
theorem dX7_takesWord_3 : decode cX7_takesWord 3 = .ok (.invokevirtual 216, 3) := by decide +kernel
theorem dX7_takesWord_6 : decode cX7_takesWord 6 = .ok (.ifCond .eq 16, 3) := by decide +kernel
theorem dX7_takesWord_9 : decode cX7_takesWord 9 = .ok (.aload_n 0, 1) := by decide +kernel
theorem dX7_takesWord_10 : decode cX7_takesWord 10 = .ok (.bipush 32, 2) := by decide +kernel
theorem dX7_takesWord_12 : decode cX7_takesWord 12 = .ok (.invokevirtual 213, 3) := by decide +kernel
theorem dX7_takesWord_15 : decode cX7_takesWord 15 = .ok (.ifCond .eq 7, 3) := by decide +kernel
theorem dX7_takesWord_18 : decode cX7_takesWord 18 = .ok (.iconst 1, 1) := by decide +kernel
theorem dX7_takesWord_19 : decode cX7_takesWord 19 = .ok (.goto 4, 3) := by decide +kernel
theorem dX7_takesWord_22 : decode cX7_takesWord 22 = .ok (.iconst 0, 1) := by decide +kernel
theorem dX7_takesWord_23 : decode cX7_takesWord 23 = .ok (.ireturn, 1) := by decide +kernel
theorem dX7_isDigit_0 : decode cX7_isDigit 0 = .ok (.aload_n 0, 1) := by decide +kernel
theorem dX7_isDigit_1 : decode cX7_isDigit 1 = .ok (.aload_n 0, 1) := by decide +kernel
theorem dX7_isDigit_2 : decode cX7_isDigit 2 = .ok (.invokevirtual 209, 3) := by decide +kernel
theorem dX7_isDigit_5 : decode cX7_isDigit 5 = .ok (.bipush 48, 2) := by decide +kernel
theorem dX7_isDigit_7 : decode cX7_isDigit 7 = .ok (.bipush 57, 2) := by decide +kernel
theorem dX7_isDigit_9 : decode cX7_isDigit 9 = .ok (.invokevirtual 197, 3) := by decide +kernel
theorem dX7_isDigit_12 : decode cX7_isDigit 12 = .ok (.ireturn, 1) := by decide +kernel
theorem dX7_takesNumber_0 : decode cX7_takesNumber 0 = .ok (.aload_n 0, 1) := by decide +kernel
theorem dX7_takesNumber_1 : decode cX7_takesNumber 1 = .ok (.invokevirtual 220, 3) := by decide +kernel
theorem dX7_takesNumber_4 : decode cX7_takesNumber 4 = .ok (.ifCond .ne 5, 3) := by decide +kernel
theorem dX7_takesNumber_7 : decode cX7_takesNumber 7 = .ok (.iconst 0, 1) := by decide +kernel
theorem dX7_takesNumber_8 : decode cX7_takesNumber 8 = .ok (.ireturn, 1) := by decide +kernel
theorem dX7_takesNumber_9 : decode cX7_takesNumber 9 = .ok (.aload_n 0, 1) := by decide +kernel
theorem dX7_takesNumber_10 : decode cX7_takesNumber 10 = .ok (.iconst 0, 1) := by decide +kernel
theorem dX7_takesNumber_11 : decode cX7_takesNumber 11 = .ok (.putfield 41, 3) := by decide +kernel
theorem dX7_takesNumber_14 : decode cX7_takesNumber 14 = .ok (.iconst 0, 1) := by decide +kernel
theorem dX7_takesNumber_15 : decode cX7_takesNumber 15 = .ok (.istore_n 1, 1) := by decide +kernel
theorem dX7_takesNumber_16 : decode cX7_takesNumber 16 = .ok (.iload_n 1, 1) := by decide +kernel
theorem dX7_takesNumber_17 : decode cX7_takesNumber 17 = .ok (.iconst 2, 1) := by decide +kernel
theorem dX7_takesNumber_18 : decode cX7_takesNumber 18 = .ok (.if_icmp .ge 45, 3) := by decide +kernel
theorem dX7_takesNumber_21 : decode cX7_takesNumber 21 = .ok (.aload_n 0, 1) := by decide +kernel
theorem dX7_takesNumber_22 : decode cX7_takesNumber 22 = .ok (.invokevirtual 220, 3) := by decide +kernel
theorem dX7_takesNumber_25 : decode cX7_takesNumber 25 = .ok (.ifCond .eq 38, 3) := by decide +kernel
theorem dX7_takesNumber_28 : decode cX7_takesNumber 28 = .ok (.aload_n 0, 1) := by decide +kernel
theorem dX7_takesNumber_29 : decode cX7_takesNumber 29 = .ok (.bipush 10, 2) := by decide +kernel
theorem dX7_takesNumber_31 : decode cX7_takesNumber 31 = .ok (.aload_n 0, 1) := by decide +kernel
theorem dX7_takesNumber_32 : decode cX7_takesNumber 32 = .ok (.getfield 41, 3) := by decide +kernel
theorem dX7_takesNumber_35 : decode cX7_takesNumber 35 = .ok (.imul, 1) := by decide +kernel
theorem dX7_takesNumber_36 : decode cX7_takesNumber 36 = .ok (.aload_n 0, 1) := by decide +kernel
theorem dX7_takesNumber_37 : decode cX7_takesNumber 37 = .ok (.invokevirtual 209, 3) := by decide +kernel
theorem dX7_takesNumber_40 : decode cX7_takesNumber 40 = .ok (.iadd, 1) := by decide +kernel
theorem dX7_takesNumber_41 : decode cX7_takesNumber 41 = .ok (.bipush 48, 2) := by decide +kernel
theorem dX7_takesNumber_43 : decode cX7_takesNumber 43 = .ok (.isub, 1) := by decide +kernel
theorem dX7_takesNumber_44 : decode cX7_takesNumber 44 = .ok (.putfield 41, 3) := by decide +kernel
theorem dX7_takesNumber_47 : decode cX7_takesNumber 47 = .ok (.aload_n 0, 1) := by decide +kernel
theorem dX7_takesNumber_48 : decode cX7_takesNumber 48 = .ok (.dup, 1) := by decide +kernel
theorem dX7_takesNumber_49 : decode cX7_takesNumber 49 = .ok (.getfield 38, 3) := by decide +kernel
theorem dX7_takesNumber_52 : decode cX7_takesNumber 52 = .ok (.iconst 1, 1) := by decide +kernel
theorem dX7_takesNumber_53 : decode cX7_takesNumber 53 = .ok (.iadd, 1) := by decide +kernel
theorem dX7_takesNumber_54 : decode cX7_takesNumber 54 = .ok (.putfield 38, 3) := by decide +kernel
theorem dX7_takesNumber_57 : decode cX7_takesNumber 57 = .ok (.iinc 1 1, 3) := by decide +kernel
theorem dX7_takesNumber_60 : decode cX7_takesNumber 60 = .ok (.goto (-44), 3) := by decide +kernel
theorem dX7_takesNumber_63 : decode cX7_takesNumber 63 = .ok (.iconst 1, 1) := by decide +kernel
theorem dX7_takesNumber_64 : decode cX7_takesNumber 64 = .ok (.ireturn, 1) := by decide +kernel
theorem dX7_emits_0 : decode cX7_emits 0 = .ok (.aload_n 0, 1) := by decide +kernel
theorem dX7_emits_1 : decode cX7_emits 1 = .ok (.getfield 62, 3) := by decide +kernel
theorem dX7_emits_4 : decode cX7_emits 4 = .ok (.aload_n 0, 1) := by decide +kernel
theorem dX7_emits_5 : decode cX7_emits 5 = .ok (.getfield 68, 3) := by decide +kernel
theorem dX7_emits_8 : decode cX7_emits 8 = .ok (.iload_n 1, 1) := by decide +kernel
theorem dX7_emits_9 : decode cX7_emits 9 = .ok (.iastore, 1) := by decide +kernel
theorem dX7_emits_10 : decode cX7_emits 10 = .ok (.aload_n 0, 1) := by decide +kernel
theorem dX7_emits_11 : decode cX7_emits 11 = .ok (.dup, 1) := by decide +kernel
theorem dX7_emits_12 : decode cX7_emits 12 = .ok (.getfield 68, 3) := by decide +kernel
theorem dX7_emits_15 : decode cX7_emits 15 = .ok (.iconst 1, 1) := by decide +kernel
theorem dX7_emits_16 : decode cX7_emits 16 = .ok (.iadd, 1) := by decide +kernel
theorem dX7_emits_17 : decode cX7_emits 17 = .ok (.putfield 68, 3) := by decide +kernel
theorem dX7_emits_20 : decode cX7_emits 20 = .ok (.return_, 1) := by decide +kernel
theorem dX7_whole_0 : decode cX7_whole 0 = .ok (.aload_n 0, 1) := by decide +kernel
theorem dX7_whole_1 : decode cX7_whole 1 = .ok (.getfield 71, 3) := by decide +kernel
theorem dX7_whole_4 : decode cX7_whole 4 = .ok (.ifCond .le 48, 3) := by decide +kernel
theorem dX7_whole_7 : decode cX7_whole 7 = .ok (.aload_n 0, 1) := by decide +kernel
theorem dX7_whole_8 : decode cX7_whole 8 = .ok (.getfield 65, 3) := by decide +kernel
theorem dX7_whole_11 : decode cX7_whole 11 = .ok (.aload_n 0, 1) := by decide +kernel
theorem dX7_whole_12 : decode cX7_whole 12 = .ok (.getfield 71, 3) := by decide +kernel
theorem dX7_whole_15 : decode cX7_whole 15 = .ok (.iconst 1, 1) := by decide +kernel
theorem dX7_whole_16 : decode cX7_whole 16 = .ok (.isub, 1) := by decide +kernel
theorem dX7_whole_17 : decode cX7_whole 17 = .ok (.iaload, 1) := by decide +kernel
theorem dX7_whole_18 : decode cX7_whole 18 = .ok (.bipush 33, 2) := by decide +kernel
theorem dX7_whole_20 : decode cX7_whole 20 = .ok (.if_icmp .ne 32, 3) := by decide +kernel
theorem dX7_whole_23 : decode cX7_whole 23 = .ok (.aload_n 0, 1) := by decide +kernel
theorem dX7_whole_24 : decode cX7_whole 24 = .ok (.bipush (-33), 2) := by decide +kernel
theorem dX7_whole_26 : decode cX7_whole 26 = .ok (.invokevirtual 224, 3) := by decide +kernel
theorem dX7_whole_29 : decode cX7_whole 29 = .ok (.aload_n 0, 1) := by decide +kernel
theorem dX7_whole_30 : decode cX7_whole 30 = .ok (.dup, 1) := by decide +kernel
theorem dX7_whole_31 : decode cX7_whole 31 = .ok (.getfield 71, 3) := by decide +kernel
theorem dX7_whole_34 : decode cX7_whole 34 = .ok (.iconst 1, 1) := by decide +kernel
theorem dX7_whole_35 : decode cX7_whole 35 = .ok (.isub, 1) := by decide +kernel
theorem dX7_whole_36 : decode cX7_whole 36 = .ok (.putfield 71, 3) := by decide +kernel
theorem dX7_whole_39 : decode cX7_whole 39 = .ok (.aload_n 0, 1) := by decide +kernel
theorem dX7_whole_40 : decode cX7_whole 40 = .ok (.dup, 1) := by decide +kernel
theorem dX7_whole_41 : decode cX7_whole 41 = .ok (.getfield 74, 3) := by decide +kernel
theorem dX7_whole_44 : decode cX7_whole 44 = .ok (.iconst 1, 1) := by decide +kernel
theorem dX7_whole_45 : decode cX7_whole 45 = .ok (.isub, 1) := by decide +kernel
theorem dX7_whole_46 : decode cX7_whole 46 = .ok (.putfield 74, 3) := by decide +kernel
theorem dX7_whole_49 : decode cX7_whole 49 = .ok (.goto (-49), 3) := by decide +kernel
theorem dX7_whole_52 : decode cX7_whole 52 = .ok (.return_, 1) := by decide +kernel
theorem dX7_settle_0 : decode cX7_settle 0 = .ok (.aload_n 0, 1) := by decide +kernel
theorem dX7_settle_1 : decode cX7_settle 1 = .ok (.getfield 71, 3) := by decide +kernel
theorem dX7_settle_4 : decode cX7_settle 4 = .ok (.ifCond .le 68, 3) := by decide +kernel
theorem dX7_settle_7 : decode cX7_settle 7 = .ok (.aload_n 0, 1) := by decide +kernel
theorem dX7_settle_8 : decode cX7_settle 8 = .ok (.getfield 65, 3) := by decide +kernel
theorem dX7_settle_11 : decode cX7_settle 11 = .ok (.aload_n 0, 1) := by decide +kernel
theorem dX7_settle_12 : decode cX7_settle 12 = .ok (.getfield 71, 3) := by decide +kernel
theorem dX7_settle_15 : decode cX7_settle 15 = .ok (.iconst 1, 1) := by decide +kernel
theorem dX7_settle_16 : decode cX7_settle 16 = .ok (.isub, 1) := by decide +kernel
theorem dX7_settle_17 : decode cX7_settle 17 = .ok (.iaload, 1) := by decide +kernel
theorem dX7_settle_18 : decode cX7_settle 18 = .ok (.bipush 38, 2) := by decide +kernel
theorem dX7_settle_20 : decode cX7_settle 20 = .ok (.if_icmp .eq 25, 3) := by decide +kernel
theorem dX7_settle_23 : decode cX7_settle 23 = .ok (.aload_n 0, 1) := by decide +kernel
theorem dX7_settle_24 : decode cX7_settle 24 = .ok (.getfield 65, 3) := by decide +kernel
theorem dX7_settle_27 : decode cX7_settle 27 = .ok (.aload_n 0, 1) := by decide +kernel
theorem dX7_settle_28 : decode cX7_settle 28 = .ok (.getfield 71, 3) := by decide +kernel
theorem dX7_settle_31 : decode cX7_settle 31 = .ok (.iconst 1, 1) := by decide +kernel
theorem dX7_settle_32 : decode cX7_settle 32 = .ok (.isub, 1) := by decide +kernel
theorem dX7_settle_33 : decode cX7_settle 33 = .ok (.iaload, 1) := by decide +kernel
theorem dX7_settle_34 : decode cX7_settle 34 = .ok (.bipush 124, 2) := by decide +kernel
theorem dX7_settle_36 : decode cX7_settle 36 = .ok (.if_icmp .ne 36, 3) := by decide +kernel
theorem dX7_settle_39 : decode cX7_settle 39 = .ok (.iload_n 1, 1) := by decide +kernel
theorem dX7_settle_40 : decode cX7_settle 40 = .ok (.bipush 38, 2) := by decide +kernel
theorem dX7_settle_42 : decode cX7_settle 42 = .ok (.if_icmp .eq 30, 3) := by decide +kernel
theorem dX7_settle_45 : decode cX7_settle 45 = .ok (.aload_n 0, 1) := by decide +kernel
theorem dX7_settle_46 : decode cX7_settle 46 = .ok (.dup, 1) := by decide +kernel
theorem dX7_settle_47 : decode cX7_settle 47 = .ok (.getfield 71, 3) := by decide +kernel
theorem dX7_settle_50 : decode cX7_settle 50 = .ok (.iconst 1, 1) := by decide +kernel
theorem dX7_settle_51 : decode cX7_settle 51 = .ok (.isub, 1) := by decide +kernel
theorem dX7_settle_52 : decode cX7_settle 52 = .ok (.putfield 71, 3) := by decide +kernel
theorem dX7_settle_55 : decode cX7_settle 55 = .ok (.aload_n 0, 1) := by decide +kernel
theorem dX7_settle_56 : decode cX7_settle 56 = .ok (.aload_n 0, 1) := by decide +kernel
theorem dX7_settle_57 : decode cX7_settle 57 = .ok (.getfield 65, 3) := by decide +kernel
theorem dX7_settle_60 : decode cX7_settle 60 = .ok (.aload_n 0, 1) := by decide +kernel
theorem dX7_settle_61 : decode cX7_settle 61 = .ok (.getfield 71, 3) := by decide +kernel
theorem dX7_settle_64 : decode cX7_settle 64 = .ok (.iaload, 1) := by decide +kernel
theorem dX7_settle_65 : decode cX7_settle 65 = .ok (.ineg, 1) := by decide +kernel
theorem dX7_settle_66 : decode cX7_settle 66 = .ok (.invokevirtual 224, 3) := by decide +kernel
theorem dX7_settle_69 : decode cX7_settle 69 = .ok (.goto (-69), 3) := by decide +kernel
theorem dX7_settle_72 : decode cX7_settle 72 = .ok (.return_, 1) := by decide +kernel
theorem dX7_place_0 : decode cX7_place 0 = .ok (.iload_n 1, 1) := by decide +kernel
theorem dX7_place_1 : decode cX7_place 1 = .ok (.lookupswitch 71 #[(98, 67), (101, 65), (104, 59), (107, 61), (118, 63), (121, 69)], 59) := by decide +kernel
theorem dX7_place_60 : decode cX7_place 60 = .ok (.iconst 0, 1) := by decide +kernel
theorem dX7_place_61 : decode cX7_place 61 = .ok (.ireturn, 1) := by decide +kernel
theorem dX7_place_62 : decode cX7_place 62 = .ok (.iconst 1, 1) := by decide +kernel
theorem dX7_place_63 : decode cX7_place 63 = .ok (.ireturn, 1) := by decide +kernel
theorem dX7_place_64 : decode cX7_place 64 = .ok (.iconst 2, 1) := by decide +kernel
theorem dX7_place_65 : decode cX7_place 65 = .ok (.ireturn, 1) := by decide +kernel
theorem dX7_place_66 : decode cX7_place 66 = .ok (.iconst 3, 1) := by decide +kernel
theorem dX7_place_67 : decode cX7_place 67 = .ok (.ireturn, 1) := by decide +kernel
theorem dX7_place_68 : decode cX7_place 68 = .ok (.iconst 4, 1) := by decide +kernel
theorem dX7_place_69 : decode cX7_place 69 = .ok (.ireturn, 1) := by decide +kernel
theorem dX7_place_70 : decode cX7_place 70 = .ok (.iconst 5, 1) := by decide +kernel
theorem dX7_place_71 : decode cX7_place 71 = .ok (.ireturn, 1) := by decide +kernel
theorem dX7_place_72 : decode cX7_place 72 = .ok (.iconst (-1), 1) := by decide +kernel
theorem dX7_place_73 : decode cX7_place 73 = .ok (.ireturn, 1) := by decide +kernel
theorem dX7_takesTest_0 : decode cX7_takesTest 0 = .ok (.aload_n 0, 1) := by decide +kernel
theorem dX7_takesTest_1 : decode cX7_takesTest 1 = .ok (.aload_n 0, 1) := by decide +kernel
theorem dX7_takesTest_2 : decode cX7_takesTest 2 = .ok (.invokevirtual 209, 3) := by decide +kernel
theorem dX7_takesTest_5 : decode cX7_takesTest 5 = .ok (.invokevirtual 228, 3) := by decide +kernel
theorem dX7_takesTest_8 : decode cX7_takesTest 8 = .ok (.istore_n 1, 1) := by decide +kernel
theorem dX7_takesTest_9 : decode cX7_takesTest 9 = .ok (.iload_n 1, 1) := by decide +kernel
theorem dX7_takesTest_10 : decode cX7_takesTest 10 = .ok (.ifCond .ge 5, 3) := by decide +kernel
theorem dX7_takesTest_13 : decode cX7_takesTest 13 = .ok (.iconst 0, 1) := by decide +kernel
theorem dX7_takesTest_14 : decode cX7_takesTest 14 = .ok (.ireturn, 1) := by decide +kernel
theorem dX7_takesTest_15 : decode cX7_takesTest 15 = .ok (.aload_n 0, 1) := by decide +kernel
theorem dX7_takesTest_16 : decode cX7_takesTest 16 = .ok (.dup, 1) := by decide +kernel
theorem dX7_takesTest_17 : decode cX7_takesTest 17 = .ok (.getfield 38, 3) := by decide +kernel
theorem dX7_takesTest_20 : decode cX7_takesTest 20 = .ok (.iconst 1, 1) := by decide +kernel
theorem dX7_takesTest_21 : decode cX7_takesTest 21 = .ok (.iadd, 1) := by decide +kernel
theorem dX7_takesTest_22 : decode cX7_takesTest 22 = .ok (.putfield 38, 3) := by decide +kernel
theorem dX7_takesTest_25 : decode cX7_takesTest 25 = .ok (.aload_n 0, 1) := by decide +kernel
theorem dX7_takesTest_26 : decode cX7_takesTest 26 = .ok (.invokevirtual 209, 3) := by decide +kernel
theorem dX7_takesTest_29 : decode cX7_takesTest 29 = .ok (.istore_n 2, 1) := by decide +kernel
theorem dX7_takesTest_30 : decode cX7_takesTest 30 = .ok (.aload_n 0, 1) := by decide +kernel
theorem dX7_takesTest_31 : decode cX7_takesTest 31 = .ok (.iload_n 2, 1) := by decide +kernel
theorem dX7_takesTest_32 : decode cX7_takesTest 32 = .ok (.bipush 60, 2) := by decide +kernel
theorem dX7_takesTest_34 : decode cX7_takesTest 34 = .ok (.bipush 62, 2) := by decide +kernel
theorem dX7_takesTest_36 : decode cX7_takesTest 36 = .ok (.invokevirtual 197, 3) := by decide +kernel
theorem dX7_takesTest_39 : decode cX7_takesTest 39 = .ok (.ifCond .ne 5, 3) := by decide +kernel
theorem dX7_takesTest_42 : decode cX7_takesTest 42 = .ok (.iconst 0, 1) := by decide +kernel
theorem dX7_takesTest_43 : decode cX7_takesTest 43 = .ok (.ireturn, 1) := by decide +kernel
theorem dX7_takesTest_44 : decode cX7_takesTest 44 = .ok (.aload_n 0, 1) := by decide +kernel
theorem dX7_takesTest_45 : decode cX7_takesTest 45 = .ok (.dup, 1) := by decide +kernel
theorem dX7_takesTest_46 : decode cX7_takesTest 46 = .ok (.getfield 38, 3) := by decide +kernel
theorem dX7_takesTest_49 : decode cX7_takesTest 49 = .ok (.iconst 1, 1) := by decide +kernel
theorem dX7_takesTest_50 : decode cX7_takesTest 50 = .ok (.iadd, 1) := by decide +kernel
theorem dX7_takesTest_51 : decode cX7_takesTest 51 = .ok (.putfield 38, 3) := by decide +kernel
theorem dX7_takesTest_54 : decode cX7_takesTest 54 = .ok (.aload_n 0, 1) := by decide +kernel
theorem dX7_takesTest_55 : decode cX7_takesTest 55 = .ok (.invokevirtual 232, 3) := by decide +kernel
theorem dX7_takesTest_58 : decode cX7_takesTest 58 = .ok (.ifCond .ne 5, 3) := by decide +kernel
theorem dX7_takesTest_61 : decode cX7_takesTest 61 = .ok (.iconst 0, 1) := by decide +kernel
theorem dX7_takesTest_62 : decode cX7_takesTest 62 = .ok (.ireturn, 1) := by decide +kernel
theorem dX7_takesTest_63 : decode cX7_takesTest 63 = .ok (.aload_n 0, 1) := by decide +kernel
theorem dX7_takesTest_64 : decode cX7_takesTest 64 = .ok (.sipush 1000, 3) := by decide +kernel
theorem dX7_takesTest_67 : decode cX7_takesTest 67 = .ok (.iload_n 1, 1) := by decide +kernel
theorem dX7_takesTest_68 : decode cX7_takesTest 68 = .ok (.imul, 1) := by decide +kernel
theorem dX7_takesTest_69 : decode cX7_takesTest 69 = .ok (.bipush 100, 2) := by decide +kernel
theorem dX7_takesTest_71 : decode cX7_takesTest 71 = .ok (.iload_n 2, 1) := by decide +kernel
theorem dX7_takesTest_72 : decode cX7_takesTest 72 = .ok (.bipush 60, 2) := by decide +kernel
theorem dX7_takesTest_74 : decode cX7_takesTest 74 = .ok (.isub, 1) := by decide +kernel
theorem dX7_takesTest_75 : decode cX7_takesTest 75 = .ok (.imul, 1) := by decide +kernel
theorem dX7_takesTest_76 : decode cX7_takesTest 76 = .ok (.iadd, 1) := by decide +kernel
theorem dX7_takesTest_77 : decode cX7_takesTest 77 = .ok (.aload_n 0, 1) := by decide +kernel
theorem dX7_takesTest_78 : decode cX7_takesTest 78 = .ok (.getfield 41, 3) := by decide +kernel
theorem dX7_takesTest_81 : decode cX7_takesTest 81 = .ok (.iadd, 1) := by decide +kernel
theorem dX7_takesTest_82 : decode cX7_takesTest 82 = .ok (.invokevirtual 224, 3) := by decide +kernel
theorem dX7_takesTest_85 : decode cX7_takesTest 85 = .ok (.aload_n 0, 1) := by decide +kernel
theorem dX7_takesTest_86 : decode cX7_takesTest 86 = .ok (.invokevirtual 235, 3) := by decide +kernel
theorem dX7_takesTest_89 : decode cX7_takesTest 89 = .ok (.iconst 1, 1) := by decide +kernel
theorem dX7_takesTest_90 : decode cX7_takesTest 90 = .ok (.ireturn, 1) := by decide +kernel
theorem dX7_takesE_0 : decode cX7_takesE 0 = .ok (.aload_n 0, 1) := by decide +kernel
theorem dX7_takesE_1 : decode cX7_takesE 1 = .ok (.iconst 0, 1) := by decide +kernel
theorem dX7_takesE_2 : decode cX7_takesE 2 = .ok (.putfield 71, 3) := by decide +kernel
theorem dX7_takesE_5 : decode cX7_takesE 5 = .ok (.aload_n 0, 1) := by decide +kernel
theorem dX7_takesE_6 : decode cX7_takesE 6 = .ok (.iconst 0, 1) := by decide +kernel
theorem dX7_takesE_7 : decode cX7_takesE 7 = .ok (.putfield 74, 3) := by decide +kernel
theorem dX7_takesE_10 : decode cX7_takesE 10 = .ok (.aload_n 0, 1) := by decide +kernel
theorem dX7_takesE_11 : decode cX7_takesE 11 = .ok (.getfield 56, 3) := by decide +kernel
theorem dX7_takesE_14 : decode cX7_takesE 14 = .ok (.iload_n 1, 1) := by decide +kernel
theorem dX7_takesE_15 : decode cX7_takesE 15 = .ok (.aload_n 0, 1) := by decide +kernel
theorem dX7_takesE_16 : decode cX7_takesE 16 = .ok (.getfield 68, 3) := by decide +kernel
theorem dX7_takesE_19 : decode cX7_takesE 19 = .ok (.iastore, 1) := by decide +kernel
theorem dX7_takesE_20 : decode cX7_takesE 20 = .ok (.iconst 1, 1) := by decide +kernel
theorem dX7_takesE_21 : decode cX7_takesE 21 = .ok (.istore_n 2, 1) := by decide +kernel
theorem dX7_takesE_22 : decode cX7_takesE 22 = .ok (.aload_n 0, 1) := by decide +kernel
theorem dX7_takesE_23 : decode cX7_takesE 23 = .ok (.invokevirtual 209, 3) := by decide +kernel
theorem dX7_takesE_26 : decode cX7_takesE 26 = .ok (.istore_n 3, 1) := by decide +kernel
theorem dX7_takesE_27 : decode cX7_takesE 27 = .ok (.iload_n 2, 1) := by decide +kernel
theorem dX7_takesE_28 : decode cX7_takesE 28 = .ok (.ifCond .eq 82, 3) := by decide +kernel
theorem dX7_takesE_31 : decode cX7_takesE 31 = .ok (.iload_n 3, 1) := by decide +kernel
theorem dX7_takesE_32 : decode cX7_takesE 32 = .ok (.bipush 33, 2) := by decide +kernel
theorem dX7_takesE_34 : decode cX7_takesE 34 = .ok (.if_icmp .eq 9, 3) := by decide +kernel
theorem dX7_takesE_37 : decode cX7_takesE 37 = .ok (.iload_n 3, 1) := by decide +kernel
theorem dX7_takesE_38 : decode cX7_takesE 38 = .ok (.bipush 40, 2) := by decide +kernel
theorem dX7_takesE_40 : decode cX7_takesE 40 = .ok (.if_icmp .ne 56, 3) := by decide +kernel
theorem dX7_takesE_43 : decode cX7_takesE 43 = .ok (.aload_n 0, 1) := by decide +kernel
theorem dX7_takesE_44 : decode cX7_takesE 44 = .ok (.getfield 74, 3) := by decide +kernel
theorem dX7_takesE_47 : decode cX7_takesE 47 = .ok (.iconst 4, 1) := by decide +kernel
theorem dX7_takesE_48 : decode cX7_takesE 48 = .ok (.if_icmp .ne 5, 3) := by decide +kernel
theorem dX7_takesE_51 : decode cX7_takesE 51 = .ok (.iconst 0, 1) := by decide +kernel
theorem dX7_takesE_52 : decode cX7_takesE 52 = .ok (.ireturn, 1) := by decide +kernel
theorem dX7_takesE_53 : decode cX7_takesE 53 = .ok (.aload_n 0, 1) := by decide +kernel
theorem dX7_takesE_54 : decode cX7_takesE 54 = .ok (.dup, 1) := by decide +kernel
theorem dX7_takesE_55 : decode cX7_takesE 55 = .ok (.getfield 74, 3) := by decide +kernel
theorem dX7_takesE_58 : decode cX7_takesE 58 = .ok (.iconst 1, 1) := by decide +kernel
theorem dX7_takesE_59 : decode cX7_takesE 59 = .ok (.iadd, 1) := by decide +kernel
theorem dX7_takesE_60 : decode cX7_takesE 60 = .ok (.putfield 74, 3) := by decide +kernel
theorem dX7_takesE_63 : decode cX7_takesE 63 = .ok (.aload_n 0, 1) := by decide +kernel
theorem dX7_takesE_64 : decode cX7_takesE 64 = .ok (.getfield 65, 3) := by decide +kernel
theorem dX7_takesE_67 : decode cX7_takesE 67 = .ok (.aload_n 0, 1) := by decide +kernel
theorem dX7_takesE_68 : decode cX7_takesE 68 = .ok (.getfield 71, 3) := by decide +kernel
theorem dX7_takesE_71 : decode cX7_takesE 71 = .ok (.iload_n 3, 1) := by decide +kernel
theorem dX7_takesE_72 : decode cX7_takesE 72 = .ok (.iastore, 1) := by decide +kernel
theorem dX7_takesE_73 : decode cX7_takesE 73 = .ok (.aload_n 0, 1) := by decide +kernel
theorem dX7_takesE_74 : decode cX7_takesE 74 = .ok (.dup, 1) := by decide +kernel
theorem dX7_takesE_75 : decode cX7_takesE 75 = .ok (.getfield 71, 3) := by decide +kernel
theorem dX7_takesE_78 : decode cX7_takesE 78 = .ok (.iconst 1, 1) := by decide +kernel
theorem dX7_takesE_79 : decode cX7_takesE 79 = .ok (.iadd, 1) := by decide +kernel
theorem dX7_takesE_80 : decode cX7_takesE 80 = .ok (.putfield 71, 3) := by decide +kernel
theorem dX7_takesE_83 : decode cX7_takesE 83 = .ok (.aload_n 0, 1) := by decide +kernel
theorem dX7_takesE_84 : decode cX7_takesE 84 = .ok (.dup, 1) := by decide +kernel
theorem dX7_takesE_85 : decode cX7_takesE 85 = .ok (.getfield 38, 3) := by decide +kernel
theorem dX7_takesE_88 : decode cX7_takesE 88 = .ok (.iconst 1, 1) := by decide +kernel
theorem dX7_takesE_89 : decode cX7_takesE 89 = .ok (.iadd, 1) := by decide +kernel
theorem dX7_takesE_90 : decode cX7_takesE 90 = .ok (.putfield 38, 3) := by decide +kernel
theorem dX7_takesE_93 : decode cX7_takesE 93 = .ok (.goto (-71), 3) := by decide +kernel
theorem dX7_takesE_96 : decode cX7_takesE 96 = .ok (.aload_n 0, 1) := by decide +kernel
theorem dX7_takesE_97 : decode cX7_takesE 97 = .ok (.invokevirtual 238, 3) := by decide +kernel
theorem dX7_takesE_100 : decode cX7_takesE 100 = .ok (.ifCond .eq 8, 3) := by decide +kernel
theorem dX7_takesE_103 : decode cX7_takesE 103 = .ok (.iconst 0, 1) := by decide +kernel
theorem dX7_takesE_104 : decode cX7_takesE 104 = .ok (.istore_n 2, 1) := by decide +kernel
theorem dX7_takesE_105 : decode cX7_takesE 105 = .ok (.goto (-83), 3) := by decide +kernel
theorem dX7_takesE_108 : decode cX7_takesE 108 = .ok (.iconst 0, 1) := by decide +kernel
theorem dX7_takesE_109 : decode cX7_takesE 109 = .ok (.ireturn, 1) := by decide +kernel
theorem dX7_takesE_110 : decode cX7_takesE 110 = .ok (.iload_n 3, 1) := by decide +kernel
theorem dX7_takesE_111 : decode cX7_takesE 111 = .ok (.bipush 38, 2) := by decide +kernel
theorem dX7_takesE_113 : decode cX7_takesE 113 = .ok (.if_icmp .eq 9, 3) := by decide +kernel
theorem dX7_takesE_116 : decode cX7_takesE 116 = .ok (.iload_n 3, 1) := by decide +kernel
theorem dX7_takesE_117 : decode cX7_takesE 117 = .ok (.bipush 124, 2) := by decide +kernel
theorem dX7_takesE_119 : decode cX7_takesE 119 = .ok (.if_icmp .ne 43, 3) := by decide +kernel
theorem dX7_takesE_122 : decode cX7_takesE 122 = .ok (.aload_n 0, 1) := by decide +kernel
theorem dX7_takesE_123 : decode cX7_takesE 123 = .ok (.iload_n 3, 1) := by decide +kernel
theorem dX7_takesE_124 : decode cX7_takesE 124 = .ok (.invokevirtual 241, 3) := by decide +kernel
theorem dX7_takesE_127 : decode cX7_takesE 127 = .ok (.aload_n 0, 1) := by decide +kernel
theorem dX7_takesE_128 : decode cX7_takesE 128 = .ok (.getfield 65, 3) := by decide +kernel
theorem dX7_takesE_131 : decode cX7_takesE 131 = .ok (.aload_n 0, 1) := by decide +kernel
theorem dX7_takesE_132 : decode cX7_takesE 132 = .ok (.getfield 71, 3) := by decide +kernel
theorem dX7_takesE_135 : decode cX7_takesE 135 = .ok (.iload_n 3, 1) := by decide +kernel
theorem dX7_takesE_136 : decode cX7_takesE 136 = .ok (.iastore, 1) := by decide +kernel
theorem dX7_takesE_137 : decode cX7_takesE 137 = .ok (.aload_n 0, 1) := by decide +kernel
theorem dX7_takesE_138 : decode cX7_takesE 138 = .ok (.dup, 1) := by decide +kernel
theorem dX7_takesE_139 : decode cX7_takesE 139 = .ok (.getfield 71, 3) := by decide +kernel
theorem dX7_takesE_142 : decode cX7_takesE 142 = .ok (.iconst 1, 1) := by decide +kernel
theorem dX7_takesE_143 : decode cX7_takesE 143 = .ok (.iadd, 1) := by decide +kernel
theorem dX7_takesE_144 : decode cX7_takesE 144 = .ok (.putfield 71, 3) := by decide +kernel
theorem dX7_takesE_147 : decode cX7_takesE 147 = .ok (.iconst 1, 1) := by decide +kernel
theorem dX7_takesE_148 : decode cX7_takesE 148 = .ok (.istore_n 2, 1) := by decide +kernel
theorem dX7_takesE_149 : decode cX7_takesE 149 = .ok (.aload_n 0, 1) := by decide +kernel
theorem dX7_takesE_150 : decode cX7_takesE 150 = .ok (.dup, 1) := by decide +kernel
theorem dX7_takesE_151 : decode cX7_takesE 151 = .ok (.getfield 38, 3) := by decide +kernel
theorem dX7_takesE_154 : decode cX7_takesE 154 = .ok (.iconst 1, 1) := by decide +kernel
theorem dX7_takesE_155 : decode cX7_takesE 155 = .ok (.iadd, 1) := by decide +kernel
theorem dX7_takesE_156 : decode cX7_takesE 156 = .ok (.putfield 38, 3) := by decide +kernel
theorem dX7_takesE_159 : decode cX7_takesE 159 = .ok (.goto (-137), 3) := by decide +kernel
theorem dX7_takesE_162 : decode cX7_takesE 162 = .ok (.aload_n 0, 1) := by decide +kernel
theorem dX7_takesE_163 : decode cX7_takesE 163 = .ok (.bipush 124, 2) := by decide +kernel
theorem dX7_takesE_165 : decode cX7_takesE 165 = .ok (.invokevirtual 241, 3) := by decide +kernel
theorem dX7_takesE_168 : decode cX7_takesE 168 = .ok (.aload_n 0, 1) := by decide +kernel
theorem dX7_takesE_169 : decode cX7_takesE 169 = .ok (.getfield 59, 3) := by decide +kernel
theorem dX7_takesE_172 : decode cX7_takesE 172 = .ok (.iload_n 1, 1) := by decide +kernel
theorem dX7_takesE_173 : decode cX7_takesE 173 = .ok (.aload_n 0, 1) := by decide +kernel
theorem dX7_takesE_174 : decode cX7_takesE 174 = .ok (.getfield 68, 3) := by decide +kernel
theorem dX7_takesE_177 : decode cX7_takesE 177 = .ok (.iastore, 1) := by decide +kernel
theorem dX7_takesE_178 : decode cX7_takesE 178 = .ok (.aload_n 0, 1) := by decide +kernel
theorem dX7_takesE_179 : decode cX7_takesE 179 = .ok (.getfield 71, 3) := by decide +kernel
theorem dX7_takesE_182 : decode cX7_takesE 182 = .ok (.ifCond .ne 5, 3) := by decide +kernel
theorem dX7_takesE_185 : decode cX7_takesE 185 = .ok (.iconst 1, 1) := by decide +kernel
theorem dX7_takesE_186 : decode cX7_takesE 186 = .ok (.ireturn, 1) := by decide +kernel
theorem dX7_takesE_187 : decode cX7_takesE 187 = .ok (.iload_n 3, 1) := by decide +kernel
theorem dX7_takesE_188 : decode cX7_takesE 188 = .ok (.bipush 41, 2) := by decide +kernel
theorem dX7_takesE_190 : decode cX7_takesE 190 = .ok (.if_icmp .eq 5, 3) := by decide +kernel
theorem dX7_takesE_193 : decode cX7_takesE 193 = .ok (.iconst 0, 1) := by decide +kernel
theorem dX7_takesE_194 : decode cX7_takesE 194 = .ok (.ireturn, 1) := by decide +kernel
theorem dX7_takesE_195 : decode cX7_takesE 195 = .ok (.aload_n 0, 1) := by decide +kernel
theorem dX7_takesE_196 : decode cX7_takesE 196 = .ok (.dup, 1) := by decide +kernel
theorem dX7_takesE_197 : decode cX7_takesE 197 = .ok (.getfield 71, 3) := by decide +kernel
theorem dX7_takesE_200 : decode cX7_takesE 200 = .ok (.iconst 1, 1) := by decide +kernel
theorem dX7_takesE_201 : decode cX7_takesE 201 = .ok (.isub, 1) := by decide +kernel
theorem dX7_takesE_202 : decode cX7_takesE 202 = .ok (.putfield 71, 3) := by decide +kernel
theorem dX7_takesE_205 : decode cX7_takesE 205 = .ok (.aload_n 0, 1) := by decide +kernel
theorem dX7_takesE_206 : decode cX7_takesE 206 = .ok (.dup, 1) := by decide +kernel
theorem dX7_takesE_207 : decode cX7_takesE 207 = .ok (.getfield 74, 3) := by decide +kernel
theorem dX7_takesE_210 : decode cX7_takesE 210 = .ok (.iconst 1, 1) := by decide +kernel
theorem dX7_takesE_211 : decode cX7_takesE 211 = .ok (.isub, 1) := by decide +kernel
theorem dX7_takesE_212 : decode cX7_takesE 212 = .ok (.putfield 74, 3) := by decide +kernel
theorem dX7_takesE_215 : decode cX7_takesE 215 = .ok (.aload_n 0, 1) := by decide +kernel
theorem dX7_takesE_216 : decode cX7_takesE 216 = .ok (.dup, 1) := by decide +kernel
theorem dX7_takesE_217 : decode cX7_takesE 217 = .ok (.getfield 38, 3) := by decide +kernel
theorem dX7_takesE_220 : decode cX7_takesE 220 = .ok (.iconst 1, 1) := by decide +kernel
theorem dX7_takesE_221 : decode cX7_takesE 221 = .ok (.iadd, 1) := by decide +kernel
theorem dX7_takesE_222 : decode cX7_takesE 222 = .ok (.putfield 38, 3) := by decide +kernel
theorem dX7_takesE_225 : decode cX7_takesE 225 = .ok (.aload_n 0, 1) := by decide +kernel
theorem dX7_takesE_226 : decode cX7_takesE 226 = .ok (.invokevirtual 235, 3) := by decide +kernel
theorem dX7_takesE_229 : decode cX7_takesE 229 = .ok (.goto (-207), 3) := by decide +kernel
theorem dX7_takesHead_0 : decode cX7_takesHead 0 = .ok (.aload_n 0, 1) := by decide +kernel
theorem dX7_takesHead_1 : decode cX7_takesHead 1 = .ok (.invokevirtual 244, 3) := by decide +kernel
theorem dX7_takesHead_4 : decode cX7_takesHead 4 = .ok (.istore_n 2, 1) := by decide +kernel
theorem dX7_takesHead_5 : decode cX7_takesHead 5 = .ok (.aload_n 0, 1) := by decide +kernel
theorem dX7_takesHead_6 : decode cX7_takesHead 6 = .ok (.invokevirtual 209, 3) := by decide +kernel
theorem dX7_takesHead_9 : decode cX7_takesHead 9 = .ok (.lookupswitch 55 #[(97, 27), (116, 41)], 27) := by decide +kernel
theorem dX7_takesHead_36 : decode cX7_takesHead 36 = .ok (.aload_n 0, 1) := by decide +kernel
theorem dX7_takesHead_37 : decode cX7_takesHead 37 = .ok (.getfield 50, 3) := by decide +kernel
theorem dX7_takesHead_40 : decode cX7_takesHead 40 = .ok (.iload_n 1, 1) := by decide +kernel
theorem dX7_takesHead_41 : decode cX7_takesHead 41 = .ok (.iconst 0, 1) := by decide +kernel
theorem dX7_takesHead_42 : decode cX7_takesHead 42 = .ok (.iastore, 1) := by decide +kernel
theorem dX7_takesHead_43 : decode cX7_takesHead 43 = .ok (.aload_n 0, 1) := by decide +kernel
theorem dX7_takesHead_44 : decode cX7_takesHead 44 = .ok (.iconst 0, 1) := by decide +kernel
theorem dX7_takesHead_45 : decode cX7_takesHead 45 = .ok (.iconst 3, 1) := by decide +kernel
theorem dX7_takesHead_46 : decode cX7_takesHead 46 = .ok (.invokevirtual 247, 3) := by decide +kernel
theorem dX7_takesHead_49 : decode cX7_takesHead 49 = .ok (.ireturn, 1) := by decide +kernel
theorem dX7_takesHead_50 : decode cX7_takesHead 50 = .ok (.aload_n 0, 1) := by decide +kernel
theorem dX7_takesHead_51 : decode cX7_takesHead 51 = .ok (.getfield 50, 3) := by decide +kernel
theorem dX7_takesHead_54 : decode cX7_takesHead 54 = .ok (.iload_n 1, 1) := by decide +kernel
theorem dX7_takesHead_55 : decode cX7_takesHead 55 = .ok (.iconst 1, 1) := by decide +kernel
theorem dX7_takesHead_56 : decode cX7_takesHead 56 = .ok (.iastore, 1) := by decide +kernel
theorem dX7_takesHead_57 : decode cX7_takesHead 57 = .ok (.aload_n 0, 1) := by decide +kernel
theorem dX7_takesHead_58 : decode cX7_takesHead 58 = .ok (.iconst 3, 1) := by decide +kernel
theorem dX7_takesHead_59 : decode cX7_takesHead 59 = .ok (.iconst 3, 1) := by decide +kernel
theorem dX7_takesHead_60 : decode cX7_takesHead 60 = .ok (.invokevirtual 247, 3) := by decide +kernel
theorem dX7_takesHead_63 : decode cX7_takesHead 63 = .ok (.ireturn, 1) := by decide +kernel
theorem dX7_takesHead_64 : decode cX7_takesHead 64 = .ok (.aload_n 0, 1) := by decide +kernel
theorem dX7_takesHead_65 : decode cX7_takesHead 65 = .ok (.getfield 50, 3) := by decide +kernel
theorem dX7_takesHead_68 : decode cX7_takesHead 68 = .ok (.iload_n 1, 1) := by decide +kernel
theorem dX7_takesHead_69 : decode cX7_takesHead 69 = .ok (.iload_n 2, 1) := by decide +kernel
theorem dX7_takesHead_70 : decode cX7_takesHead 70 = .ok (.bipush 105, 2) := by decide +kernel
theorem dX7_takesHead_72 : decode cX7_takesHead 72 = .ok (.if_icmp .ne 7, 3) := by decide +kernel
theorem dX7_takesHead_75 : decode cX7_takesHead 75 = .ok (.iconst 2, 1) := by decide +kernel
theorem dX7_takesHead_76 : decode cX7_takesHead 76 = .ok (.goto 4, 3) := by decide +kernel
theorem dX7_takesHead_79 : decode cX7_takesHead 79 = .ok (.iconst 3, 1) := by decide +kernel
theorem dX7_takesHead_80 : decode cX7_takesHead 80 = .ok (.iastore, 1) := by decide +kernel
theorem dX7_takesHead_81 : decode cX7_takesHead 81 = .ok (.iload_n 2, 1) := by decide +kernel
theorem dX7_takesHead_82 : decode cX7_takesHead 82 = .ok (.bipush 105, 2) := by decide +kernel
theorem dX7_takesHead_84 : decode cX7_takesHead 84 = .ok (.if_icmp .ne 13, 3) := by decide +kernel
theorem dX7_takesHead_87 : decode cX7_takesHead 87 = .ok (.aload_n 0, 1) := by decide +kernel
theorem dX7_takesHead_88 : decode cX7_takesHead 88 = .ok (.bipush 6, 2) := by decide +kernel
theorem dX7_takesHead_90 : decode cX7_takesHead 90 = .ok (.iconst 4, 1) := by decide +kernel
theorem dX7_takesHead_91 : decode cX7_takesHead 91 = .ok (.invokevirtual 216, 3) := by decide +kernel
theorem dX7_takesHead_94 : decode cX7_takesHead 94 = .ok (.goto 10, 3) := by decide +kernel
theorem dX7_takesHead_97 : decode cX7_takesHead 97 = .ok (.aload_n 0, 1) := by decide +kernel
theorem dX7_takesHead_98 : decode cX7_takesHead 98 = .ok (.bipush 10, 2) := by decide +kernel
theorem dX7_takesHead_100 : decode cX7_takesHead 100 = .ok (.iconst 3, 1) := by decide +kernel
theorem dX7_takesHead_101 : decode cX7_takesHead 101 = .ok (.invokevirtual 216, 3) := by decide +kernel
theorem dX7_takesHead_104 : decode cX7_takesHead 104 = .ok (.ireturn, 1) := by decide +kernel
theorem dX7_takesClause_0 : decode cX7_takesClause 0 = .ok (.aload_n 0, 1) := by decide +kernel
theorem dX7_takesClause_1 : decode cX7_takesClause 1 = .ok (.iload_n 1, 1) := by decide +kernel
theorem dX7_takesClause_2 : decode cX7_takesClause 2 = .ok (.invokevirtual 250, 3) := by decide +kernel
theorem dX7_takesClause_5 : decode cX7_takesClause 5 = .ok (.ifCond .ne 5, 3) := by decide +kernel
theorem dX7_takesClause_8 : decode cX7_takesClause 8 = .ok (.iconst 0, 1) := by decide +kernel
theorem dX7_takesClause_9 : decode cX7_takesClause 9 = .ok (.ireturn, 1) := by decide +kernel
theorem dX7_takesClause_10 : decode cX7_takesClause 10 = .ok (.aload_n 0, 1) := by decide +kernel
theorem dX7_takesClause_11 : decode cX7_takesClause 11 = .ok (.getfield 50, 3) := by decide +kernel
theorem dX7_takesClause_14 : decode cX7_takesClause 14 = .ok (.iload_n 1, 1) := by decide +kernel
theorem dX7_takesClause_15 : decode cX7_takesClause 15 = .ok (.iaload, 1) := by decide +kernel
theorem dX7_takesClause_16 : decode cX7_takesClause 16 = .ok (.iconst 1, 1) := by decide +kernel
theorem dX7_takesClause_17 : decode cX7_takesClause 17 = .ok (.if_icmp .le 5, 3) := by decide +kernel
theorem dX7_takesClause_20 : decode cX7_takesClause 20 = .ok (.iconst 1, 1) := by decide +kernel
theorem dX7_takesClause_21 : decode cX7_takesClause 21 = .ok (.ireturn, 1) := by decide +kernel
theorem dX7_takesClause_22 : decode cX7_takesClause 22 = .ok (.aload_n 0, 1) := by decide +kernel
theorem dX7_takesClause_23 : decode cX7_takesClause 23 = .ok (.invokevirtual 232, 3) := by decide +kernel
theorem dX7_takesClause_26 : decode cX7_takesClause 26 = .ok (.ifCond .ne 5, 3) := by decide +kernel
theorem dX7_takesClause_29 : decode cX7_takesClause 29 = .ok (.iconst 0, 1) := by decide +kernel
theorem dX7_takesClause_30 : decode cX7_takesClause 30 = .ok (.ireturn, 1) := by decide +kernel
theorem dX7_takesClause_31 : decode cX7_takesClause 31 = .ok (.aload_n 0, 1) := by decide +kernel
theorem dX7_takesClause_32 : decode cX7_takesClause 32 = .ok (.getfield 53, 3) := by decide +kernel
theorem dX7_takesClause_35 : decode cX7_takesClause 35 = .ok (.iload_n 1, 1) := by decide +kernel
theorem dX7_takesClause_36 : decode cX7_takesClause 36 = .ok (.aload_n 0, 1) := by decide +kernel
theorem dX7_takesClause_37 : decode cX7_takesClause 37 = .ok (.getfield 41, 3) := by decide +kernel
theorem dX7_takesClause_40 : decode cX7_takesClause 40 = .ok (.iastore, 1) := by decide +kernel
theorem dX7_takesClause_41 : decode cX7_takesClause 41 = .ok (.aload_n 0, 1) := by decide +kernel
theorem dX7_takesClause_42 : decode cX7_takesClause 42 = .ok (.bipush 32, 2) := by decide +kernel
theorem dX7_takesClause_44 : decode cX7_takesClause 44 = .ok (.invokevirtual 213, 3) := by decide +kernel
theorem dX7_takesClause_47 : decode cX7_takesClause 47 = .ok (.ifCond .eq 15, 3) := by decide +kernel
theorem dX7_takesClause_50 : decode cX7_takesClause 50 = .ok (.aload_n 0, 1) := by decide +kernel
theorem dX7_takesClause_51 : decode cX7_takesClause 51 = .ok (.iload_n 1, 1) := by decide +kernel
theorem dX7_takesClause_52 : decode cX7_takesClause 52 = .ok (.invokevirtual 253, 3) := by decide +kernel
theorem dX7_takesClause_55 : decode cX7_takesClause 55 = .ok (.ifCond .eq 7, 3) := by decide +kernel
theorem dX7_takesClause_58 : decode cX7_takesClause 58 = .ok (.iconst 1, 1) := by decide +kernel
theorem dX7_takesClause_59 : decode cX7_takesClause 59 = .ok (.goto 4, 3) := by decide +kernel
theorem dX7_takesClause_62 : decode cX7_takesClause 62 = .ok (.iconst 0, 1) := by decide +kernel
theorem dX7_takesClause_63 : decode cX7_takesClause 63 = .ok (.ireturn, 1) := by decide +kernel
theorem dX7_goesText_0 : decode cX7_goesText 0 = .ok (.aload_n 0, 1) := by decide +kernel
theorem dX7_goesText_1 : decode cX7_goesText 1 = .ok (.iconst 0, 1) := by decide +kernel
theorem dX7_goesText_2 : decode cX7_goesText 2 = .ok (.putfield 38, 3) := by decide +kernel
theorem dX7_goesText_5 : decode cX7_goesText 5 = .ok (.aload_n 0, 1) := by decide +kernel
theorem dX7_goesText_6 : decode cX7_goesText 6 = .ok (.bipush 100, 2) := by decide +kernel
theorem dX7_goesText_8 : decode cX7_goesText 8 = .ok (.iload_n 1, 1) := by decide +kernel
theorem dX7_goesText_9 : decode cX7_goesText 9 = .ok (.imul, 1) := by decide +kernel
theorem dX7_goesText_10 : decode cX7_goesText 10 = .ok (.putfield 68, 3) := by decide +kernel
theorem dX7_goesText_13 : decode cX7_goesText 13 = .ok (.iconst 0, 1) := by decide +kernel
theorem dX7_goesText_14 : decode cX7_goesText 14 = .ok (.istore_n 2, 1) := by decide +kernel
theorem dX7_goesText_15 : decode cX7_goesText 15 = .ok (.aload_n 0, 1) := by decide +kernel
theorem dX7_goesText_16 : decode cX7_goesText 16 = .ok (.bipush 10, 2) := by decide +kernel
theorem dX7_goesText_18 : decode cX7_goesText 18 = .ok (.iload_n 1, 1) := by decide +kernel
theorem dX7_goesText_19 : decode cX7_goesText 19 = .ok (.imul, 1) := by decide +kernel
theorem dX7_goesText_20 : decode cX7_goesText 20 = .ok (.iload_n 2, 1) := by decide +kernel
theorem dX7_goesText_21 : decode cX7_goesText 21 = .ok (.iadd, 1) := by decide +kernel
theorem dX7_goesText_22 : decode cX7_goesText 22 = .ok (.invokevirtual 256, 3) := by decide +kernel
theorem dX7_goesText_25 : decode cX7_goesText 25 = .ok (.ifCond .ne 5, 3) := by decide +kernel
theorem dX7_goesText_28 : decode cX7_goesText 28 = .ok (.iconst 0, 1) := by decide +kernel
theorem dX7_goesText_29 : decode cX7_goesText 29 = .ok (.ireturn, 1) := by decide +kernel
theorem dX7_goesText_30 : decode cX7_goesText 30 = .ok (.iinc 2 1, 3) := by decide +kernel
theorem dX7_goesText_33 : decode cX7_goesText 33 = .ok (.aload_n 0, 1) := by decide +kernel
theorem dX7_goesText_34 : decode cX7_goesText 34 = .ok (.getfield 47, 3) := by decide +kernel
theorem dX7_goesText_37 : decode cX7_goesText 37 = .ok (.iload_n 1, 1) := by decide +kernel
theorem dX7_goesText_38 : decode cX7_goesText 38 = .ok (.iload_n 2, 1) := by decide +kernel
theorem dX7_goesText_39 : decode cX7_goesText 39 = .ok (.iastore, 1) := by decide +kernel
theorem dX7_goesText_40 : decode cX7_goesText 40 = .ok (.aload_n 0, 1) := by decide +kernel
theorem dX7_goesText_41 : decode cX7_goesText 41 = .ok (.getfield 38, 3) := by decide +kernel
theorem dX7_goesText_44 : decode cX7_goesText 44 = .ok (.aload_n 0, 1) := by decide +kernel
theorem dX7_goesText_45 : decode cX7_goesText 45 = .ok (.getfield 35, 3) := by decide +kernel
theorem dX7_goesText_48 : decode cX7_goesText 48 = .ok (.if_icmp .ne 5, 3) := by decide +kernel
theorem dX7_goesText_51 : decode cX7_goesText 51 = .ok (.iconst 1, 1) := by decide +kernel
theorem dX7_goesText_52 : decode cX7_goesText 52 = .ok (.ireturn, 1) := by decide +kernel
theorem dX7_goesText_53 : decode cX7_goesText 53 = .ok (.iload_n 2, 1) := by decide +kernel
theorem dX7_goesText_54 : decode cX7_goesText 54 = .ok (.bipush 10, 2) := by decide +kernel
theorem dX7_goesText_56 : decode cX7_goesText 56 = .ok (.if_icmp .eq 12, 3) := by decide +kernel
theorem dX7_goesText_59 : decode cX7_goesText 59 = .ok (.aload_n 0, 1) := by decide +kernel
theorem dX7_goesText_60 : decode cX7_goesText 60 = .ok (.bipush 59, 2) := by decide +kernel
theorem dX7_goesText_62 : decode cX7_goesText 62 = .ok (.invokevirtual 213, 3) := by decide +kernel
theorem dX7_goesText_65 : decode cX7_goesText 65 = .ok (.ifCond .ne (-50), 3) := by decide +kernel
theorem dX7_goesText_68 : decode cX7_goesText 68 = .ok (.iconst 0, 1) := by decide +kernel
theorem dX7_goesText_69 : decode cX7_goesText 69 = .ok (.ireturn, 1) := by decide +kernel
theorem dX7_street_0 : decode cX7_street 0 = .ok (.aload_n 0, 1) := by decide +kernel
theorem dX7_street_1 : decode cX7_street 1 = .ok (.getfield 29, 3) := by decide +kernel
theorem dX7_street_4 : decode cX7_street 4 = .ok (.bipush 6, 2) := by decide +kernel
theorem dX7_street_6 : decode cX7_street 6 = .ok (.if_icmp .ne 6, 3) := by decide +kernel
theorem dX7_street_9 : decode cX7_street 9 = .ok (.bipush (-4), 2) := by decide +kernel
theorem dX7_street_11 : decode cX7_street 11 = .ok (.ireturn, 1) := by decide +kernel
theorem dX7_street_12 : decode cX7_street 12 = .ok (.aload_n 0, 1) := by decide +kernel
theorem dX7_street_13 : decode cX7_street 13 = .ok (.aload_n 0, 1) := by decide +kernel
theorem dX7_street_14 : decode cX7_street 14 = .ok (.getfield 29, 3) := by decide +kernel
theorem dX7_street_17 : decode cX7_street 17 = .ok (.invokevirtual 259, 3) := by decide +kernel
theorem dX7_street_20 : decode cX7_street 20 = .ok (.istore_n 1, 1) := by decide +kernel
theorem dX7_street_21 : decode cX7_street 21 = .ok (.aload_n 0, 1) := by decide +kernel
theorem dX7_street_22 : decode cX7_street 22 = .ok (.iconst 0, 1) := by decide +kernel
theorem dX7_street_23 : decode cX7_street 23 = .ok (.putfield 35, 3) := by decide +kernel
theorem dX7_street_26 : decode cX7_street 26 = .ok (.iload_n 1, 1) := by decide +kernel
theorem dX7_street_27 : decode cX7_street 27 = .ok (.ifCond .ne 11, 3) := by decide +kernel
theorem dX7_street_30 : decode cX7_street 30 = .ok (.bipush (-10), 2) := by decide +kernel
theorem dX7_street_32 : decode cX7_street 32 = .ok (.aload_n 0, 1) := by decide +kernel
theorem dX7_street_33 : decode cX7_street 33 = .ok (.getfield 38, 3) := by decide +kernel
theorem dX7_street_36 : decode cX7_street 36 = .ok (.isub, 1) := by decide +kernel
theorem dX7_street_37 : decode cX7_street 37 = .ok (.ireturn, 1) := by decide +kernel
theorem dX7_street_38 : decode cX7_street 38 = .ok (.aload_n 0, 1) := by decide +kernel
theorem dX7_street_39 : decode cX7_street 39 = .ok (.aload_n 0, 1) := by decide +kernel
theorem dX7_street_40 : decode cX7_street 40 = .ok (.getfield 29, 3) := by decide +kernel
theorem dX7_street_43 : decode cX7_street 43 = .ok (.putfield 32, 3) := by decide +kernel
theorem dX7_street_46 : decode cX7_street 46 = .ok (.aload_n 0, 1) := by decide +kernel
theorem dX7_street_47 : decode cX7_street 47 = .ok (.dup, 1) := by decide +kernel
theorem dX7_street_48 : decode cX7_street 48 = .ok (.getfield 29, 3) := by decide +kernel
theorem dX7_street_51 : decode cX7_street 51 = .ok (.iconst 1, 1) := by decide +kernel
theorem dX7_street_52 : decode cX7_street 52 = .ok (.iadd, 1) := by decide +kernel
theorem dX7_street_53 : decode cX7_street 53 = .ok (.putfield 29, 3) := by decide +kernel
theorem dX7_street_56 : decode cX7_street 56 = .ok (.aload_n 0, 1) := by decide +kernel
theorem dX7_street_57 : decode cX7_street 57 = .ok (.getfield 32, 3) := by decide +kernel
theorem dX7_street_60 : decode cX7_street 60 = .ok (.ireturn, 1) := by decide +kernel
theorem dX7_begin_0 : decode cX7_begin 0 = .ok (.aload_n 0, 1) := by decide +kernel
theorem dX7_begin_1 : decode cX7_begin 1 = .ok (.getfield 32, 3) := by decide +kernel
theorem dX7_begin_4 : decode cX7_begin 4 = .ok (.ifCond .ge 7, 3) := by decide +kernel
theorem dX7_begin_7 : decode cX7_begin 7 = .ok (.iconst 0, 1) := by decide +kernel
theorem dX7_begin_8 : decode cX7_begin 8 = .ok (.goto 10, 3) := by decide +kernel
theorem dX7_begin_11 : decode cX7_begin 11 = .ok (.bipush 10, 2) := by decide +kernel
theorem dX7_begin_13 : decode cX7_begin 13 = .ok (.aload_n 0, 1) := by decide +kernel
theorem dX7_begin_14 : decode cX7_begin 14 = .ok (.getfield 32, 3) := by decide +kernel
theorem dX7_begin_17 : decode cX7_begin 17 = .ok (.imul, 1) := by decide +kernel
theorem dX7_begin_18 : decode cX7_begin 18 = .ok (.ireturn, 1) := by decide +kernel
theorem dX7_behind_0 : decode cX7_behind 0 = .ok (.aload_n 0, 1) := by decide +kernel
theorem dX7_behind_1 : decode cX7_behind 1 = .ok (.getfield 32, 3) := by decide +kernel
theorem dX7_behind_4 : decode cX7_behind 4 = .ok (.ifCond .ge 7, 3) := by decide +kernel
theorem dX7_behind_7 : decode cX7_behind 7 = .ok (.iconst 0, 1) := by decide +kernel
theorem dX7_behind_8 : decode cX7_behind 8 = .ok (.goto 20, 3) := by decide +kernel
theorem dX7_behind_11 : decode cX7_behind 11 = .ok (.bipush 10, 2) := by decide +kernel
theorem dX7_behind_13 : decode cX7_behind 13 = .ok (.aload_n 0, 1) := by decide +kernel
theorem dX7_behind_14 : decode cX7_behind 14 = .ok (.getfield 32, 3) := by decide +kernel
theorem dX7_behind_17 : decode cX7_behind 17 = .ok (.imul, 1) := by decide +kernel
theorem dX7_behind_18 : decode cX7_behind 18 = .ok (.aload_n 0, 1) := by decide +kernel
theorem dX7_behind_19 : decode cX7_behind 19 = .ok (.getfield 47, 3) := by decide +kernel
theorem dX7_behind_22 : decode cX7_behind 22 = .ok (.aload_n 0, 1) := by decide +kernel
theorem dX7_behind_23 : decode cX7_behind 23 = .ok (.getfield 32, 3) := by decide +kernel
theorem dX7_behind_26 : decode cX7_behind 26 = .ok (.iaload, 1) := by decide +kernel
theorem dX7_behind_27 : decode cX7_behind 27 = .ok (.iadd, 1) := by decide +kernel
theorem dX7_behind_28 : decode cX7_behind 28 = .ok (.ireturn, 1) := by decide +kernel
theorem dX7_isRing_0 : decode cX7_isRing 0 = .ok (.iconst 0, 1) := by decide +kernel
theorem dX7_isRing_1 : decode cX7_isRing 1 = .ok (.istore_n 1, 1) := by decide +kernel
theorem dX7_isRing_2 : decode cX7_isRing 2 = .ok (.aload_n 0, 1) := by decide +kernel
theorem dX7_isRing_3 : decode cX7_isRing 3 = .ok (.invokevirtual 262, 3) := by decide +kernel
theorem dX7_isRing_6 : decode cX7_isRing 6 = .ok (.istore_n 2, 1) := by decide +kernel
theorem dX7_isRing_7 : decode cX7_isRing 7 = .ok (.iload_n 2, 1) := by decide +kernel
theorem dX7_isRing_8 : decode cX7_isRing 8 = .ok (.aload_n 0, 1) := by decide +kernel
theorem dX7_isRing_9 : decode cX7_isRing 9 = .ok (.invokevirtual 265, 3) := by decide +kernel
theorem dX7_isRing_12 : decode cX7_isRing 12 = .ok (.if_icmp .ge 39, 3) := by decide +kernel
theorem dX7_isRing_15 : decode cX7_isRing 15 = .ok (.aload_n 0, 1) := by decide +kernel
theorem dX7_isRing_16 : decode cX7_isRing 16 = .ok (.getfield 50, 3) := by decide +kernel
theorem dX7_isRing_19 : decode cX7_isRing 19 = .ok (.iload_n 2, 1) := by decide +kernel
theorem dX7_isRing_20 : decode cX7_isRing 20 = .ok (.iaload, 1) := by decide +kernel
theorem dX7_isRing_21 : decode cX7_isRing 21 = .ok (.iconst 1, 1) := by decide +kernel
theorem dX7_isRing_22 : decode cX7_isRing 22 = .ok (.if_icmp .le 21, 3) := by decide +kernel
theorem dX7_isRing_25 : decode cX7_isRing 25 = .ok (.aload_n 0, 1) := by decide +kernel
theorem dX7_isRing_26 : decode cX7_isRing 26 = .ok (.getfield 50, 3) := by decide +kernel
theorem dX7_isRing_29 : decode cX7_isRing 29 = .ok (.iload_n 2, 1) := by decide +kernel
theorem dX7_isRing_30 : decode cX7_isRing 30 = .ok (.iaload, 1) := by decide +kernel
theorem dX7_isRing_31 : decode cX7_isRing 31 = .ok (.iconst 2, 1) := by decide +kernel
theorem dX7_isRing_32 : decode cX7_isRing 32 = .ok (.if_icmp .ne 7, 3) := by decide +kernel
theorem dX7_isRing_35 : decode cX7_isRing 35 = .ok (.iconst 1, 1) := by decide +kernel
theorem dX7_isRing_36 : decode cX7_isRing 36 = .ok (.goto 8, 3) := by decide +kernel
theorem dX7_isRing_39 : decode cX7_isRing 39 = .ok (.iconst 0, 1) := by decide +kernel
theorem dX7_isRing_40 : decode cX7_isRing 40 = .ok (.goto 4, 3) := by decide +kernel
theorem dX7_isRing_43 : decode cX7_isRing 43 = .ok (.iload_n 1, 1) := by decide +kernel
theorem dX7_isRing_44 : decode cX7_isRing 44 = .ok (.istore_n 1, 1) := by decide +kernel
theorem dX7_isRing_45 : decode cX7_isRing 45 = .ok (.iinc 2 1, 3) := by decide +kernel
theorem dX7_isRing_48 : decode cX7_isRing 48 = .ok (.goto (-41), 3) := by decide +kernel
theorem dX7_isRing_51 : decode cX7_isRing 51 = .ok (.iload_n 1, 1) := by decide +kernel
theorem dX7_isRing_52 : decode cX7_isRing 52 = .ok (.ireturn, 1) := by decide +kernel
theorem dX7_manyMore_0 : decode cX7_manyMore 0 = .ok (.iconst 0, 1) := by decide +kernel
theorem dX7_manyMore_1 : decode cX7_manyMore 1 = .ok (.istore_n 2, 1) := by decide +kernel
theorem dX7_manyMore_2 : decode cX7_manyMore 2 = .ok (.iconst 0, 1) := by decide +kernel
theorem dX7_manyMore_3 : decode cX7_manyMore 3 = .ok (.istore_n 3, 1) := by decide +kernel
theorem dX7_manyMore_4 : decode cX7_manyMore 4 = .ok (.iload_n 3, 1) := by decide +kernel
theorem dX7_manyMore_5 : decode cX7_manyMore 5 = .ok (.aload_n 0, 1) := by decide +kernel
theorem dX7_manyMore_6 : decode cX7_manyMore 6 = .ok (.getfield 7, 3) := by decide +kernel
theorem dX7_manyMore_9 : decode cX7_manyMore 9 = .ok (.if_icmp .ge 32, 3) := by decide +kernel
theorem dX7_manyMore_12 : decode cX7_manyMore 12 = .ok (.iload_n 2, 1) := by decide +kernel
theorem dX7_manyMore_13 : decode cX7_manyMore 13 = .ok (.aload_n 0, 1) := by decide +kernel
theorem dX7_manyMore_14 : decode cX7_manyMore 14 = .ok (.getfield 23, 3) := by decide +kernel
theorem dX7_manyMore_17 : decode cX7_manyMore 17 = .ok (.iload_n 3, 1) := by decide +kernel
theorem dX7_manyMore_18 : decode cX7_manyMore 18 = .ok (.iaload, 1) := by decide +kernel
theorem dX7_manyMore_19 : decode cX7_manyMore 19 = .ok (.aload_n 0, 1) := by decide +kernel
theorem dX7_manyMore_20 : decode cX7_manyMore 20 = .ok (.getfield 23, 3) := by decide +kernel
theorem dX7_manyMore_23 : decode cX7_manyMore 23 = .ok (.iload_n 1, 1) := by decide +kernel
theorem dX7_manyMore_24 : decode cX7_manyMore 24 = .ok (.iaload, 1) := by decide +kernel
theorem dX7_manyMore_25 : decode cX7_manyMore 25 = .ok (.if_icmp .le 7, 3) := by decide +kernel
theorem dX7_manyMore_28 : decode cX7_manyMore 28 = .ok (.iconst 1, 1) := by decide +kernel
theorem dX7_manyMore_29 : decode cX7_manyMore 29 = .ok (.goto 4, 3) := by decide +kernel
theorem dX7_manyMore_32 : decode cX7_manyMore 32 = .ok (.iconst 0, 1) := by decide +kernel
theorem dX7_manyMore_33 : decode cX7_manyMore 33 = .ok (.iadd, 1) := by decide +kernel
theorem dX7_manyMore_34 : decode cX7_manyMore 34 = .ok (.istore_n 2, 1) := by decide +kernel
theorem dX7_manyMore_35 : decode cX7_manyMore 35 = .ok (.iinc 3 1, 3) := by decide +kernel
theorem dX7_manyMore_38 : decode cX7_manyMore 38 = .ok (.goto (-34), 3) := by decide +kernel
theorem dX7_manyMore_41 : decode cX7_manyMore 41 = .ok (.iload_n 2, 1) := by decide +kernel
theorem dX7_manyMore_42 : decode cX7_manyMore 42 = .ok (.ireturn, 1) := by decide +kernel
theorem dX7_factOf_0 : decode cX7_factOf 0 = .ok (.iload_n 1, 1) := by decide +kernel
theorem dX7_factOf_1 : decode cX7_factOf 1 = .ok (.tableswitch 67 0 4 #[35, 37, 44, 51, 61], 35) := by decide +kernel
theorem dX7_factOf_36 : decode cX7_factOf 36 = .ok (.iload_n 2, 1) := by decide +kernel
theorem dX7_factOf_37 : decode cX7_factOf 37 = .ok (.ireturn, 1) := by decide +kernel
theorem dX7_factOf_38 : decode cX7_factOf 38 = .ok (.aload_n 0, 1) := by decide +kernel
theorem dX7_factOf_39 : decode cX7_factOf 39 = .ok (.getfield 16, 3) := by decide +kernel
theorem dX7_factOf_42 : decode cX7_factOf 42 = .ok (.iload_n 2, 1) := by decide +kernel
theorem dX7_factOf_43 : decode cX7_factOf 43 = .ok (.iaload, 1) := by decide +kernel
theorem dX7_factOf_44 : decode cX7_factOf 44 = .ok (.ireturn, 1) := by decide +kernel
theorem dX7_factOf_45 : decode cX7_factOf 45 = .ok (.aload_n 0, 1) := by decide +kernel
theorem dX7_factOf_46 : decode cX7_factOf 46 = .ok (.getfield 20, 3) := by decide +kernel
theorem dX7_factOf_49 : decode cX7_factOf 49 = .ok (.iload_n 2, 1) := by decide +kernel
theorem dX7_factOf_50 : decode cX7_factOf 50 = .ok (.iaload, 1) := by decide +kernel
theorem dX7_factOf_51 : decode cX7_factOf 51 = .ok (.ireturn, 1) := by decide +kernel
theorem dX7_factOf_52 : decode cX7_factOf 52 = .ok (.aload_n 0, 1) := by decide +kernel
theorem dX7_factOf_53 : decode cX7_factOf 53 = .ok (.getfield 23, 3) := by decide +kernel
theorem dX7_factOf_56 : decode cX7_factOf 56 = .ok (.iload_n 2, 1) := by decide +kernel
theorem dX7_factOf_57 : decode cX7_factOf 57 = .ok (.iaload, 1) := by decide +kernel
theorem dX7_factOf_58 : decode cX7_factOf 58 = .ok (.bipush 10, 2) := by decide +kernel
theorem dX7_factOf_60 : decode cX7_factOf 60 = .ok (.idiv, 1) := by decide +kernel
theorem dX7_factOf_61 : decode cX7_factOf 61 = .ok (.ireturn, 1) := by decide +kernel
theorem dX7_factOf_62 : decode cX7_factOf 62 = .ok (.aload_n 0, 1) := by decide +kernel
theorem dX7_factOf_63 : decode cX7_factOf 63 = .ok (.iload_n 2, 1) := by decide +kernel
theorem dX7_factOf_64 : decode cX7_factOf 64 = .ok (.invokevirtual 268, 3) := by decide +kernel
theorem dX7_factOf_67 : decode cX7_factOf 67 = .ok (.ireturn, 1) := by decide +kernel
theorem dX7_factOf_68 : decode cX7_factOf 68 = .ok (.aload_n 0, 1) := by decide +kernel
theorem dX7_factOf_69 : decode cX7_factOf 69 = .ok (.getfield 13, 3) := by decide +kernel
theorem dX7_factOf_72 : decode cX7_factOf 72 = .ok (.bipush 10, 2) := by decide +kernel
theorem dX7_factOf_74 : decode cX7_factOf 74 = .ok (.irem, 1) := by decide +kernel
theorem dX7_factOf_75 : decode cX7_factOf 75 = .ok (.ireturn, 1) := by decide +kernel
theorem dX7_holds_0 : decode cX7_holds 0 = .ok (.iconst 0, 1) := by decide +kernel
theorem dX7_holds_1 : decode cX7_holds 1 = .ok (.istore_n 3, 1) := by decide +kernel
theorem dX7_holds_2 : decode cX7_holds 2 = .ok (.aload_n 0, 1) := by decide +kernel
theorem dX7_holds_3 : decode cX7_holds 3 = .ok (.getfield 56, 3) := by decide +kernel
theorem dX7_holds_6 : decode cX7_holds 6 = .ok (.iload_n 1, 1) := by decide +kernel
theorem dX7_holds_7 : decode cX7_holds 7 = .ok (.iaload, 1) := by decide +kernel
theorem dX7_holds_8 : decode cX7_holds 8 = .ok (.istore 4, 2) := by decide +kernel
theorem dX7_holds_10 : decode cX7_holds 10 = .ok (.iload 4, 2) := by decide +kernel
theorem dX7_holds_12 : decode cX7_holds 12 = .ok (.aload_n 0, 1) := by decide +kernel
theorem dX7_holds_13 : decode cX7_holds 13 = .ok (.getfield 59, 3) := by decide +kernel
theorem dX7_holds_16 : decode cX7_holds 16 = .ok (.iload_n 1, 1) := by decide +kernel
theorem dX7_holds_17 : decode cX7_holds 17 = .ok (.iaload, 1) := by decide +kernel
theorem dX7_holds_18 : decode cX7_holds 18 = .ok (.if_icmp .ge 225, 3) := by decide +kernel
theorem dX7_holds_21 : decode cX7_holds 21 = .ok (.aload_n 0, 1) := by decide +kernel
theorem dX7_holds_22 : decode cX7_holds 22 = .ok (.getfield 62, 3) := by decide +kernel
theorem dX7_holds_25 : decode cX7_holds 25 = .ok (.iload 4, 2) := by decide +kernel
theorem dX7_holds_27 : decode cX7_holds 27 = .ok (.iaload, 1) := by decide +kernel
theorem dX7_holds_28 : decode cX7_holds 28 = .ok (.istore 5, 2) := by decide +kernel
theorem dX7_holds_30 : decode cX7_holds 30 = .ok (.iload 5, 2) := by decide +kernel
theorem dX7_holds_32 : decode cX7_holds 32 = .ok (.bipush (-33), 2) := by decide +kernel
theorem dX7_holds_34 : decode cX7_holds 34 = .ok (.if_icmp .ne 30, 3) := by decide +kernel
theorem dX7_holds_37 : decode cX7_holds 37 = .ok (.aload_n 0, 1) := by decide +kernel
theorem dX7_holds_38 : decode cX7_holds 38 = .ok (.getfield 80, 3) := by decide +kernel
theorem dX7_holds_41 : decode cX7_holds 41 = .ok (.iload_n 3, 1) := by decide +kernel
theorem dX7_holds_42 : decode cX7_holds 42 = .ok (.iconst 1, 1) := by decide +kernel
theorem dX7_holds_43 : decode cX7_holds 43 = .ok (.isub, 1) := by decide +kernel
theorem dX7_holds_44 : decode cX7_holds 44 = .ok (.aload_n 0, 1) := by decide +kernel
theorem dX7_holds_45 : decode cX7_holds 45 = .ok (.getfield 80, 3) := by decide +kernel
theorem dX7_holds_48 : decode cX7_holds 48 = .ok (.iload_n 3, 1) := by decide +kernel
theorem dX7_holds_49 : decode cX7_holds 49 = .ok (.iconst 1, 1) := by decide +kernel
theorem dX7_holds_50 : decode cX7_holds 50 = .ok (.isub, 1) := by decide +kernel
theorem dX7_holds_51 : decode cX7_holds 51 = .ok (.baload, 1) := by decide +kernel
theorem dX7_holds_52 : decode cX7_holds 52 = .ok (.ifCond .ne 7, 3) := by decide +kernel
theorem dX7_holds_55 : decode cX7_holds 55 = .ok (.iconst 1, 1) := by decide +kernel
theorem dX7_holds_56 : decode cX7_holds 56 = .ok (.goto 4, 3) := by decide +kernel
theorem dX7_holds_59 : decode cX7_holds 59 = .ok (.iconst 0, 1) := by decide +kernel
theorem dX7_holds_60 : decode cX7_holds 60 = .ok (.bastore, 1) := by decide +kernel
theorem dX7_holds_61 : decode cX7_holds 61 = .ok (.goto 176, 3) := by decide +kernel
theorem dX7_holds_64 : decode cX7_holds 64 = .ok (.iload 5, 2) := by decide +kernel
theorem dX7_holds_66 : decode cX7_holds 66 = .ok (.ifCond .ge 77, 3) := by decide +kernel
theorem dX7_holds_69 : decode cX7_holds 69 = .ok (.iinc 3 (-1), 3) := by decide +kernel
theorem dX7_holds_72 : decode cX7_holds 72 = .ok (.aload_n 0, 1) := by decide +kernel
theorem dX7_holds_73 : decode cX7_holds 73 = .ok (.getfield 80, 3) := by decide +kernel
theorem dX7_holds_76 : decode cX7_holds 76 = .ok (.iload_n 3, 1) := by decide +kernel
theorem dX7_holds_77 : decode cX7_holds 77 = .ok (.iconst 1, 1) := by decide +kernel
theorem dX7_holds_78 : decode cX7_holds 78 = .ok (.isub, 1) := by decide +kernel
theorem dX7_holds_79 : decode cX7_holds 79 = .ok (.iload 5, 2) := by decide +kernel
theorem dX7_holds_81 : decode cX7_holds 81 = .ok (.bipush (-38), 2) := by decide +kernel
theorem dX7_holds_83 : decode cX7_holds 83 = .ok (.if_icmp .ne 31, 3) := by decide +kernel
theorem dX7_holds_86 : decode cX7_holds 86 = .ok (.aload_n 0, 1) := by decide +kernel
theorem dX7_holds_87 : decode cX7_holds 87 = .ok (.getfield 80, 3) := by decide +kernel
theorem dX7_holds_90 : decode cX7_holds 90 = .ok (.iload_n 3, 1) := by decide +kernel
theorem dX7_holds_91 : decode cX7_holds 91 = .ok (.iconst 1, 1) := by decide +kernel
theorem dX7_holds_92 : decode cX7_holds 92 = .ok (.isub, 1) := by decide +kernel
theorem dX7_holds_93 : decode cX7_holds 93 = .ok (.baload, 1) := by decide +kernel
theorem dX7_holds_94 : decode cX7_holds 94 = .ok (.ifCond .eq 16, 3) := by decide +kernel
theorem dX7_holds_97 : decode cX7_holds 97 = .ok (.aload_n 0, 1) := by decide +kernel
theorem dX7_holds_98 : decode cX7_holds 98 = .ok (.getfield 80, 3) := by decide +kernel
theorem dX7_holds_101 : decode cX7_holds 101 = .ok (.iload_n 3, 1) := by decide +kernel
theorem dX7_holds_102 : decode cX7_holds 102 = .ok (.baload, 1) := by decide +kernel
theorem dX7_holds_103 : decode cX7_holds 103 = .ok (.ifCond .eq 7, 3) := by decide +kernel
theorem dX7_holds_106 : decode cX7_holds 106 = .ok (.iconst 1, 1) := by decide +kernel
theorem dX7_holds_107 : decode cX7_holds 107 = .ok (.goto 32, 3) := by decide +kernel
theorem dX7_holds_110 : decode cX7_holds 110 = .ok (.iconst 0, 1) := by decide +kernel
theorem dX7_holds_111 : decode cX7_holds 111 = .ok (.goto 28, 3) := by decide +kernel
theorem dX7_holds_114 : decode cX7_holds 114 = .ok (.aload_n 0, 1) := by decide +kernel
theorem dX7_holds_115 : decode cX7_holds 115 = .ok (.getfield 80, 3) := by decide +kernel
theorem dX7_holds_118 : decode cX7_holds 118 = .ok (.iload_n 3, 1) := by decide +kernel
theorem dX7_holds_119 : decode cX7_holds 119 = .ok (.iconst 1, 1) := by decide +kernel
theorem dX7_holds_120 : decode cX7_holds 120 = .ok (.isub, 1) := by decide +kernel
theorem dX7_holds_121 : decode cX7_holds 121 = .ok (.baload, 1) := by decide +kernel
theorem dX7_holds_122 : decode cX7_holds 122 = .ok (.ifCond .ne 12, 3) := by decide +kernel
theorem dX7_holds_125 : decode cX7_holds 125 = .ok (.aload_n 0, 1) := by decide +kernel
theorem dX7_holds_126 : decode cX7_holds 126 = .ok (.getfield 80, 3) := by decide +kernel
theorem dX7_holds_129 : decode cX7_holds 129 = .ok (.iload_n 3, 1) := by decide +kernel
theorem dX7_holds_130 : decode cX7_holds 130 = .ok (.baload, 1) := by decide +kernel
theorem dX7_holds_131 : decode cX7_holds 131 = .ok (.ifCond .eq 7, 3) := by decide +kernel
theorem dX7_holds_134 : decode cX7_holds 134 = .ok (.iconst 1, 1) := by decide +kernel
theorem dX7_holds_135 : decode cX7_holds 135 = .ok (.goto 4, 3) := by decide +kernel
theorem dX7_holds_138 : decode cX7_holds 138 = .ok (.iconst 0, 1) := by decide +kernel
theorem dX7_holds_139 : decode cX7_holds 139 = .ok (.bastore, 1) := by decide +kernel
theorem dX7_holds_140 : decode cX7_holds 140 = .ok (.goto 97, 3) := by decide +kernel
theorem dX7_holds_143 : decode cX7_holds 143 = .ok (.aload_n 0, 1) := by decide +kernel
theorem dX7_holds_144 : decode cX7_holds 144 = .ok (.iload 5, 2) := by decide +kernel
theorem dX7_holds_146 : decode cX7_holds 146 = .ok (.sipush 1000, 3) := by decide +kernel
theorem dX7_holds_149 : decode cX7_holds 149 = .ok (.idiv, 1) := by decide +kernel
theorem dX7_holds_150 : decode cX7_holds 150 = .ok (.iload_n 2, 1) := by decide +kernel
theorem dX7_holds_151 : decode cX7_holds 151 = .ok (.invokevirtual 271, 3) := by decide +kernel
theorem dX7_holds_154 : decode cX7_holds 154 = .ok (.istore 6, 2) := by decide +kernel
theorem dX7_holds_156 : decode cX7_holds 156 = .ok (.iload 5, 2) := by decide +kernel
theorem dX7_holds_158 : decode cX7_holds 158 = .ok (.bipush 100, 2) := by decide +kernel
theorem dX7_holds_160 : decode cX7_holds 160 = .ok (.idiv, 1) := by decide +kernel
theorem dX7_holds_161 : decode cX7_holds 161 = .ok (.bipush 10, 2) := by decide +kernel
theorem dX7_holds_163 : decode cX7_holds 163 = .ok (.irem, 1) := by decide +kernel
theorem dX7_holds_164 : decode cX7_holds 164 = .ok (.istore 7, 2) := by decide +kernel
theorem dX7_holds_166 : decode cX7_holds 166 = .ok (.aload_n 0, 1) := by decide +kernel
theorem dX7_holds_167 : decode cX7_holds 167 = .ok (.getfield 80, 3) := by decide +kernel
theorem dX7_holds_170 : decode cX7_holds 170 = .ok (.iload_n 3, 1) := by decide +kernel
theorem dX7_holds_171 : decode cX7_holds 171 = .ok (.iload 7, 2) := by decide +kernel
theorem dX7_holds_173 : decode cX7_holds 173 = .ok (.ifCond .ne 21, 3) := by decide +kernel
theorem dX7_holds_176 : decode cX7_holds 176 = .ok (.iload 6, 2) := by decide +kernel
theorem dX7_holds_178 : decode cX7_holds 178 = .ok (.iload 5, 2) := by decide +kernel
theorem dX7_holds_180 : decode cX7_holds 180 = .ok (.bipush 100, 2) := by decide +kernel
theorem dX7_holds_182 : decode cX7_holds 182 = .ok (.irem, 1) := by decide +kernel
theorem dX7_holds_183 : decode cX7_holds 183 = .ok (.if_icmp .ge 7, 3) := by decide +kernel
theorem dX7_holds_186 : decode cX7_holds 186 = .ok (.iconst 1, 1) := by decide +kernel
theorem dX7_holds_187 : decode cX7_holds 187 = .ok (.goto 46, 3) := by decide +kernel
theorem dX7_holds_190 : decode cX7_holds 190 = .ok (.iconst 0, 1) := by decide +kernel
theorem dX7_holds_191 : decode cX7_holds 191 = .ok (.goto 42, 3) := by decide +kernel
theorem dX7_holds_194 : decode cX7_holds 194 = .ok (.iload 7, 2) := by decide +kernel
theorem dX7_holds_196 : decode cX7_holds 196 = .ok (.iconst 1, 1) := by decide +kernel
theorem dX7_holds_197 : decode cX7_holds 197 = .ok (.if_icmp .ne 21, 3) := by decide +kernel
theorem dX7_holds_200 : decode cX7_holds 200 = .ok (.iload 6, 2) := by decide +kernel
theorem dX7_holds_202 : decode cX7_holds 202 = .ok (.iload 5, 2) := by decide +kernel
theorem dX7_holds_204 : decode cX7_holds 204 = .ok (.bipush 100, 2) := by decide +kernel
theorem dX7_holds_206 : decode cX7_holds 206 = .ok (.irem, 1) := by decide +kernel
theorem dX7_holds_207 : decode cX7_holds 207 = .ok (.if_icmp .ne 7, 3) := by decide +kernel
theorem dX7_holds_210 : decode cX7_holds 210 = .ok (.iconst 1, 1) := by decide +kernel
theorem dX7_holds_211 : decode cX7_holds 211 = .ok (.goto 22, 3) := by decide +kernel
theorem dX7_holds_214 : decode cX7_holds 214 = .ok (.iconst 0, 1) := by decide +kernel
theorem dX7_holds_215 : decode cX7_holds 215 = .ok (.goto 18, 3) := by decide +kernel
theorem dX7_holds_218 : decode cX7_holds 218 = .ok (.iload 6, 2) := by decide +kernel
theorem dX7_holds_220 : decode cX7_holds 220 = .ok (.iload 5, 2) := by decide +kernel
theorem dX7_holds_222 : decode cX7_holds 222 = .ok (.bipush 100, 2) := by decide +kernel
theorem dX7_holds_224 : decode cX7_holds 224 = .ok (.irem, 1) := by decide +kernel
theorem dX7_holds_225 : decode cX7_holds 225 = .ok (.if_icmp .le 7, 3) := by decide +kernel
theorem dX7_holds_228 : decode cX7_holds 228 = .ok (.iconst 1, 1) := by decide +kernel
theorem dX7_holds_229 : decode cX7_holds 229 = .ok (.goto 4, 3) := by decide +kernel
theorem dX7_holds_232 : decode cX7_holds 232 = .ok (.iconst 0, 1) := by decide +kernel
theorem dX7_holds_233 : decode cX7_holds 233 = .ok (.bastore, 1) := by decide +kernel
theorem dX7_holds_234 : decode cX7_holds 234 = .ok (.iinc 3 1, 3) := by decide +kernel
theorem dX7_holds_237 : decode cX7_holds 237 = .ok (.iinc 4 1, 3) := by decide +kernel
theorem dX7_holds_240 : decode cX7_holds 240 = .ok (.goto (-230), 3) := by decide +kernel
theorem dX7_holds_243 : decode cX7_holds 243 = .ok (.aload_n 0, 1) := by decide +kernel
theorem dX7_holds_244 : decode cX7_holds 244 = .ok (.getfield 80, 3) := by decide +kernel
theorem dX7_holds_247 : decode cX7_holds 247 = .ok (.iconst 0, 1) := by decide +kernel
theorem dX7_holds_248 : decode cX7_holds 248 = .ok (.baload, 1) := by decide +kernel
theorem dX7_holds_249 : decode cX7_holds 249 = .ok (.ireturn, 1) := by decide +kernel
theorem dX7_adds_0 : decode cX7_adds 0 = .ok (.iconst 0, 1) := by decide +kernel
theorem dX7_adds_1 : decode cX7_adds 1 = .ok (.istore_n 2, 1) := by decide +kernel
theorem dX7_adds_2 : decode cX7_adds 2 = .ok (.aload_n 0, 1) := by decide +kernel
theorem dX7_adds_3 : decode cX7_adds 3 = .ok (.invokevirtual 262, 3) := by decide +kernel
theorem dX7_adds_6 : decode cX7_adds 6 = .ok (.istore_n 3, 1) := by decide +kernel
theorem dX7_adds_7 : decode cX7_adds 7 = .ok (.iload_n 3, 1) := by decide +kernel
theorem dX7_adds_8 : decode cX7_adds 8 = .ok (.aload_n 0, 1) := by decide +kernel
theorem dX7_adds_9 : decode cX7_adds 9 = .ok (.invokevirtual 265, 3) := by decide +kernel
theorem dX7_adds_12 : decode cX7_adds 12 = .ok (.if_icmp .ge 59, 3) := by decide +kernel
theorem dX7_adds_15 : decode cX7_adds 15 = .ok (.aload_n 0, 1) := by decide +kernel
theorem dX7_adds_16 : decode cX7_adds 16 = .ok (.getfield 50, 3) := by decide +kernel
theorem dX7_adds_19 : decode cX7_adds 19 = .ok (.iload_n 3, 1) := by decide +kernel
theorem dX7_adds_20 : decode cX7_adds 20 = .ok (.iaload, 1) := by decide +kernel
theorem dX7_adds_21 : decode cX7_adds 21 = .ok (.iconst 1, 1) := by decide +kernel
theorem dX7_adds_22 : decode cX7_adds 22 = .ok (.if_icmp .gt 43, 3) := by decide +kernel
theorem dX7_adds_25 : decode cX7_adds 25 = .ok (.aload_n 0, 1) := by decide +kernel
theorem dX7_adds_26 : decode cX7_adds 26 = .ok (.iload_n 3, 1) := by decide +kernel
theorem dX7_adds_27 : decode cX7_adds 27 = .ok (.iload_n 1, 1) := by decide +kernel
theorem dX7_adds_28 : decode cX7_adds 28 = .ok (.invokevirtual 275, 3) := by decide +kernel
theorem dX7_adds_31 : decode cX7_adds 31 = .ok (.ifCond .ne 6, 3) := by decide +kernel
theorem dX7_adds_34 : decode cX7_adds 34 = .ok (.goto 31, 3) := by decide +kernel
theorem dX7_adds_37 : decode cX7_adds 37 = .ok (.iload_n 2, 1) := by decide +kernel
theorem dX7_adds_38 : decode cX7_adds 38 = .ok (.aload_n 0, 1) := by decide +kernel
theorem dX7_adds_39 : decode cX7_adds 39 = .ok (.getfield 50, 3) := by decide +kernel
theorem dX7_adds_42 : decode cX7_adds 42 = .ok (.iload_n 3, 1) := by decide +kernel
theorem dX7_adds_43 : decode cX7_adds 43 = .ok (.iaload, 1) := by decide +kernel
theorem dX7_adds_44 : decode cX7_adds 44 = .ok (.ifCond .ne 12, 3) := by decide +kernel
theorem dX7_adds_47 : decode cX7_adds 47 = .ok (.aload_n 0, 1) := by decide +kernel
theorem dX7_adds_48 : decode cX7_adds 48 = .ok (.getfield 53, 3) := by decide +kernel
theorem dX7_adds_51 : decode cX7_adds 51 = .ok (.iload_n 3, 1) := by decide +kernel
theorem dX7_adds_52 : decode cX7_adds 52 = .ok (.iaload, 1) := by decide +kernel
theorem dX7_adds_53 : decode cX7_adds 53 = .ok (.goto 10, 3) := by decide +kernel
theorem dX7_adds_56 : decode cX7_adds 56 = .ok (.aload_n 0, 1) := by decide +kernel
theorem dX7_adds_57 : decode cX7_adds 57 = .ok (.getfield 53, 3) := by decide +kernel
theorem dX7_adds_60 : decode cX7_adds 60 = .ok (.iload_n 3, 1) := by decide +kernel
theorem dX7_adds_61 : decode cX7_adds 61 = .ok (.iaload, 1) := by decide +kernel
theorem dX7_adds_62 : decode cX7_adds 62 = .ok (.ineg, 1) := by decide +kernel
theorem dX7_adds_63 : decode cX7_adds 63 = .ok (.iadd, 1) := by decide +kernel
theorem dX7_adds_64 : decode cX7_adds 64 = .ok (.istore_n 2, 1) := by decide +kernel
theorem dX7_adds_65 : decode cX7_adds 65 = .ok (.iinc 3 1, 3) := by decide +kernel
theorem dX7_adds_68 : decode cX7_adds 68 = .ok (.goto (-61), 3) := by decide +kernel
theorem dX7_adds_71 : decode cX7_adds 71 = .ok (.iload_n 2, 1) := by decide +kernel
theorem dX7_adds_72 : decode cX7_adds 72 = .ok (.ireturn, 1) := by decide +kernel
theorem dX7_saysOf_0 : decode cX7_saysOf 0 = .ok (.aload_n 0, 1) := by decide +kernel
theorem dX7_saysOf_1 : decode cX7_saysOf 1 = .ok (.getfield 84, 3) := by decide +kernel
theorem dX7_saysOf_4 : decode cX7_saysOf 4 = .ok (.ifCond .lt 22, 3) := by decide +kernel
theorem dX7_saysOf_7 : decode cX7_saysOf 7 = .ok (.iload_n 1, 1) := by decide +kernel
theorem dX7_saysOf_8 : decode cX7_saysOf 8 = .ok (.aload_n 0, 1) := by decide +kernel
theorem dX7_saysOf_9 : decode cX7_saysOf 9 = .ok (.getfield 84, 3) := by decide +kernel
theorem dX7_saysOf_12 : decode cX7_saysOf 12 = .ok (.if_icmp .ne 7, 3) := by decide +kernel
theorem dX7_saysOf_15 : decode cX7_saysOf 15 = .ok (.iconst 0, 1) := by decide +kernel
theorem dX7_saysOf_16 : decode cX7_saysOf 16 = .ok (.goto 9, 3) := by decide +kernel
theorem dX7_saysOf_19 : decode cX7_saysOf 19 = .ok (.aload_n 0, 1) := by decide +kernel
theorem dX7_saysOf_20 : decode cX7_saysOf 20 = .ok (.getfield 23, 3) := by decide +kernel
theorem dX7_saysOf_23 : decode cX7_saysOf 23 = .ok (.iload_n 1, 1) := by decide +kernel
theorem dX7_saysOf_24 : decode cX7_saysOf 24 = .ok (.iaload, 1) := by decide +kernel
theorem dX7_saysOf_25 : decode cX7_saysOf 25 = .ok (.ireturn, 1) := by decide +kernel
theorem dX7_saysOf_26 : decode cX7_saysOf 26 = .ok (.aload_n 0, 1) := by decide +kernel
theorem dX7_saysOf_27 : decode cX7_saysOf 27 = .ok (.getfield 16, 3) := by decide +kernel
theorem dX7_saysOf_30 : decode cX7_saysOf 30 = .ok (.iload_n 1, 1) := by decide +kernel
theorem dX7_saysOf_31 : decode cX7_saysOf 31 = .ok (.iaload, 1) := by decide +kernel
theorem dX7_saysOf_32 : decode cX7_saysOf 32 = .ok (.iconst 5, 1) := by decide +kernel
theorem dX7_saysOf_33 : decode cX7_saysOf 33 = .ok (.if_icmp .ne 23, 3) := by decide +kernel
theorem dX7_saysOf_36 : decode cX7_saysOf 36 = .ok (.aload_n 0, 1) := by decide +kernel
theorem dX7_saysOf_37 : decode cX7_saysOf 37 = .ok (.getfield 13, 3) := by decide +kernel
theorem dX7_saysOf_40 : decode cX7_saysOf 40 = .ok (.bipush 9, 2) := by decide +kernel
theorem dX7_saysOf_42 : decode cX7_saysOf 42 = .ok (.irem, 1) := by decide +kernel
theorem dX7_saysOf_43 : decode cX7_saysOf 43 = .ok (.aload_n 0, 1) := by decide +kernel
theorem dX7_saysOf_44 : decode cX7_saysOf 44 = .ok (.getfield 20, 3) := by decide +kernel
theorem dX7_saysOf_47 : decode cX7_saysOf 47 = .ok (.iload_n 1, 1) := by decide +kernel
theorem dX7_saysOf_48 : decode cX7_saysOf 48 = .ok (.iaload, 1) := by decide +kernel
theorem dX7_saysOf_49 : decode cX7_saysOf 49 = .ok (.if_icmp .ne 7, 3) := by decide +kernel
theorem dX7_saysOf_52 : decode cX7_saysOf 52 = .ok (.iconst 0, 1) := by decide +kernel
theorem dX7_saysOf_53 : decode cX7_saysOf 53 = .ok (.goto 9, 3) := by decide +kernel
theorem dX7_saysOf_56 : decode cX7_saysOf 56 = .ok (.aload_n 0, 1) := by decide +kernel
theorem dX7_saysOf_57 : decode cX7_saysOf 57 = .ok (.getfield 23, 3) := by decide +kernel
theorem dX7_saysOf_60 : decode cX7_saysOf 60 = .ok (.iload_n 1, 1) := by decide +kernel
theorem dX7_saysOf_61 : decode cX7_saysOf 61 = .ok (.iaload, 1) := by decide +kernel
theorem dX7_saysOf_62 : decode cX7_saysOf 62 = .ok (.ireturn, 1) := by decide +kernel
theorem dX7_sortIn_0 : decode cX7_sortIn 0 = .ok (.aload_n 0, 1) := by decide +kernel
theorem dX7_sortIn_1 : decode cX7_sortIn 1 = .ok (.getfield 90, 3) := by decide +kernel
theorem dX7_sortIn_4 : decode cX7_sortIn 4 = .ok (.istore_n 2, 1) := by decide +kernel
theorem dX7_sortIn_5 : decode cX7_sortIn 5 = .ok (.iload_n 2, 1) := by decide +kernel
theorem dX7_sortIn_6 : decode cX7_sortIn 6 = .ok (.ifCond .le 35, 3) := by decide +kernel
theorem dX7_sortIn_9 : decode cX7_sortIn 9 = .ok (.aload_n 0, 1) := by decide +kernel
theorem dX7_sortIn_10 : decode cX7_sortIn 10 = .ok (.getfield 87, 3) := by decide +kernel
theorem dX7_sortIn_13 : decode cX7_sortIn 13 = .ok (.iload_n 2, 1) := by decide +kernel
theorem dX7_sortIn_14 : decode cX7_sortIn 14 = .ok (.iconst 1, 1) := by decide +kernel
theorem dX7_sortIn_15 : decode cX7_sortIn 15 = .ok (.isub, 1) := by decide +kernel
theorem dX7_sortIn_16 : decode cX7_sortIn 16 = .ok (.iaload, 1) := by decide +kernel
theorem dX7_sortIn_17 : decode cX7_sortIn 17 = .ok (.iload_n 1, 1) := by decide +kernel
theorem dX7_sortIn_18 : decode cX7_sortIn 18 = .ok (.if_icmp .le 23, 3) := by decide +kernel
theorem dX7_sortIn_21 : decode cX7_sortIn 21 = .ok (.aload_n 0, 1) := by decide +kernel
theorem dX7_sortIn_22 : decode cX7_sortIn 22 = .ok (.getfield 87, 3) := by decide +kernel
theorem dX7_sortIn_25 : decode cX7_sortIn 25 = .ok (.iload_n 2, 1) := by decide +kernel
theorem dX7_sortIn_26 : decode cX7_sortIn 26 = .ok (.aload_n 0, 1) := by decide +kernel
theorem dX7_sortIn_27 : decode cX7_sortIn 27 = .ok (.getfield 87, 3) := by decide +kernel
theorem dX7_sortIn_30 : decode cX7_sortIn 30 = .ok (.iload_n 2, 1) := by decide +kernel
theorem dX7_sortIn_31 : decode cX7_sortIn 31 = .ok (.iconst 1, 1) := by decide +kernel
theorem dX7_sortIn_32 : decode cX7_sortIn 32 = .ok (.isub, 1) := by decide +kernel
theorem dX7_sortIn_33 : decode cX7_sortIn 33 = .ok (.iaload, 1) := by decide +kernel
theorem dX7_sortIn_34 : decode cX7_sortIn 34 = .ok (.iastore, 1) := by decide +kernel
theorem dX7_sortIn_35 : decode cX7_sortIn 35 = .ok (.iinc 2 (-1), 3) := by decide +kernel
theorem dX7_sortIn_38 : decode cX7_sortIn 38 = .ok (.goto (-33), 3) := by decide +kernel
theorem dX7_sortIn_41 : decode cX7_sortIn 41 = .ok (.aload_n 0, 1) := by decide +kernel
theorem dX7_sortIn_42 : decode cX7_sortIn 42 = .ok (.getfield 87, 3) := by decide +kernel
theorem dX7_sortIn_45 : decode cX7_sortIn 45 = .ok (.iload_n 2, 1) := by decide +kernel
theorem dX7_sortIn_46 : decode cX7_sortIn 46 = .ok (.iload_n 1, 1) := by decide +kernel
theorem dX7_sortIn_47 : decode cX7_sortIn 47 = .ok (.iastore, 1) := by decide +kernel
theorem dX7_sortIn_48 : decode cX7_sortIn 48 = .ok (.aload_n 0, 1) := by decide +kernel
theorem dX7_sortIn_49 : decode cX7_sortIn 49 = .ok (.dup, 1) := by decide +kernel
theorem dX7_sortIn_50 : decode cX7_sortIn 50 = .ok (.getfield 90, 3) := by decide +kernel
theorem dX7_sortIn_53 : decode cX7_sortIn 53 = .ok (.iconst 1, 1) := by decide +kernel
theorem dX7_sortIn_54 : decode cX7_sortIn 54 = .ok (.iadd, 1) := by decide +kernel
theorem dX7_sortIn_55 : decode cX7_sortIn 55 = .ok (.putfield 90, 3) := by decide +kernel
theorem dX7_sortIn_58 : decode cX7_sortIn 58 = .ok (.return_, 1) := by decide +kernel
theorem dX7_away_0 : decode cX7_away 0 = .ok (.iload_n 1, 1) := by decide +kernel
theorem dX7_away_1 : decode cX7_away 1 = .ok (.iload_n 2, 1) := by decide +kernel
theorem dX7_away_2 : decode cX7_away 2 = .ok (.if_icmp .ge 9, 3) := by decide +kernel
theorem dX7_away_5 : decode cX7_away 5 = .ok (.iload_n 2, 1) := by decide +kernel
theorem dX7_away_6 : decode cX7_away 6 = .ok (.iload_n 1, 1) := by decide +kernel
theorem dX7_away_7 : decode cX7_away 7 = .ok (.isub, 1) := by decide +kernel
theorem dX7_away_8 : decode cX7_away 8 = .ok (.goto 6, 3) := by decide +kernel
theorem dX7_away_11 : decode cX7_away 11 = .ok (.iload_n 1, 1) := by decide +kernel
theorem dX7_away_12 : decode cX7_away 12 = .ok (.iload_n 2, 1) := by decide +kernel
theorem dX7_away_13 : decode cX7_away 13 = .ok (.isub, 1) := by decide +kernel
theorem dX7_away_14 : decode cX7_away 14 = .ok (.istore 4, 2) := by decide +kernel
theorem dX7_away_16 : decode cX7_away 16 = .ok (.iload_n 3, 1) := by decide +kernel
theorem dX7_away_17 : decode cX7_away 17 = .ok (.ifCond .eq 25, 3) := by decide +kernel
theorem dX7_away_20 : decode cX7_away 20 = .ok (.aload_n 0, 1) := by decide +kernel
theorem dX7_away_21 : decode cX7_away 21 = .ok (.getfield 7, 3) := by decide +kernel
theorem dX7_away_24 : decode cX7_away 24 = .ok (.iload 4, 2) := by decide +kernel
theorem dX7_away_26 : decode cX7_away 26 = .ok (.isub, 1) := by decide +kernel
theorem dX7_away_27 : decode cX7_away 27 = .ok (.iload 4, 2) := by decide +kernel
theorem dX7_away_29 : decode cX7_away 29 = .ok (.if_icmp .ge 13, 3) := by decide +kernel
theorem dX7_away_32 : decode cX7_away 32 = .ok (.aload_n 0, 1) := by decide +kernel
theorem dX7_away_33 : decode cX7_away 33 = .ok (.getfield 7, 3) := by decide +kernel
theorem dX7_away_36 : decode cX7_away 36 = .ok (.iload 4, 2) := by decide +kernel
theorem dX7_away_38 : decode cX7_away 38 = .ok (.isub, 1) := by decide +kernel
theorem dX7_away_39 : decode cX7_away 39 = .ok (.goto 5, 3) := by decide +kernel
theorem dX7_away_42 : decode cX7_away 42 = .ok (.iload 4, 2) := by decide +kernel
theorem dX7_away_44 : decode cX7_away 44 = .ok (.ireturn, 1) := by decide +kernel
theorem dX7_laySome_0 : decode cX7_laySome 0 = .ok (.aload_n 0, 1) := by decide +kernel
theorem dX7_laySome_1 : decode cX7_laySome 1 = .ok (.invokevirtual 278, 3) := by decide +kernel
theorem dX7_laySome_4 : decode cX7_laySome 4 = .ok (.istore_n 3, 1) := by decide +kernel
theorem dX7_laySome_5 : decode cX7_laySome 5 = .ok (.aload_n 0, 1) := by decide +kernel
theorem dX7_laySome_6 : decode cX7_laySome 6 = .ok (.iconst 0, 1) := by decide +kernel
theorem dX7_laySome_7 : decode cX7_laySome 7 = .ok (.putfield 90, 3) := by decide +kernel
theorem dX7_laySome_10 : decode cX7_laySome 10 = .ok (.aload_n 0, 1) := by decide +kernel
theorem dX7_laySome_11 : decode cX7_laySome 11 = .ok (.aload_n 0, 1) := by decide +kernel
theorem dX7_laySome_12 : decode cX7_laySome 12 = .ok (.getfield 23, 3) := by decide +kernel
theorem dX7_laySome_15 : decode cX7_laySome 15 = .ok (.iload_n 1, 1) := by decide +kernel
theorem dX7_laySome_16 : decode cX7_laySome 16 = .ok (.iaload, 1) := by decide +kernel
theorem dX7_laySome_17 : decode cX7_laySome 17 = .ok (.invokevirtual 281, 3) := by decide +kernel
theorem dX7_laySome_20 : decode cX7_laySome 20 = .ok (.iconst 0, 1) := by decide +kernel
theorem dX7_laySome_21 : decode cX7_laySome 21 = .ok (.istore 4, 2) := by decide +kernel
theorem dX7_laySome_23 : decode cX7_laySome 23 = .ok (.iload 4, 2) := by decide +kernel
theorem dX7_laySome_25 : decode cX7_laySome 25 = .ok (.aload_n 0, 1) := by decide +kernel
theorem dX7_laySome_26 : decode cX7_laySome 26 = .ok (.getfield 7, 3) := by decide +kernel
theorem dX7_laySome_29 : decode cX7_laySome 29 = .ok (.if_icmp .ge 37, 3) := by decide +kernel
theorem dX7_laySome_32 : decode cX7_laySome 32 = .ok (.iload 4, 2) := by decide +kernel
theorem dX7_laySome_34 : decode cX7_laySome 34 = .ok (.iload_n 1, 1) := by decide +kernel
theorem dX7_laySome_35 : decode cX7_laySome 35 = .ok (.if_icmp .eq 25, 3) := by decide +kernel
theorem dX7_laySome_38 : decode cX7_laySome 38 = .ok (.aload_n 0, 1) := by decide +kernel
theorem dX7_laySome_39 : decode cX7_laySome 39 = .ok (.iload_n 1, 1) := by decide +kernel
theorem dX7_laySome_40 : decode cX7_laySome 40 = .ok (.iload 4, 2) := by decide +kernel
theorem dX7_laySome_42 : decode cX7_laySome 42 = .ok (.iload_n 3, 1) := by decide +kernel
theorem dX7_laySome_43 : decode cX7_laySome 43 = .ok (.invokevirtual 284, 3) := by decide +kernel
theorem dX7_laySome_46 : decode cX7_laySome 46 = .ok (.iload_n 2, 1) := by decide +kernel
theorem dX7_laySome_47 : decode cX7_laySome 47 = .ok (.if_icmp .gt 13, 3) := by decide +kernel
theorem dX7_laySome_50 : decode cX7_laySome 50 = .ok (.aload_n 0, 1) := by decide +kernel
theorem dX7_laySome_51 : decode cX7_laySome 51 = .ok (.aload_n 0, 1) := by decide +kernel
theorem dX7_laySome_52 : decode cX7_laySome 52 = .ok (.iload 4, 2) := by decide +kernel
theorem dX7_laySome_54 : decode cX7_laySome 54 = .ok (.invokevirtual 288, 3) := by decide +kernel
theorem dX7_laySome_57 : decode cX7_laySome 57 = .ok (.invokevirtual 281, 3) := by decide +kernel
theorem dX7_laySome_60 : decode cX7_laySome 60 = .ok (.iinc 4 1, 3) := by decide +kernel
theorem dX7_laySome_63 : decode cX7_laySome 63 = .ok (.goto (-40), 3) := by decide +kernel
theorem dX7_laySome_66 : decode cX7_laySome 66 = .ok (.return_, 1) := by decide +kernel
theorem dX7_middle_0 : decode cX7_middle 0 = .ok (.aload_n 0, 1) := by decide +kernel
theorem dX7_middle_1 : decode cX7_middle 1 = .ok (.iload_n 1, 1) := by decide +kernel
theorem dX7_middle_2 : decode cX7_middle 2 = .ok (.iconst 1, 1) := by decide +kernel
theorem dX7_middle_3 : decode cX7_middle 3 = .ok (.invokevirtual 291, 3) := by decide +kernel
theorem dX7_middle_6 : decode cX7_middle 6 = .ok (.aload_n 0, 1) := by decide +kernel
theorem dX7_middle_7 : decode cX7_middle 7 = .ok (.getfield 90, 3) := by decide +kernel
theorem dX7_middle_10 : decode cX7_middle 10 = .ok (.iconst 3, 1) := by decide +kernel
theorem dX7_middle_11 : decode cX7_middle 11 = .ok (.if_icmp .ge 12, 3) := by decide +kernel
theorem dX7_middle_14 : decode cX7_middle 14 = .ok (.aload_n 0, 1) := by decide +kernel
theorem dX7_middle_15 : decode cX7_middle 15 = .ok (.getfield 23, 3) := by decide +kernel
theorem dX7_middle_18 : decode cX7_middle 18 = .ok (.iload_n 1, 1) := by decide +kernel
theorem dX7_middle_19 : decode cX7_middle 19 = .ok (.iaload, 1) := by decide +kernel
theorem dX7_middle_20 : decode cX7_middle 20 = .ok (.goto 9, 3) := by decide +kernel
theorem dX7_middle_23 : decode cX7_middle 23 = .ok (.aload_n 0, 1) := by decide +kernel
theorem dX7_middle_24 : decode cX7_middle 24 = .ok (.getfield 87, 3) := by decide +kernel
theorem dX7_middle_27 : decode cX7_middle 27 = .ok (.iconst 1, 1) := by decide +kernel
theorem dX7_middle_28 : decode cX7_middle 28 = .ok (.iaload, 1) := by decide +kernel
theorem dX7_middle_29 : decode cX7_middle 29 = .ok (.ireturn, 1) := by decide +kernel
theorem dX7_least_0 : decode cX7_least 0 = .ok (.iload_n 1, 1) := by decide +kernel
theorem dX7_least_1 : decode cX7_least 1 = .ok (.iload_n 2, 1) := by decide +kernel
theorem dX7_least_2 : decode cX7_least 2 = .ok (.if_icmp .ge 7, 3) := by decide +kernel
theorem dX7_least_5 : decode cX7_least 5 = .ok (.iload_n 1, 1) := by decide +kernel
theorem dX7_least_6 : decode cX7_least 6 = .ok (.goto 4, 3) := by decide +kernel
theorem dX7_least_9 : decode cX7_least 9 = .ok (.iload_n 2, 1) := by decide +kernel
theorem dX7_least_10 : decode cX7_least 10 = .ok (.ireturn, 1) := by decide +kernel
theorem dX7_most_0 : decode cX7_most 0 = .ok (.iload_n 1, 1) := by decide +kernel
theorem dX7_most_1 : decode cX7_most 1 = .ok (.iload_n 2, 1) := by decide +kernel
theorem dX7_most_2 : decode cX7_most 2 = .ok (.if_icmp .le 7, 3) := by decide +kernel
theorem dX7_most_5 : decode cX7_most 5 = .ok (.iload_n 1, 1) := by decide +kernel
theorem dX7_most_6 : decode cX7_most 6 = .ok (.goto 4, 3) := by decide +kernel
theorem dX7_most_9 : decode cX7_most 9 = .ok (.iload_n 2, 1) := by decide +kernel
theorem dX7_most_10 : decode cX7_most 10 = .ok (.ireturn, 1) := by decide +kernel
theorem dX7_plainNext_0 : decode cX7_plainNext 0 = .ok (.aload_n 0, 1) := by decide +kernel
theorem dX7_plainNext_1 : decode cX7_plainNext 1 = .ok (.getfield 16, 3) := by decide +kernel
theorem dX7_plainNext_4 : decode cX7_plainNext 4 = .ok (.iload_n 1, 1) := by decide +kernel
theorem dX7_plainNext_5 : decode cX7_plainNext 5 = .ok (.iaload, 1) := by decide +kernel
theorem dX7_plainNext_6 : decode cX7_plainNext 6 = .ok (.tableswitch 185 1 6 #[38, 56, 72, 92, 56, 148], 38) := by decide +kernel
theorem dX7_plainNext_44 : decode cX7_plainNext 44 = .ok (.aload_n 0, 1) := by decide +kernel
theorem dX7_plainNext_45 : decode cX7_plainNext 45 = .ok (.aload_n 0, 1) := by decide +kernel
theorem dX7_plainNext_46 : decode cX7_plainNext 46 = .ok (.iload_n 1, 1) := by decide +kernel
theorem dX7_plainNext_47 : decode cX7_plainNext 47 = .ok (.invokevirtual 295, 3) := by decide +kernel
theorem dX7_plainNext_50 : decode cX7_plainNext 50 = .ok (.iconst 5, 1) := by decide +kernel
theorem dX7_plainNext_51 : decode cX7_plainNext 51 = .ok (.aload_n 0, 1) := by decide +kernel
theorem dX7_plainNext_52 : decode cX7_plainNext 52 = .ok (.getfield 20, 3) := by decide +kernel
theorem dX7_plainNext_55 : decode cX7_plainNext 55 = .ok (.iload_n 1, 1) := by decide +kernel
theorem dX7_plainNext_56 : decode cX7_plainNext 56 = .ok (.iaload, 1) := by decide +kernel
theorem dX7_plainNext_57 : decode cX7_plainNext 57 = .ok (.imul, 1) := by decide +kernel
theorem dX7_plainNext_58 : decode cX7_plainNext 58 = .ok (.invokevirtual 298, 3) := by decide +kernel
theorem dX7_plainNext_61 : decode cX7_plainNext 61 = .ok (.ireturn, 1) := by decide +kernel
theorem dX7_plainNext_62 : decode cX7_plainNext 62 = .ok (.aload_n 0, 1) := by decide +kernel
theorem dX7_plainNext_63 : decode cX7_plainNext 63 = .ok (.aload_n 0, 1) := by decide +kernel
theorem dX7_plainNext_64 : decode cX7_plainNext 64 = .ok (.iload_n 1, 1) := by decide +kernel
theorem dX7_plainNext_65 : decode cX7_plainNext 65 = .ok (.invokevirtual 295, 3) := by decide +kernel
theorem dX7_plainNext_68 : decode cX7_plainNext 68 = .ok (.aload_n 0, 1) := by decide +kernel
theorem dX7_plainNext_69 : decode cX7_plainNext 69 = .ok (.getfield 23, 3) := by decide +kernel
theorem dX7_plainNext_72 : decode cX7_plainNext 72 = .ok (.iload_n 1, 1) := by decide +kernel
theorem dX7_plainNext_73 : decode cX7_plainNext 73 = .ok (.iaload, 1) := by decide +kernel
theorem dX7_plainNext_74 : decode cX7_plainNext 74 = .ok (.invokevirtual 301, 3) := by decide +kernel
theorem dX7_plainNext_77 : decode cX7_plainNext 77 = .ok (.ireturn, 1) := by decide +kernel
theorem dX7_plainNext_78 : decode cX7_plainNext 78 = .ok (.aload_n 0, 1) := by decide +kernel
theorem dX7_plainNext_79 : decode cX7_plainNext 79 = .ok (.iload_n 1, 1) := by decide +kernel
theorem dX7_plainNext_80 : decode cX7_plainNext 80 = .ok (.iconst 2, 1) := by decide +kernel
theorem dX7_plainNext_81 : decode cX7_plainNext 81 = .ok (.invokevirtual 291, 3) := by decide +kernel
theorem dX7_plainNext_84 : decode cX7_plainNext 84 = .ok (.aload_n 0, 1) := by decide +kernel
theorem dX7_plainNext_85 : decode cX7_plainNext 85 = .ok (.getfield 87, 3) := by decide +kernel
theorem dX7_plainNext_88 : decode cX7_plainNext 88 = .ok (.aload_n 0, 1) := by decide +kernel
theorem dX7_plainNext_89 : decode cX7_plainNext 89 = .ok (.getfield 90, 3) := by decide +kernel
theorem dX7_plainNext_92 : decode cX7_plainNext 92 = .ok (.iconst 1, 1) := by decide +kernel
theorem dX7_plainNext_93 : decode cX7_plainNext 93 = .ok (.isub, 1) := by decide +kernel
theorem dX7_plainNext_94 : decode cX7_plainNext 94 = .ok (.iconst 2, 1) := by decide +kernel
theorem dX7_plainNext_95 : decode cX7_plainNext 95 = .ok (.idiv, 1) := by decide +kernel
theorem dX7_plainNext_96 : decode cX7_plainNext 96 = .ok (.iaload, 1) := by decide +kernel
theorem dX7_plainNext_97 : decode cX7_plainNext 97 = .ok (.ireturn, 1) := by decide +kernel
theorem dX7_plainNext_98 : decode cX7_plainNext 98 = .ok (.aload_n 0, 1) := by decide +kernel
theorem dX7_plainNext_99 : decode cX7_plainNext 99 = .ok (.getfield 13, 3) := by decide +kernel
theorem dX7_plainNext_102 : decode cX7_plainNext 102 = .ok (.aload_n 0, 1) := by decide +kernel
theorem dX7_plainNext_103 : decode cX7_plainNext 103 = .ok (.getfield 20, 3) := by decide +kernel
theorem dX7_plainNext_106 : decode cX7_plainNext 106 = .ok (.iload_n 1, 1) := by decide +kernel
theorem dX7_plainNext_107 : decode cX7_plainNext 107 = .ok (.iaload, 1) := by decide +kernel
theorem dX7_plainNext_108 : decode cX7_plainNext 108 = .ok (.iconst 2, 1) := by decide +kernel
theorem dX7_plainNext_109 : decode cX7_plainNext 109 = .ok (.iadd, 1) := by decide +kernel
theorem dX7_plainNext_110 : decode cX7_plainNext 110 = .ok (.irem, 1) := by decide +kernel
theorem dX7_plainNext_111 : decode cX7_plainNext 111 = .ok (.ifCond .ne 25, 3) := by decide +kernel
theorem dX7_plainNext_114 : decode cX7_plainNext 114 = .ok (.aload_n 0, 1) := by decide +kernel
theorem dX7_plainNext_115 : decode cX7_plainNext 115 = .ok (.aload_n 0, 1) := by decide +kernel
theorem dX7_plainNext_116 : decode cX7_plainNext 116 = .ok (.iload_n 1, 1) := by decide +kernel
theorem dX7_plainNext_117 : decode cX7_plainNext 117 = .ok (.invokevirtual 295, 3) := by decide +kernel
theorem dX7_plainNext_120 : decode cX7_plainNext 120 = .ok (.iconst 5, 1) := by decide +kernel
theorem dX7_plainNext_121 : decode cX7_plainNext 121 = .ok (.aload_n 0, 1) := by decide +kernel
theorem dX7_plainNext_122 : decode cX7_plainNext 122 = .ok (.getfield 20, 3) := by decide +kernel
theorem dX7_plainNext_125 : decode cX7_plainNext 125 = .ok (.iload_n 1, 1) := by decide +kernel
theorem dX7_plainNext_126 : decode cX7_plainNext 126 = .ok (.iaload, 1) := by decide +kernel
theorem dX7_plainNext_127 : decode cX7_plainNext 127 = .ok (.imul, 1) := by decide +kernel
theorem dX7_plainNext_128 : decode cX7_plainNext 128 = .ok (.invokevirtual 298, 3) := by decide +kernel
theorem dX7_plainNext_131 : decode cX7_plainNext 131 = .ok (.iconst 2, 1) := by decide +kernel
theorem dX7_plainNext_132 : decode cX7_plainNext 132 = .ok (.idiv, 1) := by decide +kernel
theorem dX7_plainNext_133 : decode cX7_plainNext 133 = .ok (.goto 20, 3) := by decide +kernel
theorem dX7_plainNext_136 : decode cX7_plainNext 136 = .ok (.aload_n 0, 1) := by decide +kernel
theorem dX7_plainNext_137 : decode cX7_plainNext 137 = .ok (.aload_n 0, 1) := by decide +kernel
theorem dX7_plainNext_138 : decode cX7_plainNext 138 = .ok (.iload_n 1, 1) := by decide +kernel
theorem dX7_plainNext_139 : decode cX7_plainNext 139 = .ok (.invokevirtual 295, 3) := by decide +kernel
theorem dX7_plainNext_142 : decode cX7_plainNext 142 = .ok (.iconst 5, 1) := by decide +kernel
theorem dX7_plainNext_143 : decode cX7_plainNext 143 = .ok (.aload_n 0, 1) := by decide +kernel
theorem dX7_plainNext_144 : decode cX7_plainNext 144 = .ok (.getfield 20, 3) := by decide +kernel
theorem dX7_plainNext_147 : decode cX7_plainNext 147 = .ok (.iload_n 1, 1) := by decide +kernel
theorem dX7_plainNext_148 : decode cX7_plainNext 148 = .ok (.iaload, 1) := by decide +kernel
theorem dX7_plainNext_149 : decode cX7_plainNext 149 = .ok (.imul, 1) := by decide +kernel
theorem dX7_plainNext_150 : decode cX7_plainNext 150 = .ok (.invokevirtual 298, 3) := by decide +kernel
theorem dX7_plainNext_153 : decode cX7_plainNext 153 = .ok (.ireturn, 1) := by decide +kernel
theorem dX7_plainNext_154 : decode cX7_plainNext 154 = .ok (.aload_n 0, 1) := by decide +kernel
theorem dX7_plainNext_155 : decode cX7_plainNext 155 = .ok (.iload_n 1, 1) := by decide +kernel
theorem dX7_plainNext_156 : decode cX7_plainNext 156 = .ok (.iconst 2, 1) := by decide +kernel
theorem dX7_plainNext_157 : decode cX7_plainNext 157 = .ok (.invokevirtual 291, 3) := by decide +kernel
theorem dX7_plainNext_160 : decode cX7_plainNext 160 = .ok (.aload_n 0, 1) := by decide +kernel
theorem dX7_plainNext_161 : decode cX7_plainNext 161 = .ok (.getfield 87, 3) := by decide +kernel
theorem dX7_plainNext_164 : decode cX7_plainNext 164 = .ok (.aload_n 0, 1) := by decide +kernel
theorem dX7_plainNext_165 : decode cX7_plainNext 165 = .ok (.aload_n 0, 1) := by decide +kernel
theorem dX7_plainNext_166 : decode cX7_plainNext 166 = .ok (.getfield 26, 3) := by decide +kernel
theorem dX7_plainNext_169 : decode cX7_plainNext 169 = .ok (.iconst 4, 1) := by decide +kernel
theorem dX7_plainNext_170 : decode cX7_plainNext 170 = .ok (.iload_n 1, 1) := by decide +kernel
theorem dX7_plainNext_171 : decode cX7_plainNext 171 = .ok (.imul, 1) := by decide +kernel
theorem dX7_plainNext_172 : decode cX7_plainNext 172 = .ok (.aload_n 0, 1) := by decide +kernel
theorem dX7_plainNext_173 : decode cX7_plainNext 173 = .ok (.getfield 13, 3) := by decide +kernel
theorem dX7_plainNext_176 : decode cX7_plainNext 176 = .ok (.iconst 4, 1) := by decide +kernel
theorem dX7_plainNext_177 : decode cX7_plainNext 177 = .ok (.irem, 1) := by decide +kernel
theorem dX7_plainNext_178 : decode cX7_plainNext 178 = .ok (.iadd, 1) := by decide +kernel
theorem dX7_plainNext_179 : decode cX7_plainNext 179 = .ok (.iaload, 1) := by decide +kernel
theorem dX7_plainNext_180 : decode cX7_plainNext 180 = .ok (.aload_n 0, 1) := by decide +kernel
theorem dX7_plainNext_181 : decode cX7_plainNext 181 = .ok (.getfield 90, 3) := by decide +kernel
theorem dX7_plainNext_184 : decode cX7_plainNext 184 = .ok (.iconst 1, 1) := by decide +kernel
theorem dX7_plainNext_185 : decode cX7_plainNext 185 = .ok (.isub, 1) := by decide +kernel
theorem dX7_plainNext_186 : decode cX7_plainNext 186 = .ok (.invokevirtual 301, 3) := by decide +kernel
theorem dX7_plainNext_189 : decode cX7_plainNext 189 = .ok (.iaload, 1) := by decide +kernel
theorem dX7_plainNext_190 : decode cX7_plainNext 190 = .ok (.ireturn, 1) := by decide +kernel
theorem dX7_plainNext_191 : decode cX7_plainNext 191 = .ok (.aload_n 0, 1) := by decide +kernel
theorem dX7_plainNext_192 : decode cX7_plainNext 192 = .ok (.iload_n 1, 1) := by decide +kernel
theorem dX7_plainNext_193 : decode cX7_plainNext 193 = .ok (.invokevirtual 295, 3) := by decide +kernel
theorem dX7_plainNext_196 : decode cX7_plainNext 196 = .ok (.ireturn, 1) := by decide +kernel
theorem dX7_nextOf_0 : decode cX7_nextOf 0 = .ok (.aload_n 0, 1) := by decide +kernel
theorem dX7_nextOf_1 : decode cX7_nextOf 1 = .ok (.iconst 0, 1) := by decide +kernel
theorem dX7_nextOf_2 : decode cX7_nextOf 2 = .ok (.aload_n 0, 1) := by decide +kernel
theorem dX7_nextOf_3 : decode cX7_nextOf 3 = .ok (.bipush 99, 2) := by decide +kernel
theorem dX7_nextOf_5 : decode cX7_nextOf 5 = .ok (.aload_n 0, 1) := by decide +kernel
theorem dX7_nextOf_6 : decode cX7_nextOf 6 = .ok (.iload_n 1, 1) := by decide +kernel
theorem dX7_nextOf_7 : decode cX7_nextOf 7 = .ok (.invokevirtual 304, 3) := by decide +kernel
theorem dX7_nextOf_10 : decode cX7_nextOf 10 = .ok (.aload_n 0, 1) := by decide +kernel
theorem dX7_nextOf_11 : decode cX7_nextOf 11 = .ok (.iload_n 1, 1) := by decide +kernel
theorem dX7_nextOf_12 : decode cX7_nextOf 12 = .ok (.invokevirtual 307, 3) := by decide +kernel
theorem dX7_nextOf_15 : decode cX7_nextOf 15 = .ok (.iadd, 1) := by decide +kernel
theorem dX7_nextOf_16 : decode cX7_nextOf 16 = .ok (.invokevirtual 301, 3) := by decide +kernel
theorem dX7_nextOf_19 : decode cX7_nextOf 19 = .ok (.invokevirtual 298, 3) := by decide +kernel
theorem dX7_nextOf_22 : decode cX7_nextOf 22 = .ok (.ireturn, 1) := by decide +kernel
theorem dX7_layNext_0 : decode cX7_layNext 0 = .ok (.iconst 0, 1) := by decide +kernel
theorem dX7_layNext_1 : decode cX7_layNext 1 = .ok (.istore_n 1, 1) := by decide +kernel
theorem dX7_layNext_2 : decode cX7_layNext 2 = .ok (.iload_n 1, 1) := by decide +kernel
theorem dX7_layNext_3 : decode cX7_layNext 3 = .ok (.aload_n 0, 1) := by decide +kernel
theorem dX7_layNext_4 : decode cX7_layNext 4 = .ok (.getfield 7, 3) := by decide +kernel
theorem dX7_layNext_7 : decode cX7_layNext 7 = .ok (.if_icmp .ge 20, 3) := by decide +kernel
theorem dX7_layNext_10 : decode cX7_layNext 10 = .ok (.aload_n 0, 1) := by decide +kernel
theorem dX7_layNext_11 : decode cX7_layNext 11 = .ok (.getfield 93, 3) := by decide +kernel
theorem dX7_layNext_14 : decode cX7_layNext 14 = .ok (.iload_n 1, 1) := by decide +kernel
theorem dX7_layNext_15 : decode cX7_layNext 15 = .ok (.aload_n 0, 1) := by decide +kernel
theorem dX7_layNext_16 : decode cX7_layNext 16 = .ok (.iload_n 1, 1) := by decide +kernel
theorem dX7_layNext_17 : decode cX7_layNext 17 = .ok (.invokevirtual 310, 3) := by decide +kernel
theorem dX7_layNext_20 : decode cX7_layNext 20 = .ok (.iastore, 1) := by decide +kernel
theorem dX7_layNext_21 : decode cX7_layNext 21 = .ok (.iinc 1 1, 3) := by decide +kernel
theorem dX7_layNext_24 : decode cX7_layNext 24 = .ok (.goto (-22), 3) := by decide +kernel
theorem dX7_layNext_27 : decode cX7_layNext 27 = .ok (.return_, 1) := by decide +kernel
theorem dX7_goYear_0 : decode cX7_goYear 0 = .ok (.aload_n 0, 1) := by decide +kernel
theorem dX7_goYear_1 : decode cX7_goYear 1 = .ok (.invokevirtual 313, 3) := by decide +kernel
theorem dX7_goYear_4 : decode cX7_goYear 4 = .ok (.iconst 0, 1) := by decide +kernel
theorem dX7_goYear_5 : decode cX7_goYear 5 = .ok (.istore_n 1, 1) := by decide +kernel
theorem dX7_goYear_6 : decode cX7_goYear 6 = .ok (.iload_n 1, 1) := by decide +kernel
theorem dX7_goYear_7 : decode cX7_goYear 7 = .ok (.aload_n 0, 1) := by decide +kernel
theorem dX7_goYear_8 : decode cX7_goYear 8 = .ok (.getfield 7, 3) := by decide +kernel
theorem dX7_goYear_11 : decode cX7_goYear 11 = .ok (.if_icmp .ge 21, 3) := by decide +kernel
theorem dX7_goYear_14 : decode cX7_goYear 14 = .ok (.aload_n 0, 1) := by decide +kernel
theorem dX7_goYear_15 : decode cX7_goYear 15 = .ok (.getfield 23, 3) := by decide +kernel
theorem dX7_goYear_18 : decode cX7_goYear 18 = .ok (.iload_n 1, 1) := by decide +kernel
theorem dX7_goYear_19 : decode cX7_goYear 19 = .ok (.aload_n 0, 1) := by decide +kernel
theorem dX7_goYear_20 : decode cX7_goYear 20 = .ok (.getfield 93, 3) := by decide +kernel
theorem dX7_goYear_23 : decode cX7_goYear 23 = .ok (.iload_n 1, 1) := by decide +kernel
theorem dX7_goYear_24 : decode cX7_goYear 24 = .ok (.iaload, 1) := by decide +kernel
theorem dX7_goYear_25 : decode cX7_goYear 25 = .ok (.iastore, 1) := by decide +kernel
theorem dX7_goYear_26 : decode cX7_goYear 26 = .ok (.iinc 1 1, 3) := by decide +kernel
theorem dX7_goYear_29 : decode cX7_goYear 29 = .ok (.goto (-23), 3) := by decide +kernel
theorem dX7_goYear_32 : decode cX7_goYear 32 = .ok (.aload_n 0, 1) := by decide +kernel
theorem dX7_goYear_33 : decode cX7_goYear 33 = .ok (.dup, 1) := by decide +kernel
theorem dX7_goYear_34 : decode cX7_goYear 34 = .ok (.getfield 13, 3) := by decide +kernel
theorem dX7_goYear_37 : decode cX7_goYear 37 = .ok (.iconst 1, 1) := by decide +kernel
theorem dX7_goYear_38 : decode cX7_goYear 38 = .ok (.iadd, 1) := by decide +kernel
theorem dX7_goYear_39 : decode cX7_goYear 39 = .ok (.putfield 13, 3) := by decide +kernel
theorem dX7_goYear_42 : decode cX7_goYear 42 = .ok (.return_, 1) := by decide +kernel
theorem dX7_goYears_0 : decode cX7_goYears 0 = .ok (.iconst 0, 1) := by decide +kernel
theorem dX7_goYears_1 : decode cX7_goYears 1 = .ok (.istore_n 2, 1) := by decide +kernel
theorem dX7_goYears_2 : decode cX7_goYears 2 = .ok (.iload_n 2, 1) := by decide +kernel
theorem dX7_goYears_3 : decode cX7_goYears 3 = .ok (.iload_n 1, 1) := by decide +kernel
theorem dX7_goYears_4 : decode cX7_goYears 4 = .ok (.if_icmp .ge 13, 3) := by decide +kernel
theorem dX7_goYears_7 : decode cX7_goYears 7 = .ok (.aload_n 0, 1) := by decide +kernel
theorem dX7_goYears_8 : decode cX7_goYears 8 = .ok (.invokevirtual 316, 3) := by decide +kernel
theorem dX7_goYears_11 : decode cX7_goYears 11 = .ok (.iinc 2 1, 3) := by decide +kernel
theorem dX7_goYears_14 : decode cX7_goYears 14 = .ok (.goto (-12), 3) := by decide +kernel
theorem dX7_goYears_17 : decode cX7_goYears 17 = .ok (.return_, 1) := by decide +kernel
theorem dX7_allEarn_0 : decode cX7_allEarn 0 = .ok (.iconst 0, 1) := by decide +kernel
theorem dX7_allEarn_1 : decode cX7_allEarn 1 = .ok (.istore_n 1, 1) := by decide +kernel
theorem dX7_allEarn_2 : decode cX7_allEarn 2 = .ok (.iconst 0, 1) := by decide +kernel
theorem dX7_allEarn_3 : decode cX7_allEarn 3 = .ok (.istore_n 2, 1) := by decide +kernel
theorem dX7_allEarn_4 : decode cX7_allEarn 4 = .ok (.iload_n 2, 1) := by decide +kernel
theorem dX7_allEarn_5 : decode cX7_allEarn 5 = .ok (.aload_n 0, 1) := by decide +kernel
theorem dX7_allEarn_6 : decode cX7_allEarn 6 = .ok (.getfield 7, 3) := by decide +kernel
theorem dX7_allEarn_9 : decode cX7_allEarn 9 = .ok (.if_icmp .ge 18, 3) := by decide +kernel
theorem dX7_allEarn_12 : decode cX7_allEarn 12 = .ok (.iload_n 1, 1) := by decide +kernel
theorem dX7_allEarn_13 : decode cX7_allEarn 13 = .ok (.aload_n 0, 1) := by decide +kernel
theorem dX7_allEarn_14 : decode cX7_allEarn 14 = .ok (.getfield 23, 3) := by decide +kernel
theorem dX7_allEarn_17 : decode cX7_allEarn 17 = .ok (.iload_n 2, 1) := by decide +kernel
theorem dX7_allEarn_18 : decode cX7_allEarn 18 = .ok (.iaload, 1) := by decide +kernel
theorem dX7_allEarn_19 : decode cX7_allEarn 19 = .ok (.iadd, 1) := by decide +kernel
theorem dX7_allEarn_20 : decode cX7_allEarn 20 = .ok (.istore_n 1, 1) := by decide +kernel
theorem dX7_allEarn_21 : decode cX7_allEarn 21 = .ok (.iinc 2 1, 3) := by decide +kernel
theorem dX7_allEarn_24 : decode cX7_allEarn 24 = .ok (.goto (-20), 3) := by decide +kernel
theorem dX7_allEarn_27 : decode cX7_allEarn 27 = .ok (.iload_n 1, 1) := by decide +kernel
theorem dX7_allEarn_28 : decode cX7_allEarn 28 = .ok (.ireturn, 1) := by decide +kernel
theorem dX7_of_0 : decode cX7_of 0 = .ok (.aload_n 0, 1) := by decide +kernel
theorem dX7_of_1 : decode cX7_of 1 = .ok (.iload_n 1, 1) := by decide +kernel
theorem dX7_of_2 : decode cX7_of 2 = .ok (.invokevirtual 205, 3) := by decide +kernel
theorem dX7_of_5 : decode cX7_of 5 = .ok (.ifCond .ne 5, 3) := by decide +kernel
theorem dX7_of_8 : decode cX7_of 8 = .ok (.iconst (-1), 1) := by decide +kernel
theorem dX7_of_9 : decode cX7_of 9 = .ok (.ireturn, 1) := by decide +kernel
theorem dX7_of_10 : decode cX7_of 10 = .ok (.iload_n 2, 1) := by decide +kernel
theorem dX7_of_11 : decode cX7_of 11 = .ok (.tableswitch 66 0 4 #[33, 40, 47, 54, 60], 33) := by decide +kernel
theorem dX7_of_44 : decode cX7_of 44 = .ok (.aload_n 0, 1) := by decide +kernel
theorem dX7_of_45 : decode cX7_of 45 = .ok (.getfield 16, 3) := by decide +kernel
theorem dX7_of_48 : decode cX7_of 48 = .ok (.iload_n 1, 1) := by decide +kernel
theorem dX7_of_49 : decode cX7_of 49 = .ok (.iaload, 1) := by decide +kernel
theorem dX7_of_50 : decode cX7_of 50 = .ok (.ireturn, 1) := by decide +kernel
theorem dX7_of_51 : decode cX7_of 51 = .ok (.aload_n 0, 1) := by decide +kernel
theorem dX7_of_52 : decode cX7_of 52 = .ok (.getfield 20, 3) := by decide +kernel
theorem dX7_of_55 : decode cX7_of 55 = .ok (.iload_n 1, 1) := by decide +kernel
theorem dX7_of_56 : decode cX7_of 56 = .ok (.iaload, 1) := by decide +kernel
theorem dX7_of_57 : decode cX7_of 57 = .ok (.ireturn, 1) := by decide +kernel
theorem dX7_of_58 : decode cX7_of 58 = .ok (.aload_n 0, 1) := by decide +kernel
theorem dX7_of_59 : decode cX7_of 59 = .ok (.getfield 23, 3) := by decide +kernel
theorem dX7_of_62 : decode cX7_of 62 = .ok (.iload_n 1, 1) := by decide +kernel
theorem dX7_of_63 : decode cX7_of 63 = .ok (.iaload, 1) := by decide +kernel
theorem dX7_of_64 : decode cX7_of 64 = .ok (.ireturn, 1) := by decide +kernel
theorem dX7_of_65 : decode cX7_of 65 = .ok (.aload_n 0, 1) := by decide +kernel
theorem dX7_of_66 : decode cX7_of 66 = .ok (.iload_n 1, 1) := by decide +kernel
theorem dX7_of_67 : decode cX7_of 67 = .ok (.invokevirtual 288, 3) := by decide +kernel
theorem dX7_of_70 : decode cX7_of 70 = .ok (.ireturn, 1) := by decide +kernel
theorem dX7_of_71 : decode cX7_of 71 = .ok (.aload_n 0, 1) := by decide +kernel
theorem dX7_of_72 : decode cX7_of 72 = .ok (.iload_n 1, 1) := by decide +kernel
theorem dX7_of_73 : decode cX7_of 73 = .ok (.invokevirtual 310, 3) := by decide +kernel
theorem dX7_of_76 : decode cX7_of 76 = .ok (.ireturn, 1) := by decide +kernel
theorem dX7_of_77 : decode cX7_of 77 = .ok (.iconst (-1), 1) := by decide +kernel
theorem dX7_of_78 : decode cX7_of 78 = .ok (.ireturn, 1) := by decide +kernel
theorem dX7_told_0 : decode cX7_told 0 = .ok (.iload_n 1, 1) := by decide +kernel
theorem dX7_told_1 : decode cX7_told 1 = .ok (.ifCond .ne 10, 3) := by decide +kernel
theorem dX7_told_4 : decode cX7_told 4 = .ok (.aload_n 0, 1) := by decide +kernel
theorem dX7_told_5 : decode cX7_told 5 = .ok (.getfield 13, 3) := by decide +kernel
theorem dX7_told_8 : decode cX7_told 8 = .ok (.goto 36, 3) := by decide +kernel
theorem dX7_told_11 : decode cX7_told 11 = .ok (.iload_n 1, 1) := by decide +kernel
theorem dX7_told_12 : decode cX7_told 12 = .ok (.iconst 1, 1) := by decide +kernel
theorem dX7_told_13 : decode cX7_told 13 = .ok (.if_icmp .ne 18, 3) := by decide +kernel
theorem dX7_told_16 : decode cX7_told 16 = .ok (.aload_n 0, 1) := by decide +kernel
theorem dX7_told_17 : decode cX7_told 17 = .ok (.invokevirtual 278, 3) := by decide +kernel
theorem dX7_told_20 : decode cX7_told 20 = .ok (.ifCond .eq 7, 3) := by decide +kernel
theorem dX7_told_23 : decode cX7_told 23 = .ok (.iconst 1, 1) := by decide +kernel
theorem dX7_told_24 : decode cX7_told 24 = .ok (.goto 20, 3) := by decide +kernel
theorem dX7_told_27 : decode cX7_told 27 = .ok (.iconst 0, 1) := by decide +kernel
theorem dX7_told_28 : decode cX7_told 28 = .ok (.goto 16, 3) := by decide +kernel
theorem dX7_told_31 : decode cX7_told 31 = .ok (.iload_n 1, 1) := by decide +kernel
theorem dX7_told_32 : decode cX7_told 32 = .ok (.iconst 2, 1) := by decide +kernel
theorem dX7_told_33 : decode cX7_told 33 = .ok (.if_icmp .ne 10, 3) := by decide +kernel
theorem dX7_told_36 : decode cX7_told 36 = .ok (.aload_n 0, 1) := by decide +kernel
theorem dX7_told_37 : decode cX7_told 37 = .ok (.invokevirtual 319, 3) := by decide +kernel
theorem dX7_told_40 : decode cX7_told 40 = .ok (.goto 4, 3) := by decide +kernel
theorem dX7_told_43 : decode cX7_told 43 = .ok (.iconst (-1), 1) := by decide +kernel
theorem dX7_told_44 : decode cX7_told 44 = .ok (.ireturn, 1) := by decide +kernel
theorem dX7_year_0 : decode cX7_year 0 = .ok (.aload_n 0, 1) := by decide +kernel
theorem dX7_year_1 : decode cX7_year 1 = .ok (.getfield 13, 3) := by decide +kernel
theorem dX7_year_4 : decode cX7_year 4 = .ok (.sipush 999, 3) := by decide +kernel
theorem dX7_year_7 : decode cX7_year 7 = .ok (.if_icmp .ne 6, 3) := by decide +kernel
theorem dX7_year_10 : decode cX7_year 10 = .ok (.bipush (-3), 2) := by decide +kernel
theorem dX7_year_12 : decode cX7_year 12 = .ok (.ireturn, 1) := by decide +kernel
theorem dX7_year_13 : decode cX7_year 13 = .ok (.aload_n 0, 1) := by decide +kernel
theorem dX7_year_14 : decode cX7_year 14 = .ok (.invokevirtual 316, 3) := by decide +kernel
theorem dX7_year_17 : decode cX7_year 17 = .ok (.aload_n 0, 1) := by decide +kernel
theorem dX7_year_18 : decode cX7_year 18 = .ok (.getfield 13, 3) := by decide +kernel
theorem dX7_year_21 : decode cX7_year 21 = .ok (.ireturn, 1) := by decide +kernel
theorem dX7_keep_0 : decode cX7_keep 0 = .ok (.iconst 0, 1) := by decide +kernel
theorem dX7_keep_1 : decode cX7_keep 1 = .ok (.istore_n 1, 1) := by decide +kernel
theorem dX7_keep_2 : decode cX7_keep 2 = .ok (.iload_n 1, 1) := by decide +kernel
theorem dX7_keep_3 : decode cX7_keep 3 = .ok (.bipush 8, 2) := by decide +kernel
theorem dX7_keep_5 : decode cX7_keep 5 = .ok (.if_icmp .ge 21, 3) := by decide +kernel
theorem dX7_keep_8 : decode cX7_keep 8 = .ok (.aload_n 0, 1) := by decide +kernel
theorem dX7_keep_9 : decode cX7_keep 9 = .ok (.getfield 96, 3) := by decide +kernel
theorem dX7_keep_12 : decode cX7_keep 12 = .ok (.iload_n 1, 1) := by decide +kernel
theorem dX7_keep_13 : decode cX7_keep 13 = .ok (.aload_n 0, 1) := by decide +kernel
theorem dX7_keep_14 : decode cX7_keep 14 = .ok (.getfield 23, 3) := by decide +kernel
theorem dX7_keep_17 : decode cX7_keep 17 = .ok (.iload_n 1, 1) := by decide +kernel
theorem dX7_keep_18 : decode cX7_keep 18 = .ok (.iaload, 1) := by decide +kernel
theorem dX7_keep_19 : decode cX7_keep 19 = .ok (.iastore, 1) := by decide +kernel
theorem dX7_keep_20 : decode cX7_keep 20 = .ok (.iinc 1 1, 3) := by decide +kernel
theorem dX7_keep_23 : decode cX7_keep 23 = .ok (.goto (-21), 3) := by decide +kernel
theorem dX7_keep_26 : decode cX7_keep 26 = .ok (.aload_n 0, 1) := by decide +kernel
theorem dX7_keep_27 : decode cX7_keep 27 = .ok (.aload_n 0, 1) := by decide +kernel
theorem dX7_keep_28 : decode cX7_keep 28 = .ok (.getfield 13, 3) := by decide +kernel
theorem dX7_keep_31 : decode cX7_keep 31 = .ok (.putfield 99, 3) := by decide +kernel
theorem dX7_keep_34 : decode cX7_keep 34 = .ok (.return_, 1) := by decide +kernel
theorem dX7_putBack_0 : decode cX7_putBack 0 = .ok (.iconst 0, 1) := by decide +kernel
theorem dX7_putBack_1 : decode cX7_putBack 1 = .ok (.istore_n 1, 1) := by decide +kernel
theorem dX7_putBack_2 : decode cX7_putBack 2 = .ok (.iload_n 1, 1) := by decide +kernel
theorem dX7_putBack_3 : decode cX7_putBack 3 = .ok (.bipush 8, 2) := by decide +kernel
theorem dX7_putBack_5 : decode cX7_putBack 5 = .ok (.if_icmp .ge 21, 3) := by decide +kernel
theorem dX7_putBack_8 : decode cX7_putBack 8 = .ok (.aload_n 0, 1) := by decide +kernel
theorem dX7_putBack_9 : decode cX7_putBack 9 = .ok (.getfield 23, 3) := by decide +kernel
theorem dX7_putBack_12 : decode cX7_putBack 12 = .ok (.iload_n 1, 1) := by decide +kernel
theorem dX7_putBack_13 : decode cX7_putBack 13 = .ok (.aload_n 0, 1) := by decide +kernel
theorem dX7_putBack_14 : decode cX7_putBack 14 = .ok (.getfield 96, 3) := by decide +kernel
theorem dX7_putBack_17 : decode cX7_putBack 17 = .ok (.iload_n 1, 1) := by decide +kernel
theorem dX7_putBack_18 : decode cX7_putBack 18 = .ok (.iaload, 1) := by decide +kernel
theorem dX7_putBack_19 : decode cX7_putBack 19 = .ok (.iastore, 1) := by decide +kernel
theorem dX7_putBack_20 : decode cX7_putBack 20 = .ok (.iinc 1 1, 3) := by decide +kernel
theorem dX7_putBack_23 : decode cX7_putBack 23 = .ok (.goto (-21), 3) := by decide +kernel
theorem dX7_putBack_26 : decode cX7_putBack 26 = .ok (.aload_n 0, 1) := by decide +kernel
theorem dX7_putBack_27 : decode cX7_putBack 27 = .ok (.aload_n 0, 1) := by decide +kernel
theorem dX7_putBack_28 : decode cX7_putBack 28 = .ok (.getfield 99, 3) := by decide +kernel
theorem dX7_putBack_31 : decode cX7_putBack 31 = .ok (.putfield 13, 3) := by decide +kernel
theorem dX7_putBack_34 : decode cX7_putBack 34 = .ok (.return_, 1) := by decide +kernel
theorem dX7_earnsThen_0 : decode cX7_earnsThen 0 = .ok (.aload_n 0, 1) := by decide +kernel
theorem dX7_earnsThen_1 : decode cX7_earnsThen 1 = .ok (.getfield 13, 3) := by decide +kernel
theorem dX7_earnsThen_4 : decode cX7_earnsThen 4 = .ok (.istore_n 3, 1) := by decide +kernel
theorem dX7_earnsThen_5 : decode cX7_earnsThen 5 = .ok (.iconst 0, 1) := by decide +kernel
theorem dX7_earnsThen_6 : decode cX7_earnsThen 6 = .ok (.istore 4, 2) := by decide +kernel
theorem dX7_earnsThen_8 : decode cX7_earnsThen 8 = .ok (.iload 4, 2) := by decide +kernel
theorem dX7_earnsThen_10 : decode cX7_earnsThen 10 = .ok (.bipush 8, 2) := by decide +kernel
theorem dX7_earnsThen_12 : decode cX7_earnsThen 12 = .ok (.if_icmp .ge 23, 3) := by decide +kernel
theorem dX7_earnsThen_15 : decode cX7_earnsThen 15 = .ok (.aload_n 0, 1) := by decide +kernel
theorem dX7_earnsThen_16 : decode cX7_earnsThen 16 = .ok (.getfield 102, 3) := by decide +kernel
theorem dX7_earnsThen_19 : decode cX7_earnsThen 19 = .ok (.iload 4, 2) := by decide +kernel
theorem dX7_earnsThen_21 : decode cX7_earnsThen 21 = .ok (.aload_n 0, 1) := by decide +kernel
theorem dX7_earnsThen_22 : decode cX7_earnsThen 22 = .ok (.getfield 23, 3) := by decide +kernel
theorem dX7_earnsThen_25 : decode cX7_earnsThen 25 = .ok (.iload 4, 2) := by decide +kernel
theorem dX7_earnsThen_27 : decode cX7_earnsThen 27 = .ok (.iaload, 1) := by decide +kernel
theorem dX7_earnsThen_28 : decode cX7_earnsThen 28 = .ok (.iastore, 1) := by decide +kernel
theorem dX7_earnsThen_29 : decode cX7_earnsThen 29 = .ok (.iinc 4 1, 3) := by decide +kernel
theorem dX7_earnsThen_32 : decode cX7_earnsThen 32 = .ok (.goto (-24), 3) := by decide +kernel
theorem dX7_earnsThen_35 : decode cX7_earnsThen 35 = .ok (.aload_n 0, 1) := by decide +kernel
theorem dX7_earnsThen_36 : decode cX7_earnsThen 36 = .ok (.iload_n 1, 1) := by decide +kernel
theorem dX7_earnsThen_37 : decode cX7_earnsThen 37 = .ok (.invokevirtual 322, 3) := by decide +kernel
theorem dX7_earnsThen_40 : decode cX7_earnsThen 40 = .ok (.iload_n 2, 1) := by decide +kernel
theorem dX7_earnsThen_41 : decode cX7_earnsThen 41 = .ok (.bipush 10, 2) := by decide +kernel
theorem dX7_earnsThen_43 : decode cX7_earnsThen 43 = .ok (.if_icmp .ne 10, 3) := by decide +kernel
theorem dX7_earnsThen_46 : decode cX7_earnsThen 46 = .ok (.aload_n 0, 1) := by decide +kernel
theorem dX7_earnsThen_47 : decode cX7_earnsThen 47 = .ok (.invokevirtual 319, 3) := by decide +kernel
theorem dX7_earnsThen_50 : decode cX7_earnsThen 50 = .ok (.goto 9, 3) := by decide +kernel
theorem dX7_earnsThen_53 : decode cX7_earnsThen 53 = .ok (.aload_n 0, 1) := by decide +kernel
theorem dX7_earnsThen_54 : decode cX7_earnsThen 54 = .ok (.getfield 23, 3) := by decide +kernel
theorem dX7_earnsThen_57 : decode cX7_earnsThen 57 = .ok (.iload_n 2, 1) := by decide +kernel
theorem dX7_earnsThen_58 : decode cX7_earnsThen 58 = .ok (.iaload, 1) := by decide +kernel
theorem dX7_earnsThen_59 : decode cX7_earnsThen 59 = .ok (.istore 4, 2) := by decide +kernel
theorem dX7_earnsThen_61 : decode cX7_earnsThen 61 = .ok (.iconst 0, 1) := by decide +kernel
theorem dX7_earnsThen_62 : decode cX7_earnsThen 62 = .ok (.istore 5, 2) := by decide +kernel
theorem dX7_earnsThen_64 : decode cX7_earnsThen 64 = .ok (.iload 5, 2) := by decide +kernel
theorem dX7_earnsThen_66 : decode cX7_earnsThen 66 = .ok (.bipush 8, 2) := by decide +kernel
theorem dX7_earnsThen_68 : decode cX7_earnsThen 68 = .ok (.if_icmp .ge 23, 3) := by decide +kernel
theorem dX7_earnsThen_71 : decode cX7_earnsThen 71 = .ok (.aload_n 0, 1) := by decide +kernel
theorem dX7_earnsThen_72 : decode cX7_earnsThen 72 = .ok (.getfield 23, 3) := by decide +kernel
theorem dX7_earnsThen_75 : decode cX7_earnsThen 75 = .ok (.iload 5, 2) := by decide +kernel
theorem dX7_earnsThen_77 : decode cX7_earnsThen 77 = .ok (.aload_n 0, 1) := by decide +kernel
theorem dX7_earnsThen_78 : decode cX7_earnsThen 78 = .ok (.getfield 102, 3) := by decide +kernel
theorem dX7_earnsThen_81 : decode cX7_earnsThen 81 = .ok (.iload 5, 2) := by decide +kernel
theorem dX7_earnsThen_83 : decode cX7_earnsThen 83 = .ok (.iaload, 1) := by decide +kernel
theorem dX7_earnsThen_84 : decode cX7_earnsThen 84 = .ok (.iastore, 1) := by decide +kernel
theorem dX7_earnsThen_85 : decode cX7_earnsThen 85 = .ok (.iinc 5 1, 3) := by decide +kernel
theorem dX7_earnsThen_88 : decode cX7_earnsThen 88 = .ok (.goto (-24), 3) := by decide +kernel
theorem dX7_earnsThen_91 : decode cX7_earnsThen 91 = .ok (.aload_n 0, 1) := by decide +kernel
theorem dX7_earnsThen_92 : decode cX7_earnsThen 92 = .ok (.iload_n 3, 1) := by decide +kernel
theorem dX7_earnsThen_93 : decode cX7_earnsThen 93 = .ok (.putfield 13, 3) := by decide +kernel
theorem dX7_earnsThen_96 : decode cX7_earnsThen 96 = .ok (.iload 4, 2) := by decide +kernel
theorem dX7_earnsThen_98 : decode cX7_earnsThen 98 = .ok (.ireturn, 1) := by decide +kernel
theorem dX7_at_0 : decode cX7_at 0 = .ok (.aload_n 0, 1) := by decide +kernel
theorem dX7_at_1 : decode cX7_at 1 = .ok (.iload_n 2, 1) := by decide +kernel
theorem dX7_at_2 : decode cX7_at 2 = .ok (.iconst 0, 1) := by decide +kernel
theorem dX7_at_3 : decode cX7_at 3 = .ok (.aload_n 0, 1) := by decide +kernel
theorem dX7_at_4 : decode cX7_at 4 = .ok (.getfield 7, 3) := by decide +kernel
theorem dX7_at_7 : decode cX7_at 7 = .ok (.iconst 1, 1) := by decide +kernel
theorem dX7_at_8 : decode cX7_at 8 = .ok (.isub, 1) := by decide +kernel
theorem dX7_at_9 : decode cX7_at 9 = .ok (.invokevirtual 197, 3) := by decide +kernel
theorem dX7_at_12 : decode cX7_at 12 = .ok (.ifCond .ne 11, 3) := by decide +kernel
theorem dX7_at_15 : decode cX7_at 15 = .ok (.iload_n 2, 1) := by decide +kernel
theorem dX7_at_16 : decode cX7_at 16 = .ok (.bipush 10, 2) := by decide +kernel
theorem dX7_at_18 : decode cX7_at 18 = .ok (.if_icmp .eq 5, 3) := by decide +kernel
theorem dX7_at_21 : decode cX7_at 21 = .ok (.iconst (-1), 1) := by decide +kernel
theorem dX7_at_22 : decode cX7_at 22 = .ok (.ireturn, 1) := by decide +kernel
theorem dX7_at_23 : decode cX7_at 23 = .ok (.aload_n 0, 1) := by decide +kernel
theorem dX7_at_24 : decode cX7_at 24 = .ok (.iload_n 1, 1) := by decide +kernel
theorem dX7_at_25 : decode cX7_at 25 = .ok (.iconst 0, 1) := by decide +kernel
theorem dX7_at_26 : decode cX7_at 26 = .ok (.bipush 60, 2) := by decide +kernel
theorem dX7_at_28 : decode cX7_at 28 = .ok (.invokevirtual 197, 3) := by decide +kernel
theorem dX7_at_31 : decode cX7_at 31 = .ok (.ifCond .eq 12, 3) := by decide +kernel
theorem dX7_at_34 : decode cX7_at 34 = .ok (.aload_n 0, 1) := by decide +kernel
theorem dX7_at_35 : decode cX7_at 35 = .ok (.iload_n 1, 1) := by decide +kernel
theorem dX7_at_36 : decode cX7_at 36 = .ok (.iload_n 2, 1) := by decide +kernel
theorem dX7_at_37 : decode cX7_at 37 = .ok (.invokevirtual 325, 3) := by decide +kernel
theorem dX7_at_40 : decode cX7_at 40 = .ok (.goto 5, 3) := by decide +kernel
theorem dX7_at_43 : decode cX7_at 43 = .ok (.bipush (-2), 2) := by decide +kernel
theorem dX7_at_45 : decode cX7_at 45 = .ok (.ireturn, 1) := by decide +kernel
theorem dX7_isCalm_0 : decode cX7_isCalm 0 = .ok (.aload_n 0, 1) := by decide +kernel
theorem dX7_isCalm_1 : decode cX7_isCalm 1 = .ok (.invokevirtual 313, 3) := by decide +kernel
theorem dX7_isCalm_4 : decode cX7_isCalm 4 = .ok (.iconst 0, 1) := by decide +kernel
theorem dX7_isCalm_5 : decode cX7_isCalm 5 = .ok (.istore_n 1, 1) := by decide +kernel
theorem dX7_isCalm_6 : decode cX7_isCalm 6 = .ok (.iload_n 1, 1) := by decide +kernel
theorem dX7_isCalm_7 : decode cX7_isCalm 7 = .ok (.aload_n 0, 1) := by decide +kernel
theorem dX7_isCalm_8 : decode cX7_isCalm 8 = .ok (.getfield 7, 3) := by decide +kernel
theorem dX7_isCalm_11 : decode cX7_isCalm 11 = .ok (.if_icmp .ge 26, 3) := by decide +kernel
theorem dX7_isCalm_14 : decode cX7_isCalm 14 = .ok (.aload_n 0, 1) := by decide +kernel
theorem dX7_isCalm_15 : decode cX7_isCalm 15 = .ok (.getfield 93, 3) := by decide +kernel
theorem dX7_isCalm_18 : decode cX7_isCalm 18 = .ok (.iload_n 1, 1) := by decide +kernel
theorem dX7_isCalm_19 : decode cX7_isCalm 19 = .ok (.iaload, 1) := by decide +kernel
theorem dX7_isCalm_20 : decode cX7_isCalm 20 = .ok (.aload_n 0, 1) := by decide +kernel
theorem dX7_isCalm_21 : decode cX7_isCalm 21 = .ok (.getfield 23, 3) := by decide +kernel
theorem dX7_isCalm_24 : decode cX7_isCalm 24 = .ok (.iload_n 1, 1) := by decide +kernel
theorem dX7_isCalm_25 : decode cX7_isCalm 25 = .ok (.iaload, 1) := by decide +kernel
theorem dX7_isCalm_26 : decode cX7_isCalm 26 = .ok (.if_icmp .eq 5, 3) := by decide +kernel
theorem dX7_isCalm_29 : decode cX7_isCalm 29 = .ok (.iconst 0, 1) := by decide +kernel
theorem dX7_isCalm_30 : decode cX7_isCalm 30 = .ok (.ireturn, 1) := by decide +kernel
theorem dX7_isCalm_31 : decode cX7_isCalm 31 = .ok (.iinc 1 1, 3) := by decide +kernel
theorem dX7_isCalm_34 : decode cX7_isCalm 34 = .ok (.goto (-28), 3) := by decide +kernel
theorem dX7_isCalm_37 : decode cX7_isCalm 37 = .ok (.iconst 1, 1) := by decide +kernel
theorem dX7_isCalm_38 : decode cX7_isCalm 38 = .ok (.ireturn, 1) := by decide +kernel
theorem dX7_stays_0 : decode cX7_stays 0 = .ok (.aload_n 0, 1) := by decide +kernel
theorem dX7_stays_1 : decode cX7_stays 1 = .ok (.invokevirtual 328, 3) := by decide +kernel
theorem dX7_stays_4 : decode cX7_stays 4 = .ok (.bipush (-5), 2) := by decide +kernel
theorem dX7_stays_6 : decode cX7_stays 6 = .ok (.istore_n 1, 1) := by decide +kernel
theorem dX7_stays_7 : decode cX7_stays 7 = .ok (.iconst 0, 1) := by decide +kernel
theorem dX7_stays_8 : decode cX7_stays 8 = .ok (.istore_n 2, 1) := by decide +kernel
theorem dX7_stays_9 : decode cX7_stays 9 = .ok (.iload_n 2, 1) := by decide +kernel
theorem dX7_stays_10 : decode cX7_stays 10 = .ok (.bipush 61, 2) := by decide +kernel
theorem dX7_stays_12 : decode cX7_stays 12 = .ok (.if_icmp .ge 31, 3) := by decide +kernel
theorem dX7_stays_15 : decode cX7_stays 15 = .ok (.iload_n 1, 1) := by decide +kernel
theorem dX7_stays_16 : decode cX7_stays 16 = .ok (.ifCond .ge 27, 3) := by decide +kernel
theorem dX7_stays_19 : decode cX7_stays 19 = .ok (.aload_n 0, 1) := by decide +kernel
theorem dX7_stays_20 : decode cX7_stays 20 = .ok (.invokevirtual 331, 3) := by decide +kernel
theorem dX7_stays_23 : decode cX7_stays 23 = .ok (.ifCond .eq 7, 3) := by decide +kernel
theorem dX7_stays_26 : decode cX7_stays 26 = .ok (.iload_n 2, 1) := by decide +kernel
theorem dX7_stays_27 : decode cX7_stays 27 = .ok (.goto 5, 3) := by decide +kernel
theorem dX7_stays_30 : decode cX7_stays 30 = .ok (.bipush (-5), 2) := by decide +kernel
theorem dX7_stays_32 : decode cX7_stays 32 = .ok (.istore_n 1, 1) := by decide +kernel
theorem dX7_stays_33 : decode cX7_stays 33 = .ok (.aload_n 0, 1) := by decide +kernel
theorem dX7_stays_34 : decode cX7_stays 34 = .ok (.invokevirtual 316, 3) := by decide +kernel
theorem dX7_stays_37 : decode cX7_stays 37 = .ok (.iinc 2 1, 3) := by decide +kernel
theorem dX7_stays_40 : decode cX7_stays 40 = .ok (.goto (-31), 3) := by decide +kernel
theorem dX7_stays_43 : decode cX7_stays 43 = .ok (.aload_n 0, 1) := by decide +kernel
theorem dX7_stays_44 : decode cX7_stays 44 = .ok (.invokevirtual 334, 3) := by decide +kernel
theorem dX7_stays_47 : decode cX7_stays 47 = .ok (.iload_n 1, 1) := by decide +kernel
theorem dX7_stays_48 : decode cX7_stays 48 = .ok (.ireturn, 1) := by decide +kernel
theorem dX7_isAsOld_0 : decode cX7_isAsOld 0 = .ok (.iconst 0, 1) := by decide +kernel
theorem dX7_isAsOld_1 : decode cX7_isAsOld 1 = .ok (.istore_n 1, 1) := by decide +kernel
theorem dX7_isAsOld_2 : decode cX7_isAsOld 2 = .ok (.iload_n 1, 1) := by decide +kernel
theorem dX7_isAsOld_3 : decode cX7_isAsOld 3 = .ok (.aload_n 0, 1) := by decide +kernel
theorem dX7_isAsOld_4 : decode cX7_isAsOld 4 = .ok (.getfield 7, 3) := by decide +kernel
theorem dX7_isAsOld_7 : decode cX7_isAsOld 7 = .ok (.if_icmp .ge 26, 3) := by decide +kernel
theorem dX7_isAsOld_10 : decode cX7_isAsOld 10 = .ok (.aload_n 0, 1) := by decide +kernel
theorem dX7_isAsOld_11 : decode cX7_isAsOld 11 = .ok (.getfield 23, 3) := by decide +kernel
theorem dX7_isAsOld_14 : decode cX7_isAsOld 14 = .ok (.iload_n 1, 1) := by decide +kernel
theorem dX7_isAsOld_15 : decode cX7_isAsOld 15 = .ok (.iaload, 1) := by decide +kernel
theorem dX7_isAsOld_16 : decode cX7_isAsOld 16 = .ok (.aload_n 0, 1) := by decide +kernel
theorem dX7_isAsOld_17 : decode cX7_isAsOld 17 = .ok (.getfield 105, 3) := by decide +kernel
theorem dX7_isAsOld_20 : decode cX7_isAsOld 20 = .ok (.iload_n 1, 1) := by decide +kernel
theorem dX7_isAsOld_21 : decode cX7_isAsOld 21 = .ok (.iaload, 1) := by decide +kernel
theorem dX7_isAsOld_22 : decode cX7_isAsOld 22 = .ok (.if_icmp .eq 5, 3) := by decide +kernel
theorem dX7_isAsOld_25 : decode cX7_isAsOld 25 = .ok (.iconst 0, 1) := by decide +kernel
theorem dX7_isAsOld_26 : decode cX7_isAsOld 26 = .ok (.ireturn, 1) := by decide +kernel
theorem dX7_isAsOld_27 : decode cX7_isAsOld 27 = .ok (.iinc 1 1, 3) := by decide +kernel
theorem dX7_isAsOld_30 : decode cX7_isAsOld 30 = .ok (.goto (-28), 3) := by decide +kernel
theorem dX7_isAsOld_33 : decode cX7_isAsOld 33 = .ok (.iconst 1, 1) := by decide +kernel
theorem dX7_isAsOld_34 : decode cX7_isAsOld 34 = .ok (.ireturn, 1) := by decide +kernel
theorem dX7_swings_0 : decode cX7_swings 0 = .ok (.aload_n 0, 1) := by decide +kernel
theorem dX7_swings_1 : decode cX7_swings 1 = .ok (.invokevirtual 328, 3) := by decide +kernel
theorem dX7_swings_4 : decode cX7_swings 4 = .ok (.aload_n 0, 1) := by decide +kernel
theorem dX7_swings_5 : decode cX7_swings 5 = .ok (.bipush 40, 2) := by decide +kernel
theorem dX7_swings_7 : decode cX7_swings 7 = .ok (.invokevirtual 322, 3) := by decide +kernel
theorem dX7_swings_10 : decode cX7_swings 10 = .ok (.iconst 0, 1) := by decide +kernel
theorem dX7_swings_11 : decode cX7_swings 11 = .ok (.istore_n 1, 1) := by decide +kernel
theorem dX7_swings_12 : decode cX7_swings 12 = .ok (.iload_n 1, 1) := by decide +kernel
theorem dX7_swings_13 : decode cX7_swings 13 = .ok (.bipush 8, 2) := by decide +kernel
theorem dX7_swings_15 : decode cX7_swings 15 = .ok (.if_icmp .ge 21, 3) := by decide +kernel
theorem dX7_swings_18 : decode cX7_swings 18 = .ok (.aload_n 0, 1) := by decide +kernel
theorem dX7_swings_19 : decode cX7_swings 19 = .ok (.getfield 105, 3) := by decide +kernel
theorem dX7_swings_22 : decode cX7_swings 22 = .ok (.iload_n 1, 1) := by decide +kernel
theorem dX7_swings_23 : decode cX7_swings 23 = .ok (.aload_n 0, 1) := by decide +kernel
theorem dX7_swings_24 : decode cX7_swings 24 = .ok (.getfield 23, 3) := by decide +kernel
theorem dX7_swings_27 : decode cX7_swings 27 = .ok (.iload_n 1, 1) := by decide +kernel
theorem dX7_swings_28 : decode cX7_swings 28 = .ok (.iaload, 1) := by decide +kernel
theorem dX7_swings_29 : decode cX7_swings 29 = .ok (.iastore, 1) := by decide +kernel
theorem dX7_swings_30 : decode cX7_swings 30 = .ok (.iinc 1 1, 3) := by decide +kernel
theorem dX7_swings_33 : decode cX7_swings 33 = .ok (.goto (-21), 3) := by decide +kernel
theorem dX7_swings_36 : decode cX7_swings 36 = .ok (.bipush (-5), 2) := by decide +kernel
theorem dX7_swings_38 : decode cX7_swings 38 = .ok (.istore_n 1, 1) := by decide +kernel
theorem dX7_swings_39 : decode cX7_swings 39 = .ok (.iconst 1, 1) := by decide +kernel
theorem dX7_swings_40 : decode cX7_swings 40 = .ok (.istore_n 2, 1) := by decide +kernel
theorem dX7_swings_41 : decode cX7_swings 41 = .ok (.iload_n 2, 1) := by decide +kernel
theorem dX7_swings_42 : decode cX7_swings 42 = .ok (.bipush 21, 2) := by decide +kernel
theorem dX7_swings_44 : decode cX7_swings 44 = .ok (.if_icmp .ge 31, 3) := by decide +kernel
theorem dX7_swings_47 : decode cX7_swings 47 = .ok (.iload_n 1, 1) := by decide +kernel
theorem dX7_swings_48 : decode cX7_swings 48 = .ok (.ifCond .ge 27, 3) := by decide +kernel
theorem dX7_swings_51 : decode cX7_swings 51 = .ok (.aload_n 0, 1) := by decide +kernel
theorem dX7_swings_52 : decode cX7_swings 52 = .ok (.invokevirtual 316, 3) := by decide +kernel
theorem dX7_swings_55 : decode cX7_swings 55 = .ok (.aload_n 0, 1) := by decide +kernel
theorem dX7_swings_56 : decode cX7_swings 56 = .ok (.invokevirtual 337, 3) := by decide +kernel
theorem dX7_swings_59 : decode cX7_swings 59 = .ok (.ifCond .eq 7, 3) := by decide +kernel
theorem dX7_swings_62 : decode cX7_swings 62 = .ok (.iload_n 2, 1) := by decide +kernel
theorem dX7_swings_63 : decode cX7_swings 63 = .ok (.goto 5, 3) := by decide +kernel
theorem dX7_swings_66 : decode cX7_swings 66 = .ok (.bipush (-5), 2) := by decide +kernel
theorem dX7_swings_68 : decode cX7_swings 68 = .ok (.istore_n 1, 1) := by decide +kernel
theorem dX7_swings_69 : decode cX7_swings 69 = .ok (.iinc 2 1, 3) := by decide +kernel
theorem dX7_swings_72 : decode cX7_swings 72 = .ok (.goto (-31), 3) := by decide +kernel
theorem dX7_swings_75 : decode cX7_swings 75 = .ok (.aload_n 0, 1) := by decide +kernel
theorem dX7_swings_76 : decode cX7_swings 76 = .ok (.invokevirtual 334, 3) := by decide +kernel
theorem dX7_swings_79 : decode cX7_swings 79 = .ok (.iload_n 1, 1) := by decide +kernel
theorem dX7_swings_80 : decode cX7_swings 80 = .ok (.ireturn, 1) := by decide +kernel
theorem dX7_withGift_0 : decode cX7_withGift 0 = .ok (.aload_n 0, 1) := by decide +kernel
theorem dX7_withGift_1 : decode cX7_withGift 1 = .ok (.getfield 23, 3) := by decide +kernel
theorem dX7_withGift_4 : decode cX7_withGift 4 = .ok (.iload_n 1, 1) := by decide +kernel
theorem dX7_withGift_5 : decode cX7_withGift 5 = .ok (.iaload, 1) := by decide +kernel
theorem dX7_withGift_6 : decode cX7_withGift 6 = .ok (.istore 4, 2) := by decide +kernel
theorem dX7_withGift_8 : decode cX7_withGift 8 = .ok (.aload_n 0, 1) := by decide +kernel
theorem dX7_withGift_9 : decode cX7_withGift 9 = .ok (.getfield 23, 3) := by decide +kernel
theorem dX7_withGift_12 : decode cX7_withGift 12 = .ok (.iload_n 1, 1) := by decide +kernel
theorem dX7_withGift_13 : decode cX7_withGift 13 = .ok (.aload_n 0, 1) := by decide +kernel
theorem dX7_withGift_14 : decode cX7_withGift 14 = .ok (.bipush 99, 2) := by decide +kernel
theorem dX7_withGift_16 : decode cX7_withGift 16 = .ok (.iload 4, 2) := by decide +kernel
theorem dX7_withGift_18 : decode cX7_withGift 18 = .ok (.iload_n 2, 1) := by decide +kernel
theorem dX7_withGift_19 : decode cX7_withGift 19 = .ok (.iadd, 1) := by decide +kernel
theorem dX7_withGift_20 : decode cX7_withGift 20 = .ok (.invokevirtual 301, 3) := by decide +kernel
theorem dX7_withGift_23 : decode cX7_withGift 23 = .ok (.iastore, 1) := by decide +kernel
theorem dX7_withGift_24 : decode cX7_withGift 24 = .ok (.aload_n 0, 1) := by decide +kernel
theorem dX7_withGift_25 : decode cX7_withGift 25 = .ok (.bipush 40, 2) := by decide +kernel
theorem dX7_withGift_27 : decode cX7_withGift 27 = .ok (.iload_n 3, 1) := by decide +kernel
theorem dX7_withGift_28 : decode cX7_withGift 28 = .ok (.invokevirtual 325, 3) := by decide +kernel
theorem dX7_withGift_31 : decode cX7_withGift 31 = .ok (.istore 5, 2) := by decide +kernel
theorem dX7_withGift_33 : decode cX7_withGift 33 = .ok (.aload_n 0, 1) := by decide +kernel
theorem dX7_withGift_34 : decode cX7_withGift 34 = .ok (.getfield 23, 3) := by decide +kernel
theorem dX7_withGift_37 : decode cX7_withGift 37 = .ok (.iload_n 1, 1) := by decide +kernel
theorem dX7_withGift_38 : decode cX7_withGift 38 = .ok (.iload 4, 2) := by decide +kernel
theorem dX7_withGift_40 : decode cX7_withGift 40 = .ok (.iastore, 1) := by decide +kernel
theorem dX7_withGift_41 : decode cX7_withGift 41 = .ok (.iload 5, 2) := by decide +kernel
theorem dX7_withGift_43 : decode cX7_withGift 43 = .ok (.ireturn, 1) := by decide +kernel
theorem dX7_gift_0 : decode cX7_gift 0 = .ok (.aload_n 0, 1) := by decide +kernel
theorem dX7_gift_1 : decode cX7_gift 1 = .ok (.iload_n 1, 1) := by decide +kernel
theorem dX7_gift_2 : decode cX7_gift 2 = .ok (.invokevirtual 205, 3) := by decide +kernel
theorem dX7_gift_5 : decode cX7_gift 5 = .ok (.ifCond .eq 13, 3) := by decide +kernel
theorem dX7_gift_8 : decode cX7_gift 8 = .ok (.aload_n 0, 1) := by decide +kernel
theorem dX7_gift_9 : decode cX7_gift 9 = .ok (.iload_n 3, 1) := by decide +kernel
theorem dX7_gift_10 : decode cX7_gift 10 = .ok (.iconst 0, 1) := by decide +kernel
theorem dX7_gift_11 : decode cX7_gift 11 = .ok (.iconst 1, 1) := by decide +kernel
theorem dX7_gift_12 : decode cX7_gift 12 = .ok (.invokevirtual 197, 3) := by decide +kernel
theorem dX7_gift_15 : decode cX7_gift 15 = .ok (.ifCond .ne 7, 3) := by decide +kernel
theorem dX7_gift_18 : decode cX7_gift 18 = .ok (.sipush (-1001), 3) := by decide +kernel
theorem dX7_gift_21 : decode cX7_gift 21 = .ok (.ireturn, 1) := by decide +kernel
theorem dX7_gift_22 : decode cX7_gift 22 = .ok (.aload_n 0, 1) := by decide +kernel
theorem dX7_gift_23 : decode cX7_gift 23 = .ok (.iload_n 2, 1) := by decide +kernel
theorem dX7_gift_24 : decode cX7_gift 24 = .ok (.iconst 0, 1) := by decide +kernel
theorem dX7_gift_25 : decode cX7_gift 25 = .ok (.bipush 99, 2) := by decide +kernel
theorem dX7_gift_27 : decode cX7_gift 27 = .ok (.invokevirtual 197, 3) := by decide +kernel
theorem dX7_gift_30 : decode cX7_gift 30 = .ok (.ifCond .ne 7, 3) := by decide +kernel
theorem dX7_gift_33 : decode cX7_gift 33 = .ok (.sipush (-1002), 3) := by decide +kernel
theorem dX7_gift_36 : decode cX7_gift 36 = .ok (.ireturn, 1) := by decide +kernel
theorem dX7_gift_37 : decode cX7_gift 37 = .ok (.iload_n 3, 1) := by decide +kernel
theorem dX7_gift_38 : decode cX7_gift 38 = .ok (.ifCond .ne 7, 3) := by decide +kernel
theorem dX7_gift_41 : decode cX7_gift 41 = .ok (.iload_n 1, 1) := by decide +kernel
theorem dX7_gift_42 : decode cX7_gift 42 = .ok (.goto 5, 3) := by decide +kernel
theorem dX7_gift_45 : decode cX7_gift 45 = .ok (.bipush 10, 2) := by decide +kernel
theorem dX7_gift_47 : decode cX7_gift 47 = .ok (.istore 4, 2) := by decide +kernel
theorem dX7_gift_49 : decode cX7_gift 49 = .ok (.aload_n 0, 1) := by decide +kernel
theorem dX7_gift_50 : decode cX7_gift 50 = .ok (.iload_n 1, 1) := by decide +kernel
theorem dX7_gift_51 : decode cX7_gift 51 = .ok (.iload_n 2, 1) := by decide +kernel
theorem dX7_gift_52 : decode cX7_gift 52 = .ok (.iload 4, 2) := by decide +kernel
theorem dX7_gift_54 : decode cX7_gift 54 = .ok (.invokevirtual 340, 3) := by decide +kernel
theorem dX7_gift_57 : decode cX7_gift 57 = .ok (.aload_n 0, 1) := by decide +kernel
theorem dX7_gift_58 : decode cX7_gift 58 = .ok (.bipush 40, 2) := by decide +kernel
theorem dX7_gift_60 : decode cX7_gift 60 = .ok (.iload 4, 2) := by decide +kernel
theorem dX7_gift_62 : decode cX7_gift 62 = .ok (.invokevirtual 325, 3) := by decide +kernel
theorem dX7_gift_65 : decode cX7_gift 65 = .ok (.isub, 1) := by decide +kernel
theorem dX7_gift_66 : decode cX7_gift 66 = .ok (.ireturn, 1) := by decide +kernel
theorem dX7_best_0 : decode cX7_best 0 = .ok (.aload_n 0, 1) := by decide +kernel
theorem dX7_best_1 : decode cX7_best 1 = .ok (.iload_n 1, 1) := by decide +kernel
theorem dX7_best_2 : decode cX7_best 2 = .ok (.iconst 0, 1) := by decide +kernel
theorem dX7_best_3 : decode cX7_best 3 = .ok (.bipush 99, 2) := by decide +kernel
theorem dX7_best_5 : decode cX7_best 5 = .ok (.invokevirtual 197, 3) := by decide +kernel
theorem dX7_best_8 : decode cX7_best 8 = .ok (.ifCond .ne 6, 3) := by decide +kernel
theorem dX7_best_11 : decode cX7_best 11 = .ok (.bipush (-2), 2) := by decide +kernel
theorem dX7_best_13 : decode cX7_best 13 = .ok (.ireturn, 1) := by decide +kernel
theorem dX7_best_14 : decode cX7_best 14 = .ok (.bipush (-5), 2) := by decide +kernel
theorem dX7_best_16 : decode cX7_best 16 = .ok (.istore_n 2, 1) := by decide +kernel
theorem dX7_best_17 : decode cX7_best 17 = .ok (.iconst 0, 1) := by decide +kernel
theorem dX7_best_18 : decode cX7_best 18 = .ok (.istore_n 3, 1) := by decide +kernel
theorem dX7_best_19 : decode cX7_best 19 = .ok (.iconst 0, 1) := by decide +kernel
theorem dX7_best_20 : decode cX7_best 20 = .ok (.istore 4, 2) := by decide +kernel
theorem dX7_best_22 : decode cX7_best 22 = .ok (.iload 4, 2) := by decide +kernel
theorem dX7_best_24 : decode cX7_best 24 = .ok (.aload_n 0, 1) := by decide +kernel
theorem dX7_best_25 : decode cX7_best 25 = .ok (.getfield 7, 3) := by decide +kernel
theorem dX7_best_28 : decode cX7_best 28 = .ok (.if_icmp .ge 39, 3) := by decide +kernel
theorem dX7_best_31 : decode cX7_best 31 = .ok (.aload_n 0, 1) := by decide +kernel
theorem dX7_best_32 : decode cX7_best 32 = .ok (.iload 4, 2) := by decide +kernel
theorem dX7_best_34 : decode cX7_best 34 = .ok (.iload_n 1, 1) := by decide +kernel
theorem dX7_best_35 : decode cX7_best 35 = .ok (.bipush 10, 2) := by decide +kernel
theorem dX7_best_37 : decode cX7_best 37 = .ok (.invokevirtual 340, 3) := by decide +kernel
theorem dX7_best_40 : decode cX7_best 40 = .ok (.istore 5, 2) := by decide +kernel
theorem dX7_best_42 : decode cX7_best 42 = .ok (.iload_n 2, 1) := by decide +kernel
theorem dX7_best_43 : decode cX7_best 43 = .ok (.ifCond .lt 12, 3) := by decide +kernel
theorem dX7_best_46 : decode cX7_best 46 = .ok (.iload 5, 2) := by decide +kernel
theorem dX7_best_48 : decode cX7_best 48 = .ok (.iload_n 3, 1) := by decide +kernel
theorem dX7_best_49 : decode cX7_best 49 = .ok (.if_icmp .gt 6, 3) := by decide +kernel
theorem dX7_best_52 : decode cX7_best 52 = .ok (.goto 9, 3) := by decide +kernel
theorem dX7_best_55 : decode cX7_best 55 = .ok (.iload 4, 2) := by decide +kernel
theorem dX7_best_57 : decode cX7_best 57 = .ok (.istore_n 2, 1) := by decide +kernel
theorem dX7_best_58 : decode cX7_best 58 = .ok (.iload 5, 2) := by decide +kernel
theorem dX7_best_60 : decode cX7_best 60 = .ok (.istore_n 3, 1) := by decide +kernel
theorem dX7_best_61 : decode cX7_best 61 = .ok (.iinc 4 1, 3) := by decide +kernel
theorem dX7_best_64 : decode cX7_best 64 = .ok (.goto (-42), 3) := by decide +kernel
theorem dX7_best_67 : decode cX7_best 67 = .ok (.iload_n 2, 1) := by decide +kernel
theorem dX7_best_68 : decode cX7_best 68 = .ok (.ireturn, 1) := by decide +kernel
theorem dX7_change_0 : decode cX7_change 0 = .ok (.aload_n 0, 1) := by decide +kernel
theorem dX7_change_1 : decode cX7_change 1 = .ok (.getfield 23, 3) := by decide +kernel
theorem dX7_change_4 : decode cX7_change 4 = .ok (.iload_n 1, 1) := by decide +kernel
theorem dX7_change_5 : decode cX7_change 5 = .ok (.iaload, 1) := by decide +kernel
theorem dX7_change_6 : decode cX7_change 6 = .ok (.istore_n 3, 1) := by decide +kernel
theorem dX7_change_7 : decode cX7_change 7 = .ok (.aload_n 0, 1) := by decide +kernel
theorem dX7_change_8 : decode cX7_change 8 = .ok (.getfield 23, 3) := by decide +kernel
theorem dX7_change_11 : decode cX7_change 11 = .ok (.iload_n 1, 1) := by decide +kernel
theorem dX7_change_12 : decode cX7_change 12 = .ok (.aload_n 0, 1) := by decide +kernel
theorem dX7_change_13 : decode cX7_change 13 = .ok (.getfield 23, 3) := by decide +kernel
theorem dX7_change_16 : decode cX7_change 16 = .ok (.iload_n 2, 1) := by decide +kernel
theorem dX7_change_17 : decode cX7_change 17 = .ok (.iaload, 1) := by decide +kernel
theorem dX7_change_18 : decode cX7_change 18 = .ok (.iastore, 1) := by decide +kernel
theorem dX7_change_19 : decode cX7_change 19 = .ok (.aload_n 0, 1) := by decide +kernel
theorem dX7_change_20 : decode cX7_change 20 = .ok (.getfield 23, 3) := by decide +kernel
theorem dX7_change_23 : decode cX7_change 23 = .ok (.iload_n 2, 1) := by decide +kernel
theorem dX7_change_24 : decode cX7_change 24 = .ok (.iload_n 3, 1) := by decide +kernel
theorem dX7_change_25 : decode cX7_change 25 = .ok (.iastore, 1) := by decide +kernel
theorem dX7_change_26 : decode cX7_change 26 = .ok (.return_, 1) := by decide +kernel
theorem dX7_lots_0 : decode cX7_lots 0 = .ok (.aload_n 0, 1) := by decide +kernel
theorem dX7_lots_1 : decode cX7_lots 1 = .ok (.bipush 20, 2) := by decide +kernel
theorem dX7_lots_3 : decode cX7_lots 3 = .ok (.bipush 10, 2) := by decide +kernel
theorem dX7_lots_5 : decode cX7_lots 5 = .ok (.invokevirtual 325, 3) := by decide +kernel
theorem dX7_lots_8 : decode cX7_lots 8 = .ok (.istore_n 1, 1) := by decide +kernel
theorem dX7_lots_9 : decode cX7_lots 9 = .ok (.bipush (-5), 2) := by decide +kernel
theorem dX7_lots_11 : decode cX7_lots 11 = .ok (.istore_n 2, 1) := by decide +kernel
theorem dX7_lots_12 : decode cX7_lots 12 = .ok (.iconst 0, 1) := by decide +kernel
theorem dX7_lots_13 : decode cX7_lots 13 = .ok (.istore_n 3, 1) := by decide +kernel
theorem dX7_lots_14 : decode cX7_lots 14 = .ok (.iload_n 3, 1) := by decide +kernel
theorem dX7_lots_15 : decode cX7_lots 15 = .ok (.aload_n 0, 1) := by decide +kernel
theorem dX7_lots_16 : decode cX7_lots 16 = .ok (.getfield 7, 3) := by decide +kernel
theorem dX7_lots_19 : decode cX7_lots 19 = .ok (.if_icmp .ge 73, 3) := by decide +kernel
theorem dX7_lots_22 : decode cX7_lots 22 = .ok (.iload_n 3, 1) := by decide +kernel
theorem dX7_lots_23 : decode cX7_lots 23 = .ok (.iconst 1, 1) := by decide +kernel
theorem dX7_lots_24 : decode cX7_lots 24 = .ok (.iadd, 1) := by decide +kernel
theorem dX7_lots_25 : decode cX7_lots 25 = .ok (.istore 4, 2) := by decide +kernel
theorem dX7_lots_27 : decode cX7_lots 27 = .ok (.iload 4, 2) := by decide +kernel
theorem dX7_lots_29 : decode cX7_lots 29 = .ok (.aload_n 0, 1) := by decide +kernel
theorem dX7_lots_30 : decode cX7_lots 30 = .ok (.getfield 7, 3) := by decide +kernel
theorem dX7_lots_33 : decode cX7_lots 33 = .ok (.if_icmp .ge 53, 3) := by decide +kernel
theorem dX7_lots_36 : decode cX7_lots 36 = .ok (.aload_n 0, 1) := by decide +kernel
theorem dX7_lots_37 : decode cX7_lots 37 = .ok (.iload_n 3, 1) := by decide +kernel
theorem dX7_lots_38 : decode cX7_lots 38 = .ok (.iload 4, 2) := by decide +kernel
theorem dX7_lots_40 : decode cX7_lots 40 = .ok (.invokevirtual 344, 3) := by decide +kernel
theorem dX7_lots_43 : decode cX7_lots 43 = .ok (.aload_n 0, 1) := by decide +kernel
theorem dX7_lots_44 : decode cX7_lots 44 = .ok (.bipush 20, 2) := by decide +kernel
theorem dX7_lots_46 : decode cX7_lots 46 = .ok (.bipush 10, 2) := by decide +kernel
theorem dX7_lots_48 : decode cX7_lots 48 = .ok (.invokevirtual 325, 3) := by decide +kernel
theorem dX7_lots_51 : decode cX7_lots 51 = .ok (.istore 5, 2) := by decide +kernel
theorem dX7_lots_53 : decode cX7_lots 53 = .ok (.aload_n 0, 1) := by decide +kernel
theorem dX7_lots_54 : decode cX7_lots 54 = .ok (.iload_n 3, 1) := by decide +kernel
theorem dX7_lots_55 : decode cX7_lots 55 = .ok (.iload 4, 2) := by decide +kernel
theorem dX7_lots_57 : decode cX7_lots 57 = .ok (.invokevirtual 344, 3) := by decide +kernel
theorem dX7_lots_60 : decode cX7_lots 60 = .ok (.iload 5, 2) := by decide +kernel
theorem dX7_lots_62 : decode cX7_lots 62 = .ok (.iload_n 1, 1) := by decide +kernel
theorem dX7_lots_63 : decode cX7_lots 63 = .ok (.if_icmp .gt 6, 3) := by decide +kernel
theorem dX7_lots_66 : decode cX7_lots 66 = .ok (.goto 14, 3) := by decide +kernel
theorem dX7_lots_69 : decode cX7_lots 69 = .ok (.bipush 10, 2) := by decide +kernel
theorem dX7_lots_71 : decode cX7_lots 71 = .ok (.iload_n 3, 1) := by decide +kernel
theorem dX7_lots_72 : decode cX7_lots 72 = .ok (.imul, 1) := by decide +kernel
theorem dX7_lots_73 : decode cX7_lots 73 = .ok (.iload 4, 2) := by decide +kernel
theorem dX7_lots_75 : decode cX7_lots 75 = .ok (.iadd, 1) := by decide +kernel
theorem dX7_lots_76 : decode cX7_lots 76 = .ok (.istore_n 2, 1) := by decide +kernel
theorem dX7_lots_77 : decode cX7_lots 77 = .ok (.iload 5, 2) := by decide +kernel
theorem dX7_lots_79 : decode cX7_lots 79 = .ok (.istore_n 1, 1) := by decide +kernel
theorem dX7_lots_80 : decode cX7_lots 80 = .ok (.iinc 4 1, 3) := by decide +kernel
theorem dX7_lots_83 : decode cX7_lots 83 = .ok (.goto (-56), 3) := by decide +kernel
theorem dX7_lots_86 : decode cX7_lots 86 = .ok (.iinc 3 1, 3) := by decide +kernel
theorem dX7_lots_89 : decode cX7_lots 89 = .ok (.goto (-75), 3) := by decide +kernel
theorem dX7_lots_92 : decode cX7_lots 92 = .ok (.iload_n 2, 1) := by decide +kernel
theorem dX7_lots_93 : decode cX7_lots 93 = .ok (.ireturn, 1) := by decide +kernel
theorem dX7_opens_0 : decode cX7_opens 0 = .ok (.aload_n 0, 1) := by decide +kernel
theorem dX7_opens_1 : decode cX7_opens 1 = .ok (.getfield 7, 3) := by decide +kernel
theorem dX7_opens_4 : decode cX7_opens 4 = .ok (.istore_n 2, 1) := by decide +kernel
theorem dX7_opens_5 : decode cX7_opens 5 = .ok (.iload_n 2, 1) := by decide +kernel
theorem dX7_opens_6 : decode cX7_opens 6 = .ok (.iload_n 1, 1) := by decide +kernel
theorem dX7_opens_7 : decode cX7_opens 7 = .ok (.if_icmp .le 17, 3) := by decide +kernel
theorem dX7_opens_10 : decode cX7_opens 10 = .ok (.aload_n 0, 1) := by decide +kernel
theorem dX7_opens_11 : decode cX7_opens 11 = .ok (.iload_n 2, 1) := by decide +kernel
theorem dX7_opens_12 : decode cX7_opens 12 = .ok (.iload_n 2, 1) := by decide +kernel
theorem dX7_opens_13 : decode cX7_opens 13 = .ok (.iconst 1, 1) := by decide +kernel
theorem dX7_opens_14 : decode cX7_opens 14 = .ok (.isub, 1) := by decide +kernel
theorem dX7_opens_15 : decode cX7_opens 15 = .ok (.invokevirtual 347, 3) := by decide +kernel
theorem dX7_opens_18 : decode cX7_opens 18 = .ok (.iinc 2 (-1), 3) := by decide +kernel
theorem dX7_opens_21 : decode cX7_opens 21 = .ok (.goto (-16), 3) := by decide +kernel
theorem dX7_opens_24 : decode cX7_opens 24 = .ok (.aload_n 0, 1) := by decide +kernel
theorem dX7_opens_25 : decode cX7_opens 25 = .ok (.dup, 1) := by decide +kernel
theorem dX7_opens_26 : decode cX7_opens 26 = .ok (.getfield 7, 3) := by decide +kernel
theorem dX7_opens_29 : decode cX7_opens 29 = .ok (.iconst 1, 1) := by decide +kernel
theorem dX7_opens_30 : decode cX7_opens 30 = .ok (.iadd, 1) := by decide +kernel
theorem dX7_opens_31 : decode cX7_opens 31 = .ok (.putfield 7, 3) := by decide +kernel
theorem dX7_opens_34 : decode cX7_opens 34 = .ok (.return_, 1) := by decide +kernel
theorem dX7_closes_0 : decode cX7_closes 0 = .ok (.aload_n 0, 1) := by decide +kernel
theorem dX7_closes_1 : decode cX7_closes 1 = .ok (.dup, 1) := by decide +kernel
theorem dX7_closes_2 : decode cX7_closes 2 = .ok (.getfield 7, 3) := by decide +kernel
theorem dX7_closes_5 : decode cX7_closes 5 = .ok (.iconst 1, 1) := by decide +kernel
theorem dX7_closes_6 : decode cX7_closes 6 = .ok (.isub, 1) := by decide +kernel
theorem dX7_closes_7 : decode cX7_closes 7 = .ok (.putfield 7, 3) := by decide +kernel
theorem dX7_closes_10 : decode cX7_closes 10 = .ok (.iload_n 1, 1) := by decide +kernel
theorem dX7_closes_11 : decode cX7_closes 11 = .ok (.istore_n 2, 1) := by decide +kernel
theorem dX7_closes_12 : decode cX7_closes 12 = .ok (.iload_n 2, 1) := by decide +kernel
theorem dX7_closes_13 : decode cX7_closes 13 = .ok (.aload_n 0, 1) := by decide +kernel
theorem dX7_closes_14 : decode cX7_closes 14 = .ok (.getfield 7, 3) := by decide +kernel
theorem dX7_closes_17 : decode cX7_closes 17 = .ok (.if_icmp .ge 17, 3) := by decide +kernel
theorem dX7_closes_20 : decode cX7_closes 20 = .ok (.aload_n 0, 1) := by decide +kernel
theorem dX7_closes_21 : decode cX7_closes 21 = .ok (.iload_n 2, 1) := by decide +kernel
theorem dX7_closes_22 : decode cX7_closes 22 = .ok (.iload_n 2, 1) := by decide +kernel
theorem dX7_closes_23 : decode cX7_closes 23 = .ok (.iconst 1, 1) := by decide +kernel
theorem dX7_closes_24 : decode cX7_closes 24 = .ok (.iadd, 1) := by decide +kernel
theorem dX7_closes_25 : decode cX7_closes 25 = .ok (.invokevirtual 347, 3) := by decide +kernel
theorem dX7_closes_28 : decode cX7_closes 28 = .ok (.iinc 2 1, 3) := by decide +kernel
theorem dX7_closes_31 : decode cX7_closes 31 = .ok (.goto (-19), 3) := by decide +kernel
theorem dX7_closes_34 : decode cX7_closes 34 = .ok (.return_, 1) := by decide +kernel
theorem dX7_build_0 : decode cX7_build 0 = .ok (.aload_n 0, 1) := by decide +kernel
theorem dX7_build_1 : decode cX7_build 1 = .ok (.iload_n 1, 1) := by decide +kernel
theorem dX7_build_2 : decode cX7_build 2 = .ok (.iconst 0, 1) := by decide +kernel
theorem dX7_build_3 : decode cX7_build 3 = .ok (.bipush 6, 2) := by decide +kernel
theorem dX7_build_5 : decode cX7_build 5 = .ok (.invokevirtual 197, 3) := by decide +kernel
theorem dX7_build_8 : decode cX7_build 8 = .ok (.ifCond .eq 14, 3) := by decide +kernel
theorem dX7_build_11 : decode cX7_build 11 = .ok (.aload_n 0, 1) := by decide +kernel
theorem dX7_build_12 : decode cX7_build 12 = .ok (.iload 4, 2) := by decide +kernel
theorem dX7_build_14 : decode cX7_build 14 = .ok (.iconst 0, 1) := by decide +kernel
theorem dX7_build_15 : decode cX7_build 15 = .ok (.iconst 1, 1) := by decide +kernel
theorem dX7_build_16 : decode cX7_build 16 = .ok (.invokevirtual 197, 3) := by decide +kernel
theorem dX7_build_19 : decode cX7_build 19 = .ok (.ifCond .ne 5, 3) := by decide +kernel
theorem dX7_build_22 : decode cX7_build 22 = .ok (.iconst (-1), 1) := by decide +kernel
theorem dX7_build_23 : decode cX7_build 23 = .ok (.ireturn, 1) := by decide +kernel
theorem dX7_build_24 : decode cX7_build 24 = .ok (.aload_n 0, 1) := by decide +kernel
theorem dX7_build_25 : decode cX7_build 25 = .ok (.iload_n 2, 1) := by decide +kernel
theorem dX7_build_26 : decode cX7_build 26 = .ok (.iconst 0, 1) := by decide +kernel
theorem dX7_build_27 : decode cX7_build 27 = .ok (.bipush 9, 2) := by decide +kernel
theorem dX7_build_29 : decode cX7_build 29 = .ok (.invokevirtual 197, 3) := by decide +kernel
theorem dX7_build_32 : decode cX7_build 32 = .ok (.ifCond .eq 14, 3) := by decide +kernel
theorem dX7_build_35 : decode cX7_build 35 = .ok (.aload_n 0, 1) := by decide +kernel
theorem dX7_build_36 : decode cX7_build 36 = .ok (.iload_n 3, 1) := by decide +kernel
theorem dX7_build_37 : decode cX7_build 37 = .ok (.iconst 0, 1) := by decide +kernel
theorem dX7_build_38 : decode cX7_build 38 = .ok (.bipush 99, 2) := by decide +kernel
theorem dX7_build_40 : decode cX7_build 40 = .ok (.invokevirtual 197, 3) := by decide +kernel
theorem dX7_build_43 : decode cX7_build 43 = .ok (.ifCond .ne 6, 3) := by decide +kernel
theorem dX7_build_46 : decode cX7_build 46 = .ok (.bipush (-2), 2) := by decide +kernel
theorem dX7_build_48 : decode cX7_build 48 = .ok (.ireturn, 1) := by decide +kernel
theorem dX7_build_49 : decode cX7_build 49 = .ok (.aload_n 0, 1) := by decide +kernel
theorem dX7_build_50 : decode cX7_build 50 = .ok (.getfield 7, 3) := by decide +kernel
theorem dX7_build_53 : decode cX7_build 53 = .ok (.bipush 7, 2) := by decide +kernel
theorem dX7_build_55 : decode cX7_build 55 = .ok (.if_icmp .ne 6, 3) := by decide +kernel
theorem dX7_build_58 : decode cX7_build 58 = .ok (.bipush (-9), 2) := by decide +kernel
theorem dX7_build_60 : decode cX7_build 60 = .ok (.ireturn, 1) := by decide +kernel
theorem dX7_build_61 : decode cX7_build 61 = .ok (.iconst (-1), 1) := by decide +kernel
theorem dX7_build_62 : decode cX7_build 62 = .ok (.istore 5, 2) := by decide +kernel
theorem dX7_build_64 : decode cX7_build 64 = .ok (.iconst 0, 1) := by decide +kernel
theorem dX7_build_65 : decode cX7_build 65 = .ok (.istore 6, 2) := by decide +kernel
theorem dX7_build_67 : decode cX7_build 67 = .ok (.iconst 0, 1) := by decide +kernel
theorem dX7_build_68 : decode cX7_build 68 = .ok (.istore 7, 2) := by decide +kernel
theorem dX7_build_70 : decode cX7_build 70 = .ok (.iload 7, 2) := by decide +kernel
theorem dX7_build_72 : decode cX7_build 72 = .ok (.aload_n 0, 1) := by decide +kernel
theorem dX7_build_73 : decode cX7_build 73 = .ok (.getfield 7, 3) := by decide +kernel
theorem dX7_build_76 : decode cX7_build 76 = .ok (.if_icmp .gt 63, 3) := by decide +kernel
theorem dX7_build_79 : decode cX7_build 79 = .ok (.aload_n 0, 1) := by decide +kernel
theorem dX7_build_80 : decode cX7_build 80 = .ok (.iload 7, 2) := by decide +kernel
theorem dX7_build_82 : decode cX7_build 82 = .ok (.invokevirtual 350, 3) := by decide +kernel
theorem dX7_build_85 : decode cX7_build 85 = .ok (.aload_n 0, 1) := by decide +kernel
theorem dX7_build_86 : decode cX7_build 86 = .ok (.iload 7, 2) := by decide +kernel
theorem dX7_build_88 : decode cX7_build 88 = .ok (.iload_n 1, 1) := by decide +kernel
theorem dX7_build_89 : decode cX7_build 89 = .ok (.iload_n 2, 1) := by decide +kernel
theorem dX7_build_90 : decode cX7_build 90 = .ok (.iload_n 3, 1) := by decide +kernel
theorem dX7_build_91 : decode cX7_build 91 = .ok (.invokevirtual 201, 3) := by decide +kernel
theorem dX7_build_94 : decode cX7_build 94 = .ok (.aload_n 0, 1) := by decide +kernel
theorem dX7_build_95 : decode cX7_build 95 = .ok (.bipush 20, 2) := by decide +kernel
theorem dX7_build_97 : decode cX7_build 97 = .ok (.bipush 10, 2) := by decide +kernel
theorem dX7_build_99 : decode cX7_build 99 = .ok (.invokevirtual 325, 3) := by decide +kernel
theorem dX7_build_102 : decode cX7_build 102 = .ok (.istore 8, 2) := by decide +kernel
theorem dX7_build_104 : decode cX7_build 104 = .ok (.aload_n 0, 1) := by decide +kernel
theorem dX7_build_105 : decode cX7_build 105 = .ok (.iload 7, 2) := by decide +kernel
theorem dX7_build_107 : decode cX7_build 107 = .ok (.invokevirtual 353, 3) := by decide +kernel
theorem dX7_build_110 : decode cX7_build 110 = .ok (.iload 5, 2) := by decide +kernel
theorem dX7_build_112 : decode cX7_build 112 = .ok (.ifCond .lt 13, 3) := by decide +kernel
theorem dX7_build_115 : decode cX7_build 115 = .ok (.iload 8, 2) := by decide +kernel
theorem dX7_build_117 : decode cX7_build 117 = .ok (.iload 6, 2) := by decide +kernel
theorem dX7_build_119 : decode cX7_build 119 = .ok (.if_icmp .gt 6, 3) := by decide +kernel
theorem dX7_build_122 : decode cX7_build 122 = .ok (.goto 11, 3) := by decide +kernel
theorem dX7_build_125 : decode cX7_build 125 = .ok (.iload 7, 2) := by decide +kernel
theorem dX7_build_127 : decode cX7_build 127 = .ok (.istore 5, 2) := by decide +kernel
theorem dX7_build_129 : decode cX7_build 129 = .ok (.iload 8, 2) := by decide +kernel
theorem dX7_build_131 : decode cX7_build 131 = .ok (.istore 6, 2) := by decide +kernel
theorem dX7_build_133 : decode cX7_build 133 = .ok (.iinc 7 1, 3) := by decide +kernel
theorem dX7_build_136 : decode cX7_build 136 = .ok (.goto (-66), 3) := by decide +kernel
theorem dX7_build_139 : decode cX7_build 139 = .ok (.iload 4, 2) := by decide +kernel
theorem dX7_build_141 : decode cX7_build 141 = .ok (.ifCond .ne 8, 3) := by decide +kernel
theorem dX7_build_144 : decode cX7_build 144 = .ok (.iload 5, 2) := by decide +kernel
theorem dX7_build_146 : decode cX7_build 146 = .ok (.goto 5, 3) := by decide +kernel
theorem dX7_build_149 : decode cX7_build 149 = .ok (.iload 6, 2) := by decide +kernel
theorem dX7_build_151 : decode cX7_build 151 = .ok (.ireturn, 1) := by decide +kernel
theorem dX7_down_0 : decode cX7_down 0 = .ok (.aload_n 0, 1) := by decide +kernel
theorem dX7_down_1 : decode cX7_down 1 = .ok (.iload_n 1, 1) := by decide +kernel
theorem dX7_down_2 : decode cX7_down 2 = .ok (.iconst 0, 1) := by decide +kernel
theorem dX7_down_3 : decode cX7_down 3 = .ok (.iconst 1, 1) := by decide +kernel
theorem dX7_down_4 : decode cX7_down 4 = .ok (.invokevirtual 197, 3) := by decide +kernel
theorem dX7_down_7 : decode cX7_down 7 = .ok (.ifCond .ne 5, 3) := by decide +kernel
theorem dX7_down_10 : decode cX7_down 10 = .ok (.iconst (-1), 1) := by decide +kernel
theorem dX7_down_11 : decode cX7_down 11 = .ok (.ireturn, 1) := by decide +kernel
theorem dX7_down_12 : decode cX7_down 12 = .ok (.bipush (-5), 2) := by decide +kernel
theorem dX7_down_14 : decode cX7_down 14 = .ok (.istore_n 2, 1) := by decide +kernel
theorem dX7_down_15 : decode cX7_down 15 = .ok (.iconst 0, 1) := by decide +kernel
theorem dX7_down_16 : decode cX7_down 16 = .ok (.istore_n 3, 1) := by decide +kernel
theorem dX7_down_17 : decode cX7_down 17 = .ok (.iconst 0, 1) := by decide +kernel
theorem dX7_down_18 : decode cX7_down 18 = .ok (.istore 4, 2) := by decide +kernel
theorem dX7_down_20 : decode cX7_down 20 = .ok (.iload 4, 2) := by decide +kernel
theorem dX7_down_22 : decode cX7_down 22 = .ok (.aload_n 0, 1) := by decide +kernel
theorem dX7_down_23 : decode cX7_down 23 = .ok (.getfield 7, 3) := by decide +kernel
theorem dX7_down_26 : decode cX7_down 26 = .ok (.if_icmp .ge 58, 3) := by decide +kernel
theorem dX7_down_29 : decode cX7_down 29 = .ok (.aload_n 0, 1) := by decide +kernel
theorem dX7_down_30 : decode cX7_down 30 = .ok (.bipush 7, 2) := by decide +kernel
theorem dX7_down_32 : decode cX7_down 32 = .ok (.iload 4, 2) := by decide +kernel
theorem dX7_down_34 : decode cX7_down 34 = .ok (.invokevirtual 347, 3) := by decide +kernel
theorem dX7_down_37 : decode cX7_down 37 = .ok (.aload_n 0, 1) := by decide +kernel
theorem dX7_down_38 : decode cX7_down 38 = .ok (.iload 4, 2) := by decide +kernel
theorem dX7_down_40 : decode cX7_down 40 = .ok (.invokevirtual 353, 3) := by decide +kernel
theorem dX7_down_43 : decode cX7_down 43 = .ok (.aload_n 0, 1) := by decide +kernel
theorem dX7_down_44 : decode cX7_down 44 = .ok (.bipush 20, 2) := by decide +kernel
theorem dX7_down_46 : decode cX7_down 46 = .ok (.bipush 10, 2) := by decide +kernel
theorem dX7_down_48 : decode cX7_down 48 = .ok (.invokevirtual 325, 3) := by decide +kernel
theorem dX7_down_51 : decode cX7_down 51 = .ok (.istore 5, 2) := by decide +kernel
theorem dX7_down_53 : decode cX7_down 53 = .ok (.aload_n 0, 1) := by decide +kernel
theorem dX7_down_54 : decode cX7_down 54 = .ok (.iload 4, 2) := by decide +kernel
theorem dX7_down_56 : decode cX7_down 56 = .ok (.invokevirtual 356, 3) := by decide +kernel
theorem dX7_down_59 : decode cX7_down 59 = .ok (.iload_n 2, 1) := by decide +kernel
theorem dX7_down_60 : decode cX7_down 60 = .ok (.ifCond .lt 12, 3) := by decide +kernel
theorem dX7_down_63 : decode cX7_down 63 = .ok (.iload 5, 2) := by decide +kernel
theorem dX7_down_65 : decode cX7_down 65 = .ok (.iload_n 3, 1) := by decide +kernel
theorem dX7_down_66 : decode cX7_down 66 = .ok (.if_icmp .gt 6, 3) := by decide +kernel
theorem dX7_down_69 : decode cX7_down 69 = .ok (.goto 9, 3) := by decide +kernel
theorem dX7_down_72 : decode cX7_down 72 = .ok (.iload 4, 2) := by decide +kernel
theorem dX7_down_74 : decode cX7_down 74 = .ok (.istore_n 2, 1) := by decide +kernel
theorem dX7_down_75 : decode cX7_down 75 = .ok (.iload 5, 2) := by decide +kernel
theorem dX7_down_77 : decode cX7_down 77 = .ok (.istore_n 3, 1) := by decide +kernel
theorem dX7_down_78 : decode cX7_down 78 = .ok (.iinc 4 1, 3) := by decide +kernel
theorem dX7_down_81 : decode cX7_down 81 = .ok (.goto (-61), 3) := by decide +kernel
theorem dX7_down_84 : decode cX7_down 84 = .ok (.iload_n 2, 1) := by decide +kernel
theorem dX7_down_85 : decode cX7_down 85 = .ok (.ifCond .lt 7, 3) := by decide +kernel
theorem dX7_down_88 : decode cX7_down 88 = .ok (.iload_n 1, 1) := by decide +kernel
theorem dX7_down_89 : decode cX7_down 89 = .ok (.ifCond .ne 7, 3) := by decide +kernel
theorem dX7_down_92 : decode cX7_down 92 = .ok (.iload_n 2, 1) := by decide +kernel
theorem dX7_down_93 : decode cX7_down 93 = .ok (.goto 4, 3) := by decide +kernel
theorem dX7_down_96 : decode cX7_down 96 = .ok (.iload_n 3, 1) := by decide +kernel
theorem dX7_down_97 : decode cX7_down 97 = .ok (.ireturn, 1) := by decide +kernel
theorem dX7_opensWith_0 : decode cX7_opensWith 0 = .ok (.aload_n 0, 1) := by decide +kernel
theorem dX7_opensWith_1 : decode cX7_opensWith 1 = .ok (.iload_n 1, 1) := by decide +kernel
theorem dX7_opensWith_2 : decode cX7_opensWith 2 = .ok (.invokevirtual 350, 3) := by decide +kernel
theorem dX7_opensWith_5 : decode cX7_opensWith 5 = .ok (.aload_n 0, 1) := by decide +kernel
theorem dX7_opensWith_6 : decode cX7_opensWith 6 = .ok (.iload_n 1, 1) := by decide +kernel
theorem dX7_opensWith_7 : decode cX7_opensWith 7 = .ok (.bipush 7, 2) := by decide +kernel
theorem dX7_opensWith_9 : decode cX7_opensWith 9 = .ok (.invokevirtual 347, 3) := by decide +kernel
theorem dX7_opensWith_12 : decode cX7_opensWith 12 = .ok (.return_, 1) := by decide +kernel
theorem dX7_layValues_0 : decode cX7_layValues 0 = .ok (.aload_n 0, 1) := by decide +kernel
theorem dX7_layValues_1 : decode cX7_layValues 1 = .ok (.iconst 0, 1) := by decide +kernel
theorem dX7_layValues_2 : decode cX7_layValues 2 = .ok (.putfield 120, 3) := by decide +kernel
theorem dX7_layValues_5 : decode cX7_layValues 5 = .ok (.iconst 0, 1) := by decide +kernel
theorem dX7_layValues_6 : decode cX7_layValues 6 = .ok (.istore_n 1, 1) := by decide +kernel
theorem dX7_layValues_7 : decode cX7_layValues 7 = .ok (.iload_n 1, 1) := by decide +kernel
theorem dX7_layValues_8 : decode cX7_layValues 8 = .ok (.bipush 100, 2) := by decide +kernel
theorem dX7_layValues_10 : decode cX7_layValues 10 = .ok (.if_icmp .ge 74, 3) := by decide +kernel
theorem dX7_layValues_13 : decode cX7_layValues 13 = .ok (.iconst 0, 1) := by decide +kernel
theorem dX7_layValues_14 : decode cX7_layValues 14 = .ok (.istore_n 2, 1) := by decide +kernel
theorem dX7_layValues_15 : decode cX7_layValues 15 = .ok (.iconst 0, 1) := by decide +kernel
theorem dX7_layValues_16 : decode cX7_layValues 16 = .ok (.istore_n 3, 1) := by decide +kernel
theorem dX7_layValues_17 : decode cX7_layValues 17 = .ok (.iload_n 3, 1) := by decide +kernel
theorem dX7_layValues_18 : decode cX7_layValues 18 = .ok (.aload_n 0, 1) := by decide +kernel
theorem dX7_layValues_19 : decode cX7_layValues 19 = .ok (.getfield 7, 3) := by decide +kernel
theorem dX7_layValues_22 : decode cX7_layValues 22 = .ok (.if_icmp .ge 29, 3) := by decide +kernel
theorem dX7_layValues_25 : decode cX7_layValues 25 = .ok (.iload_n 2, 1) := by decide +kernel
theorem dX7_layValues_26 : decode cX7_layValues 26 = .ok (.ifCond .ne 13, 3) := by decide +kernel
theorem dX7_layValues_29 : decode cX7_layValues 29 = .ok (.aload_n 0, 1) := by decide +kernel
theorem dX7_layValues_30 : decode cX7_layValues 30 = .ok (.getfield 23, 3) := by decide +kernel
theorem dX7_layValues_33 : decode cX7_layValues 33 = .ok (.iload_n 3, 1) := by decide +kernel
theorem dX7_layValues_34 : decode cX7_layValues 34 = .ok (.iaload, 1) := by decide +kernel
theorem dX7_layValues_35 : decode cX7_layValues 35 = .ok (.iload_n 1, 1) := by decide +kernel
theorem dX7_layValues_36 : decode cX7_layValues 36 = .ok (.if_icmp .ne 7, 3) := by decide +kernel
theorem dX7_layValues_39 : decode cX7_layValues 39 = .ok (.iconst 1, 1) := by decide +kernel
theorem dX7_layValues_40 : decode cX7_layValues 40 = .ok (.goto 4, 3) := by decide +kernel
theorem dX7_layValues_43 : decode cX7_layValues 43 = .ok (.iconst 0, 1) := by decide +kernel
theorem dX7_layValues_44 : decode cX7_layValues 44 = .ok (.istore_n 2, 1) := by decide +kernel
theorem dX7_layValues_45 : decode cX7_layValues 45 = .ok (.iinc 3 1, 3) := by decide +kernel
theorem dX7_layValues_48 : decode cX7_layValues 48 = .ok (.goto (-31), 3) := by decide +kernel
theorem dX7_layValues_51 : decode cX7_layValues 51 = .ok (.iload_n 2, 1) := by decide +kernel
theorem dX7_layValues_52 : decode cX7_layValues 52 = .ok (.ifCond .ne 6, 3) := by decide +kernel
theorem dX7_layValues_55 : decode cX7_layValues 55 = .ok (.goto 23, 3) := by decide +kernel
theorem dX7_layValues_58 : decode cX7_layValues 58 = .ok (.aload_n 0, 1) := by decide +kernel
theorem dX7_layValues_59 : decode cX7_layValues 59 = .ok (.getfield 108, 3) := by decide +kernel
theorem dX7_layValues_62 : decode cX7_layValues 62 = .ok (.aload_n 0, 1) := by decide +kernel
theorem dX7_layValues_63 : decode cX7_layValues 63 = .ok (.getfield 120, 3) := by decide +kernel
theorem dX7_layValues_66 : decode cX7_layValues 66 = .ok (.iload_n 1, 1) := by decide +kernel
theorem dX7_layValues_67 : decode cX7_layValues 67 = .ok (.iastore, 1) := by decide +kernel
theorem dX7_layValues_68 : decode cX7_layValues 68 = .ok (.aload_n 0, 1) := by decide +kernel
theorem dX7_layValues_69 : decode cX7_layValues 69 = .ok (.dup, 1) := by decide +kernel
theorem dX7_layValues_70 : decode cX7_layValues 70 = .ok (.getfield 120, 3) := by decide +kernel
theorem dX7_layValues_73 : decode cX7_layValues 73 = .ok (.iconst 1, 1) := by decide +kernel
theorem dX7_layValues_74 : decode cX7_layValues 74 = .ok (.iadd, 1) := by decide +kernel
theorem dX7_layValues_75 : decode cX7_layValues 75 = .ok (.putfield 120, 3) := by decide +kernel
theorem dX7_layValues_78 : decode cX7_layValues 78 = .ok (.iinc 1 1, 3) := by decide +kernel
theorem dX7_layValues_81 : decode cX7_layValues 81 = .ok (.goto (-74), 3) := by decide +kernel
theorem dX7_layValues_84 : decode cX7_layValues 84 = .ok (.return_, 1) := by decide +kernel
theorem dX7_nextRow_0 : decode cX7_nextRow 0 = .ok (.aload_n 0, 1) := by decide +kernel
theorem dX7_nextRow_1 : decode cX7_nextRow 1 = .ok (.getfield 7, 3) := by decide +kernel
theorem dX7_nextRow_4 : decode cX7_nextRow 4 = .ok (.iconst 1, 1) := by decide +kernel
theorem dX7_nextRow_5 : decode cX7_nextRow 5 = .ok (.isub, 1) := by decide +kernel
theorem dX7_nextRow_6 : decode cX7_nextRow 6 = .ok (.istore_n 1, 1) := by decide +kernel
theorem dX7_nextRow_7 : decode cX7_nextRow 7 = .ok (.iload_n 1, 1) := by decide +kernel
theorem dX7_nextRow_8 : decode cX7_nextRow 8 = .ok (.ifCond .lt 41, 3) := by decide +kernel
theorem dX7_nextRow_11 : decode cX7_nextRow 11 = .ok (.aload_n 0, 1) := by decide +kernel
theorem dX7_nextRow_12 : decode cX7_nextRow 12 = .ok (.getfield 117, 3) := by decide +kernel
theorem dX7_nextRow_15 : decode cX7_nextRow 15 = .ok (.iload_n 1, 1) := by decide +kernel
theorem dX7_nextRow_16 : decode cX7_nextRow 16 = .ok (.dup2, 1) := by decide +kernel
theorem dX7_nextRow_17 : decode cX7_nextRow 17 = .ok (.iaload, 1) := by decide +kernel
theorem dX7_nextRow_18 : decode cX7_nextRow 18 = .ok (.iconst 1, 1) := by decide +kernel
theorem dX7_nextRow_19 : decode cX7_nextRow 19 = .ok (.iadd, 1) := by decide +kernel
theorem dX7_nextRow_20 : decode cX7_nextRow 20 = .ok (.iastore, 1) := by decide +kernel
theorem dX7_nextRow_21 : decode cX7_nextRow 21 = .ok (.aload_n 0, 1) := by decide +kernel
theorem dX7_nextRow_22 : decode cX7_nextRow 22 = .ok (.getfield 117, 3) := by decide +kernel
theorem dX7_nextRow_25 : decode cX7_nextRow 25 = .ok (.iload_n 1, 1) := by decide +kernel
theorem dX7_nextRow_26 : decode cX7_nextRow 26 = .ok (.iaload, 1) := by decide +kernel
theorem dX7_nextRow_27 : decode cX7_nextRow 27 = .ok (.aload_n 0, 1) := by decide +kernel
theorem dX7_nextRow_28 : decode cX7_nextRow 28 = .ok (.getfield 120, 3) := by decide +kernel
theorem dX7_nextRow_31 : decode cX7_nextRow 31 = .ok (.if_icmp .ge 5, 3) := by decide +kernel
theorem dX7_nextRow_34 : decode cX7_nextRow 34 = .ok (.iconst 1, 1) := by decide +kernel
theorem dX7_nextRow_35 : decode cX7_nextRow 35 = .ok (.ireturn, 1) := by decide +kernel
theorem dX7_nextRow_36 : decode cX7_nextRow 36 = .ok (.aload_n 0, 1) := by decide +kernel
theorem dX7_nextRow_37 : decode cX7_nextRow 37 = .ok (.getfield 117, 3) := by decide +kernel
theorem dX7_nextRow_40 : decode cX7_nextRow 40 = .ok (.iload_n 1, 1) := by decide +kernel
theorem dX7_nextRow_41 : decode cX7_nextRow 41 = .ok (.iconst 0, 1) := by decide +kernel
theorem dX7_nextRow_42 : decode cX7_nextRow 42 = .ok (.iastore, 1) := by decide +kernel
theorem dX7_nextRow_43 : decode cX7_nextRow 43 = .ok (.iinc 1 (-1), 3) := by decide +kernel
theorem dX7_nextRow_46 : decode cX7_nextRow 46 = .ok (.goto (-39), 3) := by decide +kernel
theorem dX7_nextRow_49 : decode cX7_nextRow 49 = .ok (.iconst 0, 1) := by decide +kernel
theorem dX7_nextRow_50 : decode cX7_nextRow 50 = .ok (.ireturn, 1) := by decide +kernel
theorem dX7_bringsNow_0 : decode cX7_bringsNow 0 = .ok (.iconst 0, 1) := by decide +kernel
theorem dX7_bringsNow_1 : decode cX7_bringsNow 1 = .ok (.istore_n 1, 1) := by decide +kernel
theorem dX7_bringsNow_2 : decode cX7_bringsNow 2 = .ok (.iload_n 1, 1) := by decide +kernel
theorem dX7_bringsNow_3 : decode cX7_bringsNow 3 = .ok (.aload_n 0, 1) := by decide +kernel
theorem dX7_bringsNow_4 : decode cX7_bringsNow 4 = .ok (.getfield 7, 3) := by decide +kernel
theorem dX7_bringsNow_7 : decode cX7_bringsNow 7 = .ok (.if_icmp .ge 26, 3) := by decide +kernel
theorem dX7_bringsNow_10 : decode cX7_bringsNow 10 = .ok (.aload_n 0, 1) := by decide +kernel
theorem dX7_bringsNow_11 : decode cX7_bringsNow 11 = .ok (.getfield 23, 3) := by decide +kernel
theorem dX7_bringsNow_14 : decode cX7_bringsNow 14 = .ok (.iload_n 1, 1) := by decide +kernel
theorem dX7_bringsNow_15 : decode cX7_bringsNow 15 = .ok (.aload_n 0, 1) := by decide +kernel
theorem dX7_bringsNow_16 : decode cX7_bringsNow 16 = .ok (.getfield 108, 3) := by decide +kernel
theorem dX7_bringsNow_19 : decode cX7_bringsNow 19 = .ok (.aload_n 0, 1) := by decide +kernel
theorem dX7_bringsNow_20 : decode cX7_bringsNow 20 = .ok (.getfield 117, 3) := by decide +kernel
theorem dX7_bringsNow_23 : decode cX7_bringsNow 23 = .ok (.iload_n 1, 1) := by decide +kernel
theorem dX7_bringsNow_24 : decode cX7_bringsNow 24 = .ok (.iaload, 1) := by decide +kernel
theorem dX7_bringsNow_25 : decode cX7_bringsNow 25 = .ok (.iaload, 1) := by decide +kernel
theorem dX7_bringsNow_26 : decode cX7_bringsNow 26 = .ok (.iastore, 1) := by decide +kernel
theorem dX7_bringsNow_27 : decode cX7_bringsNow 27 = .ok (.iinc 1 1, 3) := by decide +kernel
theorem dX7_bringsNow_30 : decode cX7_bringsNow 30 = .ok (.goto (-28), 3) := by decide +kernel
theorem dX7_bringsNow_33 : decode cX7_bringsNow 33 = .ok (.aload_n 0, 1) := by decide +kernel
theorem dX7_bringsNow_34 : decode cX7_bringsNow 34 = .ok (.invokevirtual 313, 3) := by decide +kernel
theorem dX7_bringsNow_37 : decode cX7_bringsNow 37 = .ok (.iconst 0, 1) := by decide +kernel
theorem dX7_bringsNow_38 : decode cX7_bringsNow 38 = .ok (.istore_n 1, 1) := by decide +kernel
theorem dX7_bringsNow_39 : decode cX7_bringsNow 39 = .ok (.iload_n 1, 1) := by decide +kernel
theorem dX7_bringsNow_40 : decode cX7_bringsNow 40 = .ok (.aload_n 0, 1) := by decide +kernel
theorem dX7_bringsNow_41 : decode cX7_bringsNow 41 = .ok (.getfield 7, 3) := by decide +kernel
theorem dX7_bringsNow_44 : decode cX7_bringsNow 44 = .ok (.if_icmp .ge 26, 3) := by decide +kernel
theorem dX7_bringsNow_47 : decode cX7_bringsNow 47 = .ok (.aload_n 0, 1) := by decide +kernel
theorem dX7_bringsNow_48 : decode cX7_bringsNow 48 = .ok (.getfield 93, 3) := by decide +kernel
theorem dX7_bringsNow_51 : decode cX7_bringsNow 51 = .ok (.iload_n 1, 1) := by decide +kernel
theorem dX7_bringsNow_52 : decode cX7_bringsNow 52 = .ok (.iaload, 1) := by decide +kernel
theorem dX7_bringsNow_53 : decode cX7_bringsNow 53 = .ok (.aload_n 0, 1) := by decide +kernel
theorem dX7_bringsNow_54 : decode cX7_bringsNow 54 = .ok (.getfield 111, 3) := by decide +kernel
theorem dX7_bringsNow_57 : decode cX7_bringsNow 57 = .ok (.iload_n 1, 1) := by decide +kernel
theorem dX7_bringsNow_58 : decode cX7_bringsNow 58 = .ok (.iaload, 1) := by decide +kernel
theorem dX7_bringsNow_59 : decode cX7_bringsNow 59 = .ok (.if_icmp .eq 5, 3) := by decide +kernel
theorem dX7_bringsNow_62 : decode cX7_bringsNow 62 = .ok (.iconst 0, 1) := by decide +kernel
theorem dX7_bringsNow_63 : decode cX7_bringsNow 63 = .ok (.ireturn, 1) := by decide +kernel
theorem dX7_bringsNow_64 : decode cX7_bringsNow 64 = .ok (.iinc 1 1, 3) := by decide +kernel
theorem dX7_bringsNow_67 : decode cX7_bringsNow 67 = .ok (.goto (-28), 3) := by decide +kernel
theorem dX7_bringsNow_70 : decode cX7_bringsNow 70 = .ok (.iconst 1, 1) := by decide +kernel
theorem dX7_bringsNow_71 : decode cX7_bringsNow 71 = .ok (.ireturn, 1) := by decide +kernel
theorem dX7_before_0 : decode cX7_before 0 = .ok (.iload_n 1, 1) := by decide +kernel
theorem dX7_before_1 : decode cX7_before 1 = .ok (.iconst (-1), 1) := by decide +kernel
theorem dX7_before_2 : decode cX7_before 2 = .ok (.if_icmp .eq 13, 3) := by decide +kernel
theorem dX7_before_5 : decode cX7_before 5 = .ok (.aload_n 0, 1) := by decide +kernel
theorem dX7_before_6 : decode cX7_before 6 = .ok (.iload_n 1, 1) := by decide +kernel
theorem dX7_before_7 : decode cX7_before 7 = .ok (.invokevirtual 205, 3) := by decide +kernel
theorem dX7_before_10 : decode cX7_before 10 = .ok (.ifCond .ne 5, 3) := by decide +kernel
theorem dX7_before_13 : decode cX7_before 13 = .ok (.iconst (-1), 1) := by decide +kernel
theorem dX7_before_14 : decode cX7_before 14 = .ok (.ireturn, 1) := by decide +kernel
theorem dX7_before_15 : decode cX7_before 15 = .ok (.aload_n 0, 1) := by decide +kernel
theorem dX7_before_16 : decode cX7_before 16 = .ok (.getfield 7, 3) := by decide +kernel
theorem dX7_before_19 : decode cX7_before 19 = .ok (.iconst 4, 1) := by decide +kernel
theorem dX7_before_20 : decode cX7_before 20 = .ok (.if_icmp .le 6, 3) := by decide +kernel
theorem dX7_before_23 : decode cX7_before 23 = .ok (.bipush (-9), 2) := by decide +kernel
theorem dX7_before_25 : decode cX7_before 25 = .ok (.ireturn, 1) := by decide +kernel
theorem dX7_before_26 : decode cX7_before 26 = .ok (.aload_n 0, 1) := by decide +kernel
theorem dX7_before_27 : decode cX7_before 27 = .ok (.getfield 13, 3) := by decide +kernel
theorem dX7_before_30 : decode cX7_before 30 = .ok (.ifCond .ne 6, 3) := by decide +kernel
theorem dX7_before_33 : decode cX7_before 33 = .ok (.bipush (-8), 2) := by decide +kernel
theorem dX7_before_35 : decode cX7_before 35 = .ok (.ireturn, 1) := by decide +kernel
theorem dX7_before_36 : decode cX7_before 36 = .ok (.aload_n 0, 1) := by decide +kernel
theorem dX7_before_37 : decode cX7_before 37 = .ok (.invokevirtual 359, 3) := by decide +kernel
theorem dX7_before_40 : decode cX7_before 40 = .ok (.aload_n 0, 1) := by decide +kernel
theorem dX7_before_41 : decode cX7_before 41 = .ok (.invokevirtual 328, 3) := by decide +kernel
theorem dX7_before_44 : decode cX7_before 44 = .ok (.iconst 0, 1) := by decide +kernel
theorem dX7_before_45 : decode cX7_before 45 = .ok (.istore_n 2, 1) := by decide +kernel
theorem dX7_before_46 : decode cX7_before 46 = .ok (.iload_n 2, 1) := by decide +kernel
theorem dX7_before_47 : decode cX7_before 47 = .ok (.bipush 8, 2) := by decide +kernel
theorem dX7_before_49 : decode cX7_before 49 = .ok (.if_icmp .ge 28, 3) := by decide +kernel
theorem dX7_before_52 : decode cX7_before 52 = .ok (.aload_n 0, 1) := by decide +kernel
theorem dX7_before_53 : decode cX7_before 53 = .ok (.getfield 111, 3) := by decide +kernel
theorem dX7_before_56 : decode cX7_before 56 = .ok (.iload_n 2, 1) := by decide +kernel
theorem dX7_before_57 : decode cX7_before 57 = .ok (.aload_n 0, 1) := by decide +kernel
theorem dX7_before_58 : decode cX7_before 58 = .ok (.getfield 23, 3) := by decide +kernel
theorem dX7_before_61 : decode cX7_before 61 = .ok (.iload_n 2, 1) := by decide +kernel
theorem dX7_before_62 : decode cX7_before 62 = .ok (.iaload, 1) := by decide +kernel
theorem dX7_before_63 : decode cX7_before 63 = .ok (.iastore, 1) := by decide +kernel
theorem dX7_before_64 : decode cX7_before 64 = .ok (.aload_n 0, 1) := by decide +kernel
theorem dX7_before_65 : decode cX7_before 65 = .ok (.getfield 117, 3) := by decide +kernel
theorem dX7_before_68 : decode cX7_before 68 = .ok (.iload_n 2, 1) := by decide +kernel
theorem dX7_before_69 : decode cX7_before 69 = .ok (.iconst 0, 1) := by decide +kernel
theorem dX7_before_70 : decode cX7_before 70 = .ok (.iastore, 1) := by decide +kernel
theorem dX7_before_71 : decode cX7_before 71 = .ok (.iinc 2 1, 3) := by decide +kernel
theorem dX7_before_74 : decode cX7_before 74 = .ok (.goto (-28), 3) := by decide +kernel
theorem dX7_before_77 : decode cX7_before 77 = .ok (.aload_n 0, 1) := by decide +kernel
theorem dX7_before_78 : decode cX7_before 78 = .ok (.dup, 1) := by decide +kernel
theorem dX7_before_79 : decode cX7_before 79 = .ok (.getfield 13, 3) := by decide +kernel
theorem dX7_before_82 : decode cX7_before 82 = .ok (.iconst 1, 1) := by decide +kernel
theorem dX7_before_83 : decode cX7_before 83 = .ok (.isub, 1) := by decide +kernel
theorem dX7_before_84 : decode cX7_before 84 = .ok (.putfield 13, 3) := by decide +kernel
theorem dX7_before_87 : decode cX7_before 87 = .ok (.iconst 0, 1) := by decide +kernel
theorem dX7_before_88 : decode cX7_before 88 = .ok (.istore_n 2, 1) := by decide +kernel
theorem dX7_before_89 : decode cX7_before 89 = .ok (.iconst 1, 1) := by decide +kernel
theorem dX7_before_90 : decode cX7_before 90 = .ok (.istore_n 3, 1) := by decide +kernel
theorem dX7_before_91 : decode cX7_before 91 = .ok (.iload_n 3, 1) := by decide +kernel
theorem dX7_before_92 : decode cX7_before 92 = .ok (.ifCond .eq 57, 3) := by decide +kernel
theorem dX7_before_95 : decode cX7_before 95 = .ok (.aload_n 0, 1) := by decide +kernel
theorem dX7_before_96 : decode cX7_before 96 = .ok (.invokevirtual 362, 3) := by decide +kernel
theorem dX7_before_99 : decode cX7_before 99 = .ok (.ifCond .eq 42, 3) := by decide +kernel
theorem dX7_before_102 : decode cX7_before 102 = .ok (.iconst 0, 1) := by decide +kernel
theorem dX7_before_103 : decode cX7_before 103 = .ok (.istore 4, 2) := by decide +kernel
theorem dX7_before_105 : decode cX7_before 105 = .ok (.iload 4, 2) := by decide +kernel
theorem dX7_before_107 : decode cX7_before 107 = .ok (.aload_n 0, 1) := by decide +kernel
theorem dX7_before_108 : decode cX7_before 108 = .ok (.getfield 7, 3) := by decide +kernel
theorem dX7_before_111 : decode cX7_before 111 = .ok (.if_icmp .ge 27, 3) := by decide +kernel
theorem dX7_before_114 : decode cX7_before 114 = .ok (.iload_n 2, 1) := by decide +kernel
theorem dX7_before_115 : decode cX7_before 115 = .ok (.ifCond .ne 23, 3) := by decide +kernel
theorem dX7_before_118 : decode cX7_before 118 = .ok (.aload_n 0, 1) := by decide +kernel
theorem dX7_before_119 : decode cX7_before 119 = .ok (.getfield 114, 3) := by decide +kernel
theorem dX7_before_122 : decode cX7_before 122 = .ok (.iload 4, 2) := by decide +kernel
theorem dX7_before_124 : decode cX7_before 124 = .ok (.aload_n 0, 1) := by decide +kernel
theorem dX7_before_125 : decode cX7_before 125 = .ok (.getfield 23, 3) := by decide +kernel
theorem dX7_before_128 : decode cX7_before 128 = .ok (.iload 4, 2) := by decide +kernel
theorem dX7_before_130 : decode cX7_before 130 = .ok (.iaload, 1) := by decide +kernel
theorem dX7_before_131 : decode cX7_before 131 = .ok (.iastore, 1) := by decide +kernel
theorem dX7_before_132 : decode cX7_before 132 = .ok (.iinc 4 1, 3) := by decide +kernel
theorem dX7_before_135 : decode cX7_before 135 = .ok (.goto (-30), 3) := by decide +kernel
theorem dX7_before_138 : decode cX7_before 138 = .ok (.iinc 2 1, 3) := by decide +kernel
theorem dX7_before_141 : decode cX7_before 141 = .ok (.aload_n 0, 1) := by decide +kernel
theorem dX7_before_142 : decode cX7_before 142 = .ok (.invokevirtual 365, 3) := by decide +kernel
theorem dX7_before_145 : decode cX7_before 145 = .ok (.istore_n 3, 1) := by decide +kernel
theorem dX7_before_146 : decode cX7_before 146 = .ok (.goto (-55), 3) := by decide +kernel
theorem dX7_before_149 : decode cX7_before 149 = .ok (.aload_n 0, 1) := by decide +kernel
theorem dX7_before_150 : decode cX7_before 150 = .ok (.invokevirtual 334, 3) := by decide +kernel
theorem dX7_before_153 : decode cX7_before 153 = .ok (.iload_n 1, 1) := by decide +kernel
theorem dX7_before_154 : decode cX7_before 154 = .ok (.ifCond .ge 7, 3) := by decide +kernel
theorem dX7_before_157 : decode cX7_before 157 = .ok (.iload_n 2, 1) := by decide +kernel
theorem dX7_before_158 : decode cX7_before 158 = .ok (.goto 18, 3) := by decide +kernel
theorem dX7_before_161 : decode cX7_before 161 = .ok (.iload_n 2, 1) := by decide +kernel
theorem dX7_before_162 : decode cX7_before 162 = .ok (.ifCond .ne 8, 3) := by decide +kernel
theorem dX7_before_165 : decode cX7_before 165 = .ok (.bipush (-5), 2) := by decide +kernel
theorem dX7_before_167 : decode cX7_before 167 = .ok (.goto 9, 3) := by decide +kernel
theorem dX7_before_170 : decode cX7_before 170 = .ok (.aload_n 0, 1) := by decide +kernel
theorem dX7_before_171 : decode cX7_before 171 = .ok (.getfield 114, 3) := by decide +kernel
theorem dX7_before_174 : decode cX7_before 174 = .ok (.iload_n 1, 1) := by decide +kernel
theorem dX7_before_175 : decode cX7_before 175 = .ok (.iaload, 1) := by decide +kernel
theorem dX7_before_176 : decode cX7_before 176 = .ok (.ireturn, 1) := by decide +kernel
theorem dX7_see_0 : decode cX7_see 0 = .ok (.iload_n 1, 1) := by decide +kernel
theorem dX7_see_1 : decode cX7_see 1 = .ok (.iconst (-1), 1) := by decide +kernel
theorem dX7_see_2 : decode cX7_see 2 = .ok (.if_icmp .ne 10, 3) := by decide +kernel
theorem dX7_see_5 : decode cX7_see 5 = .ok (.aload_n 0, 1) := by decide +kernel
theorem dX7_see_6 : decode cX7_see 6 = .ok (.iconst 0, 1) := by decide +kernel
theorem dX7_see_7 : decode cX7_see 7 = .ok (.putfield 123, 3) := by decide +kernel
theorem dX7_see_10 : decode cX7_see 10 = .ok (.iconst 0, 1) := by decide +kernel
theorem dX7_see_11 : decode cX7_see 11 = .ok (.ireturn, 1) := by decide +kernel
theorem dX7_see_12 : decode cX7_see 12 = .ok (.aload_n 0, 1) := by decide +kernel
theorem dX7_see_13 : decode cX7_see 13 = .ok (.iload_n 1, 1) := by decide +kernel
theorem dX7_see_14 : decode cX7_see 14 = .ok (.invokevirtual 205, 3) := by decide +kernel
theorem dX7_see_17 : decode cX7_see 17 = .ok (.ifCond .ne 5, 3) := by decide +kernel
theorem dX7_see_20 : decode cX7_see 20 = .ok (.iconst (-1), 1) := by decide +kernel
theorem dX7_see_21 : decode cX7_see 21 = .ok (.ireturn, 1) := by decide +kernel
theorem dX7_see_22 : decode cX7_see 22 = .ok (.aload_n 0, 1) := by decide +kernel
theorem dX7_see_23 : decode cX7_see 23 = .ok (.iload_n 2, 1) := by decide +kernel
theorem dX7_see_24 : decode cX7_see 24 = .ok (.iconst 0, 1) := by decide +kernel
theorem dX7_see_25 : decode cX7_see 25 = .ok (.bipush 99, 2) := by decide +kernel
theorem dX7_see_27 : decode cX7_see 27 = .ok (.invokevirtual 197, 3) := by decide +kernel
theorem dX7_see_30 : decode cX7_see 30 = .ok (.ifCond .ne 6, 3) := by decide +kernel
theorem dX7_see_33 : decode cX7_see 33 = .ok (.bipush (-2), 2) := by decide +kernel
theorem dX7_see_35 : decode cX7_see 35 = .ok (.ireturn, 1) := by decide +kernel
theorem dX7_see_36 : decode cX7_see 36 = .ok (.aload_n 0, 1) := by decide +kernel
theorem dX7_see_37 : decode cX7_see 37 = .ok (.getfield 123, 3) := by decide +kernel
theorem dX7_see_40 : decode cX7_see 40 = .ok (.bipush 8, 2) := by decide +kernel
theorem dX7_see_42 : decode cX7_see 42 = .ok (.if_icmp .ne 6, 3) := by decide +kernel
theorem dX7_see_45 : decode cX7_see 45 = .ok (.bipush (-4), 2) := by decide +kernel
theorem dX7_see_47 : decode cX7_see 47 = .ok (.ireturn, 1) := by decide +kernel
theorem dX7_see_48 : decode cX7_see 48 = .ok (.aload_n 0, 1) := by decide +kernel
theorem dX7_see_49 : decode cX7_see 49 = .ok (.getfield 126, 3) := by decide +kernel
theorem dX7_see_52 : decode cX7_see 52 = .ok (.aload_n 0, 1) := by decide +kernel
theorem dX7_see_53 : decode cX7_see 53 = .ok (.getfield 123, 3) := by decide +kernel
theorem dX7_see_56 : decode cX7_see 56 = .ok (.iload_n 1, 1) := by decide +kernel
theorem dX7_see_57 : decode cX7_see 57 = .ok (.iastore, 1) := by decide +kernel
theorem dX7_see_58 : decode cX7_see 58 = .ok (.aload_n 0, 1) := by decide +kernel
theorem dX7_see_59 : decode cX7_see 59 = .ok (.getfield 129, 3) := by decide +kernel
theorem dX7_see_62 : decode cX7_see 62 = .ok (.aload_n 0, 1) := by decide +kernel
theorem dX7_see_63 : decode cX7_see 63 = .ok (.getfield 123, 3) := by decide +kernel
theorem dX7_see_66 : decode cX7_see 66 = .ok (.iload_n 2, 1) := by decide +kernel
theorem dX7_see_67 : decode cX7_see 67 = .ok (.iastore, 1) := by decide +kernel
theorem dX7_see_68 : decode cX7_see 68 = .ok (.aload_n 0, 1) := by decide +kernel
theorem dX7_see_69 : decode cX7_see 69 = .ok (.dup, 1) := by decide +kernel
theorem dX7_see_70 : decode cX7_see 70 = .ok (.getfield 123, 3) := by decide +kernel
theorem dX7_see_73 : decode cX7_see 73 = .ok (.iconst 1, 1) := by decide +kernel
theorem dX7_see_74 : decode cX7_see 74 = .ok (.iadd, 1) := by decide +kernel
theorem dX7_see_75 : decode cX7_see 75 = .ok (.putfield 123, 3) := by decide +kernel
theorem dX7_see_78 : decode cX7_see 78 = .ok (.aload_n 0, 1) := by decide +kernel
theorem dX7_see_79 : decode cX7_see 79 = .ok (.getfield 123, 3) := by decide +kernel
theorem dX7_see_82 : decode cX7_see 82 = .ok (.ireturn, 1) := by decide +kernel
theorem dX7_isSeen_0 : decode cX7_isSeen 0 = .ok (.aload_n 0, 1) := by decide +kernel
theorem dX7_isSeen_1 : decode cX7_isSeen 1 = .ok (.iload_n 1, 1) := by decide +kernel
theorem dX7_isSeen_2 : decode cX7_isSeen 2 = .ok (.putfield 84, 3) := by decide +kernel
theorem dX7_isSeen_5 : decode cX7_isSeen 5 = .ok (.aload_n 0, 1) := by decide +kernel
theorem dX7_isSeen_6 : decode cX7_isSeen 6 = .ok (.invokevirtual 313, 3) := by decide +kernel
theorem dX7_isSeen_9 : decode cX7_isSeen 9 = .ok (.aload_n 0, 1) := by decide +kernel
theorem dX7_isSeen_10 : decode cX7_isSeen 10 = .ok (.iconst (-1), 1) := by decide +kernel
theorem dX7_isSeen_11 : decode cX7_isSeen 11 = .ok (.putfield 84, 3) := by decide +kernel
theorem dX7_isSeen_14 : decode cX7_isSeen 14 = .ok (.iconst 0, 1) := by decide +kernel
theorem dX7_isSeen_15 : decode cX7_isSeen 15 = .ok (.istore_n 2, 1) := by decide +kernel
theorem dX7_isSeen_16 : decode cX7_isSeen 16 = .ok (.iload_n 2, 1) := by decide +kernel
theorem dX7_isSeen_17 : decode cX7_isSeen 17 = .ok (.aload_n 0, 1) := by decide +kernel
theorem dX7_isSeen_18 : decode cX7_isSeen 18 = .ok (.getfield 123, 3) := by decide +kernel
theorem dX7_isSeen_21 : decode cX7_isSeen 21 = .ok (.if_icmp .ge 31, 3) := by decide +kernel
theorem dX7_isSeen_24 : decode cX7_isSeen 24 = .ok (.aload_n 0, 1) := by decide +kernel
theorem dX7_isSeen_25 : decode cX7_isSeen 25 = .ok (.getfield 93, 3) := by decide +kernel
theorem dX7_isSeen_28 : decode cX7_isSeen 28 = .ok (.aload_n 0, 1) := by decide +kernel
theorem dX7_isSeen_29 : decode cX7_isSeen 29 = .ok (.getfield 126, 3) := by decide +kernel
theorem dX7_isSeen_32 : decode cX7_isSeen 32 = .ok (.iload_n 2, 1) := by decide +kernel
theorem dX7_isSeen_33 : decode cX7_isSeen 33 = .ok (.iaload, 1) := by decide +kernel
theorem dX7_isSeen_34 : decode cX7_isSeen 34 = .ok (.iaload, 1) := by decide +kernel
theorem dX7_isSeen_35 : decode cX7_isSeen 35 = .ok (.aload_n 0, 1) := by decide +kernel
theorem dX7_isSeen_36 : decode cX7_isSeen 36 = .ok (.getfield 129, 3) := by decide +kernel
theorem dX7_isSeen_39 : decode cX7_isSeen 39 = .ok (.iload_n 2, 1) := by decide +kernel
theorem dX7_isSeen_40 : decode cX7_isSeen 40 = .ok (.iaload, 1) := by decide +kernel
theorem dX7_isSeen_41 : decode cX7_isSeen 41 = .ok (.if_icmp .eq 5, 3) := by decide +kernel
theorem dX7_isSeen_44 : decode cX7_isSeen 44 = .ok (.iconst 0, 1) := by decide +kernel
theorem dX7_isSeen_45 : decode cX7_isSeen 45 = .ok (.ireturn, 1) := by decide +kernel
theorem dX7_isSeen_46 : decode cX7_isSeen 46 = .ok (.iinc 2 1, 3) := by decide +kernel
theorem dX7_isSeen_49 : decode cX7_isSeen 49 = .ok (.goto (-33), 3) := by decide +kernel
theorem dX7_isSeen_52 : decode cX7_isSeen 52 = .ok (.iconst 1, 1) := by decide +kernel
theorem dX7_isSeen_53 : decode cX7_isSeen 53 = .ok (.ireturn, 1) := by decide +kernel
theorem dX7_lied_0 : decode cX7_lied 0 = .ok (.aload_n 0, 1) := by decide +kernel
theorem dX7_lied_1 : decode cX7_lied 1 = .ok (.iload_n 1, 1) := by decide +kernel
theorem dX7_lied_2 : decode cX7_lied 2 = .ok (.iconst 0, 1) := by decide +kernel
theorem dX7_lied_3 : decode cX7_lied 3 = .ok (.iconst 1, 1) := by decide +kernel
theorem dX7_lied_4 : decode cX7_lied 4 = .ok (.invokevirtual 197, 3) := by decide +kernel
theorem dX7_lied_7 : decode cX7_lied 7 = .ok (.ifCond .ne 5, 3) := by decide +kernel
theorem dX7_lied_10 : decode cX7_lied 10 = .ok (.iconst (-1), 1) := by decide +kernel
theorem dX7_lied_11 : decode cX7_lied 11 = .ok (.ireturn, 1) := by decide +kernel
theorem dX7_lied_12 : decode cX7_lied 12 = .ok (.iload_n 1, 1) := by decide +kernel
theorem dX7_lied_13 : decode cX7_lied 13 = .ok (.iconst 1, 1) := by decide +kernel
theorem dX7_lied_14 : decode cX7_lied 14 = .ok (.if_icmp .ne 18, 3) := by decide +kernel
theorem dX7_lied_17 : decode cX7_lied 17 = .ok (.aload_n 0, 1) := by decide +kernel
theorem dX7_lied_18 : decode cX7_lied 18 = .ok (.bipush 7, 2) := by decide +kernel
theorem dX7_lied_20 : decode cX7_lied 20 = .ok (.invokevirtual 368, 3) := by decide +kernel
theorem dX7_lied_23 : decode cX7_lied 23 = .ok (.ifCond .eq 7, 3) := by decide +kernel
theorem dX7_lied_26 : decode cX7_lied 26 = .ok (.iconst 1, 1) := by decide +kernel
theorem dX7_lied_27 : decode cX7_lied 27 = .ok (.goto 4, 3) := by decide +kernel
theorem dX7_lied_30 : decode cX7_lied 30 = .ok (.iconst 0, 1) := by decide +kernel
theorem dX7_lied_31 : decode cX7_lied 31 = .ok (.ireturn, 1) := by decide +kernel
theorem dX7_lied_32 : decode cX7_lied 32 = .ok (.iconst 0, 1) := by decide +kernel
theorem dX7_lied_33 : decode cX7_lied 33 = .ok (.istore_n 2, 1) := by decide +kernel
theorem dX7_lied_34 : decode cX7_lied 34 = .ok (.iconst 0, 1) := by decide +kernel
theorem dX7_lied_35 : decode cX7_lied 35 = .ok (.istore_n 3, 1) := by decide +kernel
theorem dX7_lied_36 : decode cX7_lied 36 = .ok (.iload_n 3, 1) := by decide +kernel
theorem dX7_lied_37 : decode cX7_lied 37 = .ok (.aload_n 0, 1) := by decide +kernel
theorem dX7_lied_38 : decode cX7_lied 38 = .ok (.getfield 7, 3) := by decide +kernel
theorem dX7_lied_41 : decode cX7_lied 41 = .ok (.if_icmp .ge 27, 3) := by decide +kernel
theorem dX7_lied_44 : decode cX7_lied 44 = .ok (.iload_n 2, 1) := by decide +kernel
theorem dX7_lied_45 : decode cX7_lied 45 = .ok (.aload_n 0, 1) := by decide +kernel
theorem dX7_lied_46 : decode cX7_lied 46 = .ok (.iload_n 3, 1) := by decide +kernel
theorem dX7_lied_47 : decode cX7_lied 47 = .ok (.invokevirtual 368, 3) := by decide +kernel
theorem dX7_lied_50 : decode cX7_lied 50 = .ok (.ifCond .eq 9, 3) := by decide +kernel
theorem dX7_lied_53 : decode cX7_lied 53 = .ok (.iconst 1, 1) := by decide +kernel
theorem dX7_lied_54 : decode cX7_lied 54 = .ok (.iload_n 3, 1) := by decide +kernel
theorem dX7_lied_55 : decode cX7_lied 55 = .ok (.ishl, 1) := by decide +kernel
theorem dX7_lied_56 : decode cX7_lied 56 = .ok (.goto 4, 3) := by decide +kernel
theorem dX7_lied_59 : decode cX7_lied 59 = .ok (.iconst 0, 1) := by decide +kernel
theorem dX7_lied_60 : decode cX7_lied 60 = .ok (.ior, 1) := by decide +kernel
theorem dX7_lied_61 : decode cX7_lied 61 = .ok (.istore_n 2, 1) := by decide +kernel
theorem dX7_lied_62 : decode cX7_lied 62 = .ok (.iinc 3 1, 3) := by decide +kernel
theorem dX7_lied_65 : decode cX7_lied 65 = .ok (.goto (-29), 3) := by decide +kernel
theorem dX7_lied_68 : decode cX7_lied 68 = .ok (.iload_n 2, 1) := by decide +kernel
theorem dX7_lied_69 : decode cX7_lied 69 = .ok (.ireturn, 1) := by decide +kernel
theorem dX7_wed_0 : decode cX7_wed 0 = .ok (.aload_n 0, 1) := by decide +kernel
theorem dX7_wed_1 : decode cX7_wed 1 = .ok (.iload_n 1, 1) := by decide +kernel
theorem dX7_wed_2 : decode cX7_wed 2 = .ok (.invokevirtual 205, 3) := by decide +kernel
theorem dX7_wed_5 : decode cX7_wed 5 = .ok (.ifCond .eq 11, 3) := by decide +kernel
theorem dX7_wed_8 : decode cX7_wed 8 = .ok (.aload_n 0, 1) := by decide +kernel
theorem dX7_wed_9 : decode cX7_wed 9 = .ok (.iload_n 2, 1) := by decide +kernel
theorem dX7_wed_10 : decode cX7_wed 10 = .ok (.invokevirtual 205, 3) := by decide +kernel
theorem dX7_wed_13 : decode cX7_wed 13 = .ok (.ifCond .ne 5, 3) := by decide +kernel
theorem dX7_wed_16 : decode cX7_wed 16 = .ok (.iconst (-1), 1) := by decide +kernel
theorem dX7_wed_17 : decode cX7_wed 17 = .ok (.ireturn, 1) := by decide +kernel
theorem dX7_wed_18 : decode cX7_wed 18 = .ok (.iload_n 1, 1) := by decide +kernel
theorem dX7_wed_19 : decode cX7_wed 19 = .ok (.iload_n 2, 1) := by decide +kernel
theorem dX7_wed_20 : decode cX7_wed 20 = .ok (.if_icmp .ne 6, 3) := by decide +kernel
theorem dX7_wed_23 : decode cX7_wed 23 = .ok (.bipush (-2), 2) := by decide +kernel
theorem dX7_wed_25 : decode cX7_wed 25 = .ok (.ireturn, 1) := by decide +kernel
theorem dX7_wed_26 : decode cX7_wed 26 = .ok (.aload_n 0, 1) := by decide +kernel
theorem dX7_wed_27 : decode cX7_wed 27 = .ok (.invokevirtual 328, 3) := by decide +kernel
theorem dX7_wed_30 : decode cX7_wed 30 = .ok (.aload_n 0, 1) := by decide +kernel
theorem dX7_wed_31 : decode cX7_wed 31 = .ok (.bipush 10, 2) := by decide +kernel
theorem dX7_wed_33 : decode cX7_wed 33 = .ok (.invokevirtual 322, 3) := by decide +kernel
theorem dX7_wed_36 : decode cX7_wed 36 = .ok (.iconst 0, 1) := by decide +kernel
theorem dX7_wed_37 : decode cX7_wed 37 = .ok (.istore_n 3, 1) := by decide +kernel
theorem dX7_wed_38 : decode cX7_wed 38 = .ok (.iload_n 3, 1) := by decide +kernel
theorem dX7_wed_39 : decode cX7_wed 39 = .ok (.bipush 8, 2) := by decide +kernel
theorem dX7_wed_41 : decode cX7_wed 41 = .ok (.if_icmp .ge 21, 3) := by decide +kernel
theorem dX7_wed_44 : decode cX7_wed 44 = .ok (.aload_n 0, 1) := by decide +kernel
theorem dX7_wed_45 : decode cX7_wed 45 = .ok (.getfield 105, 3) := by decide +kernel
theorem dX7_wed_48 : decode cX7_wed 48 = .ok (.iload_n 3, 1) := by decide +kernel
theorem dX7_wed_49 : decode cX7_wed 49 = .ok (.aload_n 0, 1) := by decide +kernel
theorem dX7_wed_50 : decode cX7_wed 50 = .ok (.getfield 23, 3) := by decide +kernel
theorem dX7_wed_53 : decode cX7_wed 53 = .ok (.iload_n 3, 1) := by decide +kernel
theorem dX7_wed_54 : decode cX7_wed 54 = .ok (.iaload, 1) := by decide +kernel
theorem dX7_wed_55 : decode cX7_wed 55 = .ok (.iastore, 1) := by decide +kernel
theorem dX7_wed_56 : decode cX7_wed 56 = .ok (.iinc 3 1, 3) := by decide +kernel
theorem dX7_wed_59 : decode cX7_wed 59 = .ok (.goto (-21), 3) := by decide +kernel
theorem dX7_wed_62 : decode cX7_wed 62 = .ok (.aload_n 0, 1) := by decide +kernel
theorem dX7_wed_63 : decode cX7_wed 63 = .ok (.invokevirtual 334, 3) := by decide +kernel
theorem dX7_wed_66 : decode cX7_wed 66 = .ok (.aload_n 0, 1) := by decide +kernel
theorem dX7_wed_67 : decode cX7_wed 67 = .ok (.getfield 23, 3) := by decide +kernel
theorem dX7_wed_70 : decode cX7_wed 70 = .ok (.iload_n 1, 1) := by decide +kernel
theorem dX7_wed_71 : decode cX7_wed 71 = .ok (.iaload, 1) := by decide +kernel
theorem dX7_wed_72 : decode cX7_wed 72 = .ok (.aload_n 0, 1) := by decide +kernel
theorem dX7_wed_73 : decode cX7_wed 73 = .ok (.getfield 23, 3) := by decide +kernel
theorem dX7_wed_76 : decode cX7_wed 76 = .ok (.iload_n 2, 1) := by decide +kernel
theorem dX7_wed_77 : decode cX7_wed 77 = .ok (.iaload, 1) := by decide +kernel
theorem dX7_wed_78 : decode cX7_wed 78 = .ok (.iadd, 1) := by decide +kernel
theorem dX7_wed_79 : decode cX7_wed 79 = .ok (.iconst 2, 1) := by decide +kernel
theorem dX7_wed_80 : decode cX7_wed 80 = .ok (.idiv, 1) := by decide +kernel
theorem dX7_wed_81 : decode cX7_wed 81 = .ok (.istore_n 3, 1) := by decide +kernel
theorem dX7_wed_82 : decode cX7_wed 82 = .ok (.aload_n 0, 1) := by decide +kernel
theorem dX7_wed_83 : decode cX7_wed 83 = .ok (.getfield 23, 3) := by decide +kernel
theorem dX7_wed_86 : decode cX7_wed 86 = .ok (.iload_n 1, 1) := by decide +kernel
theorem dX7_wed_87 : decode cX7_wed 87 = .ok (.iload_n 3, 1) := by decide +kernel
theorem dX7_wed_88 : decode cX7_wed 88 = .ok (.iastore, 1) := by decide +kernel
theorem dX7_wed_89 : decode cX7_wed 89 = .ok (.aload_n 0, 1) := by decide +kernel
theorem dX7_wed_90 : decode cX7_wed 90 = .ok (.getfield 23, 3) := by decide +kernel
theorem dX7_wed_93 : decode cX7_wed 93 = .ok (.iload_n 2, 1) := by decide +kernel
theorem dX7_wed_94 : decode cX7_wed 94 = .ok (.iload_n 3, 1) := by decide +kernel
theorem dX7_wed_95 : decode cX7_wed 95 = .ok (.iastore, 1) := by decide +kernel
theorem dX7_wed_96 : decode cX7_wed 96 = .ok (.aload_n 0, 1) := by decide +kernel
theorem dX7_wed_97 : decode cX7_wed 97 = .ok (.bipush 10, 2) := by decide +kernel
theorem dX7_wed_99 : decode cX7_wed 99 = .ok (.invokevirtual 322, 3) := by decide +kernel
theorem dX7_wed_102 : decode cX7_wed 102 = .ok (.iconst 0, 1) := by decide +kernel
theorem dX7_wed_103 : decode cX7_wed 103 = .ok (.istore 4, 2) := by decide +kernel
theorem dX7_wed_105 : decode cX7_wed 105 = .ok (.iconst 0, 1) := by decide +kernel
theorem dX7_wed_106 : decode cX7_wed 106 = .ok (.istore 5, 2) := by decide +kernel
theorem dX7_wed_108 : decode cX7_wed 108 = .ok (.iload 5, 2) := by decide +kernel
theorem dX7_wed_110 : decode cX7_wed 110 = .ok (.aload_n 0, 1) := by decide +kernel
theorem dX7_wed_111 : decode cX7_wed 111 = .ok (.getfield 7, 3) := by decide +kernel
theorem dX7_wed_114 : decode cX7_wed 114 = .ok (.if_icmp .ge 36, 3) := by decide +kernel
theorem dX7_wed_117 : decode cX7_wed 117 = .ok (.iload 4, 2) := by decide +kernel
theorem dX7_wed_119 : decode cX7_wed 119 = .ok (.aload_n 0, 1) := by decide +kernel
theorem dX7_wed_120 : decode cX7_wed 120 = .ok (.getfield 23, 3) := by decide +kernel
theorem dX7_wed_123 : decode cX7_wed 123 = .ok (.iload 5, 2) := by decide +kernel
theorem dX7_wed_125 : decode cX7_wed 125 = .ok (.iaload, 1) := by decide +kernel
theorem dX7_wed_126 : decode cX7_wed 126 = .ok (.aload_n 0, 1) := by decide +kernel
theorem dX7_wed_127 : decode cX7_wed 127 = .ok (.getfield 105, 3) := by decide +kernel
theorem dX7_wed_130 : decode cX7_wed 130 = .ok (.iload 5, 2) := by decide +kernel
theorem dX7_wed_132 : decode cX7_wed 132 = .ok (.iaload, 1) := by decide +kernel
theorem dX7_wed_133 : decode cX7_wed 133 = .ok (.if_icmp .ne 7, 3) := by decide +kernel
theorem dX7_wed_136 : decode cX7_wed 136 = .ok (.iconst 0, 1) := by decide +kernel
theorem dX7_wed_137 : decode cX7_wed 137 = .ok (.goto 4, 3) := by decide +kernel
theorem dX7_wed_140 : decode cX7_wed 140 = .ok (.iconst 1, 1) := by decide +kernel
theorem dX7_wed_141 : decode cX7_wed 141 = .ok (.iadd, 1) := by decide +kernel
theorem dX7_wed_142 : decode cX7_wed 142 = .ok (.istore 4, 2) := by decide +kernel
theorem dX7_wed_144 : decode cX7_wed 144 = .ok (.iinc 5 1, 3) := by decide +kernel
theorem dX7_wed_147 : decode cX7_wed 147 = .ok (.goto (-39), 3) := by decide +kernel
theorem dX7_wed_150 : decode cX7_wed 150 = .ok (.aload_n 0, 1) := by decide +kernel
theorem dX7_wed_151 : decode cX7_wed 151 = .ok (.invokevirtual 334, 3) := by decide +kernel
theorem dX7_wed_154 : decode cX7_wed 154 = .ok (.iload 4, 2) := by decide +kernel
theorem dX7_wed_156 : decode cX7_wed 156 = .ok (.ireturn, 1) := by decide +kernel
theorem dX7_divisor_0 : decode cX7_divisor 0 = .ok (.iload_n 1, 1) := by decide +kernel
theorem dX7_divisor_1 : decode cX7_divisor 1 = .ok (.istore_n 3, 1) := by decide +kernel
theorem dX7_divisor_2 : decode cX7_divisor 2 = .ok (.iload_n 2, 1) := by decide +kernel
theorem dX7_divisor_3 : decode cX7_divisor 3 = .ok (.istore 4, 2) := by decide +kernel
theorem dX7_divisor_5 : decode cX7_divisor 5 = .ok (.iload 4, 2) := by decide +kernel
theorem dX7_divisor_7 : decode cX7_divisor 7 = .ok (.ifCond .eq 19, 3) := by decide +kernel
theorem dX7_divisor_10 : decode cX7_divisor 10 = .ok (.iload_n 3, 1) := by decide +kernel
theorem dX7_divisor_11 : decode cX7_divisor 11 = .ok (.iload 4, 2) := by decide +kernel
theorem dX7_divisor_13 : decode cX7_divisor 13 = .ok (.irem, 1) := by decide +kernel
theorem dX7_divisor_14 : decode cX7_divisor 14 = .ok (.istore 5, 2) := by decide +kernel
theorem dX7_divisor_16 : decode cX7_divisor 16 = .ok (.iload 4, 2) := by decide +kernel
theorem dX7_divisor_18 : decode cX7_divisor 18 = .ok (.istore_n 3, 1) := by decide +kernel
theorem dX7_divisor_19 : decode cX7_divisor 19 = .ok (.iload 5, 2) := by decide +kernel
theorem dX7_divisor_21 : decode cX7_divisor 21 = .ok (.istore 4, 2) := by decide +kernel
theorem dX7_divisor_23 : decode cX7_divisor 23 = .ok (.goto (-18), 3) := by decide +kernel
theorem dX7_divisor_26 : decode cX7_divisor 26 = .ok (.iload_n 3, 1) := by decide +kernel
theorem dX7_divisor_27 : decode cX7_divisor 27 = .ok (.ireturn, 1) := by decide +kernel
theorem dX7_lowest_0 : decode cX7_lowest 0 = .ok (.aload_n 0, 1) := by decide +kernel
theorem dX7_lowest_1 : decode cX7_lowest 1 = .ok (.iload_n 1, 1) := by decide +kernel
theorem dX7_lowest_2 : decode cX7_lowest 2 = .ok (.iload_n 2, 1) := by decide +kernel
theorem dX7_lowest_3 : decode cX7_lowest 3 = .ok (.invokevirtual 371, 3) := by decide +kernel
theorem dX7_lowest_6 : decode cX7_lowest 6 = .ok (.istore 4, 2) := by decide +kernel
theorem dX7_lowest_8 : decode cX7_lowest 8 = .ok (.iload_n 3, 1) := by decide +kernel
theorem dX7_lowest_9 : decode cX7_lowest 9 = .ok (.ifCond .ne 11, 3) := by decide +kernel
theorem dX7_lowest_12 : decode cX7_lowest 12 = .ok (.iload_n 1, 1) := by decide +kernel
theorem dX7_lowest_13 : decode cX7_lowest 13 = .ok (.iload 4, 2) := by decide +kernel
theorem dX7_lowest_15 : decode cX7_lowest 15 = .ok (.idiv, 1) := by decide +kernel
theorem dX7_lowest_16 : decode cX7_lowest 16 = .ok (.i2l, 1) := by decide +kernel
theorem dX7_lowest_17 : decode cX7_lowest 17 = .ok (.goto 8, 3) := by decide +kernel
theorem dX7_lowest_20 : decode cX7_lowest 20 = .ok (.iload_n 2, 1) := by decide +kernel
theorem dX7_lowest_21 : decode cX7_lowest 21 = .ok (.iload 4, 2) := by decide +kernel
theorem dX7_lowest_23 : decode cX7_lowest 23 = .ok (.idiv, 1) := by decide +kernel
theorem dX7_lowest_24 : decode cX7_lowest 24 = .ok (.i2l, 1) := by decide +kernel
theorem dX7_lowest_25 : decode cX7_lowest 25 = .ok (.lreturn, 1) := by decide +kernel
theorem dX7_odds_0 : decode cX7_odds 0 = .ok (.aload_n 0, 1) := by decide +kernel
theorem dX7_odds_1 : decode cX7_odds 1 = .ok (.iload_n 1, 1) := by decide +kernel
theorem dX7_odds_2 : decode cX7_odds 2 = .ok (.invokevirtual 205, 3) := by decide +kernel
theorem dX7_odds_5 : decode cX7_odds 5 = .ok (.ifCond .eq 24, 3) := by decide +kernel
theorem dX7_odds_8 : decode cX7_odds 8 = .ok (.aload_n 0, 1) := by decide +kernel
theorem dX7_odds_9 : decode cX7_odds 9 = .ok (.iload_n 2, 1) := by decide +kernel
theorem dX7_odds_10 : decode cX7_odds 10 = .ok (.iconst 0, 1) := by decide +kernel
theorem dX7_odds_11 : decode cX7_odds 11 = .ok (.bipush 99, 2) := by decide +kernel
theorem dX7_odds_13 : decode cX7_odds 13 = .ok (.invokevirtual 197, 3) := by decide +kernel
theorem dX7_odds_16 : decode cX7_odds 16 = .ok (.ifCond .eq 13, 3) := by decide +kernel
theorem dX7_odds_19 : decode cX7_odds 19 = .ok (.aload_n 0, 1) := by decide +kernel
theorem dX7_odds_20 : decode cX7_odds 20 = .ok (.iload_n 3, 1) := by decide +kernel
theorem dX7_odds_21 : decode cX7_odds 21 = .ok (.iconst 0, 1) := by decide +kernel
theorem dX7_odds_22 : decode cX7_odds 22 = .ok (.iconst 1, 1) := by decide +kernel
theorem dX7_odds_23 : decode cX7_odds 23 = .ok (.invokevirtual 197, 3) := by decide +kernel
theorem dX7_odds_26 : decode cX7_odds 26 = .ok (.ifCond .ne 7, 3) := by decide +kernel
theorem dX7_odds_29 : decode cX7_odds 29 = .ok (.ldc2_w 374, 3) := by decide +kernel
theorem dX7_odds_32 : decode cX7_odds 32 = .ok (.lreturn, 1) := by decide +kernel
theorem dX7_odds_33 : decode cX7_odds 33 = .ok (.iconst 0, 1) := by decide +kernel
theorem dX7_odds_34 : decode cX7_odds 34 = .ok (.istore 4, 2) := by decide +kernel
theorem dX7_odds_36 : decode cX7_odds 36 = .ok (.iconst 0, 1) := by decide +kernel
theorem dX7_odds_37 : decode cX7_odds 37 = .ok (.istore 5, 2) := by decide +kernel
theorem dX7_odds_39 : decode cX7_odds 39 = .ok (.iload 5, 2) := by decide +kernel
theorem dX7_odds_41 : decode cX7_odds 41 = .ok (.aload_n 0, 1) := by decide +kernel
theorem dX7_odds_42 : decode cX7_odds 42 = .ok (.getfield 7, 3) := by decide +kernel
theorem dX7_odds_45 : decode cX7_odds 45 = .ok (.if_icmp .ge 32, 3) := by decide +kernel
theorem dX7_odds_48 : decode cX7_odds 48 = .ok (.iload 4, 2) := by decide +kernel
theorem dX7_odds_50 : decode cX7_odds 50 = .ok (.aload_n 0, 1) := by decide +kernel
theorem dX7_odds_51 : decode cX7_odds 51 = .ok (.iload 5, 2) := by decide +kernel
theorem dX7_odds_53 : decode cX7_odds 53 = .ok (.bipush 9, 2) := by decide +kernel
theorem dX7_odds_55 : decode cX7_odds 55 = .ok (.iload_n 1, 1) := by decide +kernel
theorem dX7_odds_56 : decode cX7_odds 56 = .ok (.invokevirtual 340, 3) := by decide +kernel
theorem dX7_odds_59 : decode cX7_odds 59 = .ok (.iload_n 2, 1) := by decide +kernel
theorem dX7_odds_60 : decode cX7_odds 60 = .ok (.if_icmp .lt 7, 3) := by decide +kernel
theorem dX7_odds_63 : decode cX7_odds 63 = .ok (.iconst 1, 1) := by decide +kernel
theorem dX7_odds_64 : decode cX7_odds 64 = .ok (.goto 4, 3) := by decide +kernel
theorem dX7_odds_67 : decode cX7_odds 67 = .ok (.iconst 0, 1) := by decide +kernel
theorem dX7_odds_68 : decode cX7_odds 68 = .ok (.iadd, 1) := by decide +kernel
theorem dX7_odds_69 : decode cX7_odds 69 = .ok (.istore 4, 2) := by decide +kernel
theorem dX7_odds_71 : decode cX7_odds 71 = .ok (.iinc 5 1, 3) := by decide +kernel
theorem dX7_odds_74 : decode cX7_odds 74 = .ok (.goto (-35), 3) := by decide +kernel
theorem dX7_odds_77 : decode cX7_odds 77 = .ok (.aload_n 0, 1) := by decide +kernel
theorem dX7_odds_78 : decode cX7_odds 78 = .ok (.iload 4, 2) := by decide +kernel
theorem dX7_odds_80 : decode cX7_odds 80 = .ok (.aload_n 0, 1) := by decide +kernel
theorem dX7_odds_81 : decode cX7_odds 81 = .ok (.getfield 7, 3) := by decide +kernel
theorem dX7_odds_84 : decode cX7_odds 84 = .ok (.iload_n 3, 1) := by decide +kernel
theorem dX7_odds_85 : decode cX7_odds 85 = .ok (.invokevirtual 376, 3) := by decide +kernel
theorem dX7_odds_88 : decode cX7_odds 88 = .ok (.lreturn, 1) := by decide +kernel
theorem dX7_mean_0 : decode cX7_mean 0 = .ok (.aload_n 0, 1) := by decide +kernel
theorem dX7_mean_1 : decode cX7_mean 1 = .ok (.iload_n 1, 1) := by decide +kernel
theorem dX7_mean_2 : decode cX7_mean 2 = .ok (.iconst 1, 1) := by decide +kernel
theorem dX7_mean_3 : decode cX7_mean 3 = .ok (.bipush 60, 2) := by decide +kernel
theorem dX7_mean_5 : decode cX7_mean 5 = .ok (.invokevirtual 197, 3) := by decide +kernel
theorem dX7_mean_8 : decode cX7_mean 8 = .ok (.ifCond .eq 20, 3) := by decide +kernel
theorem dX7_mean_11 : decode cX7_mean 11 = .ok (.aload_n 0, 1) := by decide +kernel
theorem dX7_mean_12 : decode cX7_mean 12 = .ok (.iload_n 2, 1) := by decide +kernel
theorem dX7_mean_13 : decode cX7_mean 13 = .ok (.iconst 0, 1) := by decide +kernel
theorem dX7_mean_14 : decode cX7_mean 14 = .ok (.iconst 1, 1) := by decide +kernel
theorem dX7_mean_15 : decode cX7_mean 15 = .ok (.invokevirtual 197, 3) := by decide +kernel
theorem dX7_mean_18 : decode cX7_mean 18 = .ok (.ifCond .eq 10, 3) := by decide +kernel
theorem dX7_mean_21 : decode cX7_mean 21 = .ok (.aload_n 0, 1) := by decide +kernel
theorem dX7_mean_22 : decode cX7_mean 22 = .ok (.getfield 7, 3) := by decide +kernel
theorem dX7_mean_25 : decode cX7_mean 25 = .ok (.ifCond .ne 7, 3) := by decide +kernel
theorem dX7_mean_28 : decode cX7_mean 28 = .ok (.ldc2_w 374, 3) := by decide +kernel
theorem dX7_mean_31 : decode cX7_mean 31 = .ok (.lreturn, 1) := by decide +kernel
theorem dX7_mean_32 : decode cX7_mean 32 = .ok (.aload_n 0, 1) := by decide +kernel
theorem dX7_mean_33 : decode cX7_mean 33 = .ok (.invokevirtual 328, 3) := by decide +kernel
theorem dX7_mean_36 : decode cX7_mean 36 = .ok (.iconst 0, 1) := by decide +kernel
theorem dX7_mean_37 : decode cX7_mean 37 = .ok (.istore_n 3, 1) := by decide +kernel
theorem dX7_mean_38 : decode cX7_mean 38 = .ok (.iconst 0, 1) := by decide +kernel
theorem dX7_mean_39 : decode cX7_mean 39 = .ok (.istore 4, 2) := by decide +kernel
theorem dX7_mean_41 : decode cX7_mean 41 = .ok (.iload 4, 2) := by decide +kernel
theorem dX7_mean_43 : decode cX7_mean 43 = .ok (.iload_n 1, 1) := by decide +kernel
theorem dX7_mean_44 : decode cX7_mean 44 = .ok (.if_icmp .ge 20, 3) := by decide +kernel
theorem dX7_mean_47 : decode cX7_mean 47 = .ok (.aload_n 0, 1) := by decide +kernel
theorem dX7_mean_48 : decode cX7_mean 48 = .ok (.invokevirtual 316, 3) := by decide +kernel
theorem dX7_mean_51 : decode cX7_mean 51 = .ok (.iload_n 3, 1) := by decide +kernel
theorem dX7_mean_52 : decode cX7_mean 52 = .ok (.aload_n 0, 1) := by decide +kernel
theorem dX7_mean_53 : decode cX7_mean 53 = .ok (.invokevirtual 319, 3) := by decide +kernel
theorem dX7_mean_56 : decode cX7_mean 56 = .ok (.iadd, 1) := by decide +kernel
theorem dX7_mean_57 : decode cX7_mean 57 = .ok (.istore_n 3, 1) := by decide +kernel
theorem dX7_mean_58 : decode cX7_mean 58 = .ok (.iinc 4 1, 3) := by decide +kernel
theorem dX7_mean_61 : decode cX7_mean 61 = .ok (.goto (-20), 3) := by decide +kernel
theorem dX7_mean_64 : decode cX7_mean 64 = .ok (.aload_n 0, 1) := by decide +kernel
theorem dX7_mean_65 : decode cX7_mean 65 = .ok (.invokevirtual 334, 3) := by decide +kernel
theorem dX7_mean_68 : decode cX7_mean 68 = .ok (.aload_n 0, 1) := by decide +kernel
theorem dX7_mean_69 : decode cX7_mean 69 = .ok (.iload_n 3, 1) := by decide +kernel
theorem dX7_mean_70 : decode cX7_mean 70 = .ok (.iload_n 1, 1) := by decide +kernel
theorem dX7_mean_71 : decode cX7_mean 71 = .ok (.aload_n 0, 1) := by decide +kernel
theorem dX7_mean_72 : decode cX7_mean 72 = .ok (.getfield 7, 3) := by decide +kernel
theorem dX7_mean_75 : decode cX7_mean 75 = .ok (.imul, 1) := by decide +kernel
theorem dX7_mean_76 : decode cX7_mean 76 = .ok (.iload_n 2, 1) := by decide +kernel
theorem dX7_mean_77 : decode cX7_mean 77 = .ok (.invokevirtual 376, 3) := by decide +kernel
theorem dX7_mean_80 : decode cX7_mean 80 = .ok (.lreturn, 1) := by decide +kernel
theorem dX7_book_0 : decode cX7_book 0 = .ok (.iload_n 1, 1) := by decide +kernel
theorem dX7_book_1 : decode cX7_book 1 = .ok (.iconst (-1), 1) := by decide +kernel
theorem dX7_book_2 : decode cX7_book 2 = .ok (.if_icmp .ne 10, 3) := by decide +kernel
theorem dX7_book_5 : decode cX7_book 5 = .ok (.aload_n 0, 1) := by decide +kernel
theorem dX7_book_6 : decode cX7_book 6 = .ok (.iconst 0, 1) := by decide +kernel
theorem dX7_book_7 : decode cX7_book 7 = .ok (.putfield 132, 3) := by decide +kernel
theorem dX7_book_10 : decode cX7_book 10 = .ok (.iconst 0, 1) := by decide +kernel
theorem dX7_book_11 : decode cX7_book 11 = .ok (.ireturn, 1) := by decide +kernel
theorem dX7_book_12 : decode cX7_book 12 = .ok (.aload_n 0, 1) := by decide +kernel
theorem dX7_book_13 : decode cX7_book 13 = .ok (.iload_n 1, 1) := by decide +kernel
theorem dX7_book_14 : decode cX7_book 14 = .ok (.iconst 0, 1) := by decide +kernel
theorem dX7_book_15 : decode cX7_book 15 = .ok (.bipush 99, 2) := by decide +kernel
theorem dX7_book_17 : decode cX7_book 17 = .ok (.invokevirtual 197, 3) := by decide +kernel
theorem dX7_book_20 : decode cX7_book 20 = .ok (.ifCond .ne 12, 3) := by decide +kernel
theorem dX7_book_23 : decode cX7_book 23 = .ok (.iload_n 1, 1) := by decide +kernel
theorem dX7_book_24 : decode cX7_book 24 = .ok (.bipush (-2), 2) := by decide +kernel
theorem dX7_book_26 : decode cX7_book 26 = .ok (.if_icmp .eq 6, 3) := by decide +kernel
theorem dX7_book_29 : decode cX7_book 29 = .ok (.bipush (-2), 2) := by decide +kernel
theorem dX7_book_31 : decode cX7_book 31 = .ok (.ireturn, 1) := by decide +kernel
theorem dX7_book_32 : decode cX7_book 32 = .ok (.aload_n 0, 1) := by decide +kernel
theorem dX7_book_33 : decode cX7_book 33 = .ok (.getfield 132, 3) := by decide +kernel
theorem dX7_book_36 : decode cX7_book 36 = .ok (.bipush 12, 2) := by decide +kernel
theorem dX7_book_38 : decode cX7_book 38 = .ok (.if_icmp .ne 6, 3) := by decide +kernel
theorem dX7_book_41 : decode cX7_book 41 = .ok (.bipush (-4), 2) := by decide +kernel
theorem dX7_book_43 : decode cX7_book 43 = .ok (.ireturn, 1) := by decide +kernel
theorem dX7_book_44 : decode cX7_book 44 = .ok (.aload_n 0, 1) := by decide +kernel
theorem dX7_book_45 : decode cX7_book 45 = .ok (.getfield 135, 3) := by decide +kernel
theorem dX7_book_48 : decode cX7_book 48 = .ok (.aload_n 0, 1) := by decide +kernel
theorem dX7_book_49 : decode cX7_book 49 = .ok (.getfield 132, 3) := by decide +kernel
theorem dX7_book_52 : decode cX7_book 52 = .ok (.iload_n 1, 1) := by decide +kernel
theorem dX7_book_53 : decode cX7_book 53 = .ok (.iastore, 1) := by decide +kernel
theorem dX7_book_54 : decode cX7_book 54 = .ok (.aload_n 0, 1) := by decide +kernel
theorem dX7_book_55 : decode cX7_book 55 = .ok (.dup, 1) := by decide +kernel
theorem dX7_book_56 : decode cX7_book 56 = .ok (.getfield 132, 3) := by decide +kernel
theorem dX7_book_59 : decode cX7_book 59 = .ok (.iconst 1, 1) := by decide +kernel
theorem dX7_book_60 : decode cX7_book 60 = .ok (.iadd, 1) := by decide +kernel
theorem dX7_book_61 : decode cX7_book 61 = .ok (.putfield 132, 3) := by decide +kernel
theorem dX7_book_64 : decode cX7_book 64 = .ok (.aload_n 0, 1) := by decide +kernel
theorem dX7_book_65 : decode cX7_book 65 = .ok (.getfield 132, 3) := by decide +kernel
theorem dX7_book_68 : decode cX7_book 68 = .ok (.ireturn, 1) := by decide +kernel
theorem dX7_looked_0 : decode cX7_looked 0 = .ok (.aload_n 0, 1) := by decide +kernel
theorem dX7_looked_1 : decode cX7_looked 1 = .ok (.getfield 7, 3) := by decide +kernel
theorem dX7_looked_4 : decode cX7_looked 4 = .ok (.ifCond .ne 6, 3) := by decide +kernel
theorem dX7_looked_7 : decode cX7_looked 7 = .ok (.bipush (-3), 2) := by decide +kernel
theorem dX7_looked_9 : decode cX7_looked 9 = .ok (.ireturn, 1) := by decide +kernel
theorem dX7_looked_10 : decode cX7_looked 10 = .ok (.aload_n 0, 1) := by decide +kernel
theorem dX7_looked_11 : decode cX7_looked 11 = .ok (.invokevirtual 328, 3) := by decide +kernel
theorem dX7_looked_14 : decode cX7_looked 14 = .ok (.bipush (-5), 2) := by decide +kernel
theorem dX7_looked_16 : decode cX7_looked 16 = .ok (.istore_n 1, 1) := by decide +kernel
theorem dX7_looked_17 : decode cX7_looked 17 = .ok (.iconst 0, 1) := by decide +kernel
theorem dX7_looked_18 : decode cX7_looked 18 = .ok (.istore_n 2, 1) := by decide +kernel
theorem dX7_looked_19 : decode cX7_looked 19 = .ok (.iload_n 2, 1) := by decide +kernel
theorem dX7_looked_20 : decode cX7_looked 20 = .ok (.aload_n 0, 1) := by decide +kernel
theorem dX7_looked_21 : decode cX7_looked 21 = .ok (.getfield 132, 3) := by decide +kernel
theorem dX7_looked_24 : decode cX7_looked 24 = .ok (.if_icmp .ge 50, 3) := by decide +kernel
theorem dX7_looked_27 : decode cX7_looked 27 = .ok (.iload_n 1, 1) := by decide +kernel
theorem dX7_looked_28 : decode cX7_looked 28 = .ok (.ifCond .ge 46, 3) := by decide +kernel
theorem dX7_looked_31 : decode cX7_looked 31 = .ok (.aload_n 0, 1) := by decide +kernel
theorem dX7_looked_32 : decode cX7_looked 32 = .ok (.invokevirtual 316, 3) := by decide +kernel
theorem dX7_looked_35 : decode cX7_looked 35 = .ok (.aload_n 0, 1) := by decide +kernel
theorem dX7_looked_36 : decode cX7_looked 36 = .ok (.getfield 135, 3) := by decide +kernel
theorem dX7_looked_39 : decode cX7_looked 39 = .ok (.iload_n 2, 1) := by decide +kernel
theorem dX7_looked_40 : decode cX7_looked 40 = .ok (.iaload, 1) := by decide +kernel
theorem dX7_looked_41 : decode cX7_looked 41 = .ok (.bipush (-2), 2) := by decide +kernel
theorem dX7_looked_43 : decode cX7_looked 43 = .ok (.if_icmp .eq 18, 3) := by decide +kernel
theorem dX7_looked_46 : decode cX7_looked 46 = .ok (.aload_n 0, 1) := by decide +kernel
theorem dX7_looked_47 : decode cX7_looked 47 = .ok (.getfield 135, 3) := by decide +kernel
theorem dX7_looked_50 : decode cX7_looked 50 = .ok (.iload_n 2, 1) := by decide +kernel
theorem dX7_looked_51 : decode cX7_looked 51 = .ok (.iaload, 1) := by decide +kernel
theorem dX7_looked_52 : decode cX7_looked 52 = .ok (.aload_n 0, 1) := by decide +kernel
theorem dX7_looked_53 : decode cX7_looked 53 = .ok (.getfield 23, 3) := by decide +kernel
theorem dX7_looked_56 : decode cX7_looked 56 = .ok (.iconst 0, 1) := by decide +kernel
theorem dX7_looked_57 : decode cX7_looked 57 = .ok (.iaload, 1) := by decide +kernel
theorem dX7_looked_58 : decode cX7_looked 58 = .ok (.if_icmp .ne 8, 3) := by decide +kernel
theorem dX7_looked_61 : decode cX7_looked 61 = .ok (.bipush (-5), 2) := by decide +kernel
theorem dX7_looked_63 : decode cX7_looked 63 = .ok (.goto 4, 3) := by decide +kernel
theorem dX7_looked_66 : decode cX7_looked 66 = .ok (.iload_n 2, 1) := by decide +kernel
theorem dX7_looked_67 : decode cX7_looked 67 = .ok (.istore_n 1, 1) := by decide +kernel
theorem dX7_looked_68 : decode cX7_looked 68 = .ok (.iinc 2 1, 3) := by decide +kernel
theorem dX7_looked_71 : decode cX7_looked 71 = .ok (.goto (-52), 3) := by decide +kernel
theorem dX7_looked_74 : decode cX7_looked 74 = .ok (.aload_n 0, 1) := by decide +kernel
theorem dX7_looked_75 : decode cX7_looked 75 = .ok (.invokevirtual 334, 3) := by decide +kernel
theorem dX7_looked_78 : decode cX7_looked 78 = .ok (.iload_n 1, 1) := by decide +kernel
theorem dX7_looked_79 : decode cX7_looked 79 = .ok (.ireturn, 1) := by decide +kernel
theorem dX7_judge_0 : decode cX7_judge 0 = .ok (.aload_n 0, 1) := by decide +kernel
theorem dX7_judge_1 : decode cX7_judge 1 = .ok (.iload_n 1, 1) := by decide +kernel
theorem dX7_judge_2 : decode cX7_judge 2 = .ok (.invokevirtual 380, 3) := by decide +kernel
theorem dX7_judge_5 : decode cX7_judge 5 = .ok (.ifCond .ne 5, 3) := by decide +kernel
theorem dX7_judge_8 : decode cX7_judge 8 = .ok (.iconst (-1), 1) := by decide +kernel
theorem dX7_judge_9 : decode cX7_judge 9 = .ok (.ireturn, 1) := by decide +kernel
theorem dX7_judge_10 : decode cX7_judge 10 = .ok (.aload_n 0, 1) := by decide +kernel
theorem dX7_judge_11 : decode cX7_judge 11 = .ok (.getfield 184, 3) := by decide +kernel
theorem dX7_judge_14 : decode cX7_judge 14 = .ok (.iload_n 1, 1) := by decide +kernel
theorem dX7_judge_15 : decode cX7_judge 15 = .ok (.iaload, 1) := by decide +kernel
theorem dX7_judge_16 : decode cX7_judge 16 = .ok (.ifCond .lt 16, 3) := by decide +kernel
theorem dX7_judge_19 : decode cX7_judge 19 = .ok (.aload_n 0, 1) := by decide +kernel
theorem dX7_judge_20 : decode cX7_judge 20 = .ok (.getfield 184, 3) := by decide +kernel
theorem dX7_judge_23 : decode cX7_judge 23 = .ok (.iload_n 1, 1) := by decide +kernel
theorem dX7_judge_24 : decode cX7_judge 24 = .ok (.iaload, 1) := by decide +kernel
theorem dX7_judge_25 : decode cX7_judge 25 = .ok (.iconst 1, 1) := by decide +kernel
theorem dX7_judge_26 : decode cX7_judge 26 = .ok (.if_icmp .eq 6, 3) := by decide +kernel
theorem dX7_judge_29 : decode cX7_judge 29 = .ok (.bipush (-12), 2) := by decide +kernel
theorem dX7_judge_31 : decode cX7_judge 31 = .ok (.ireturn, 1) := by decide +kernel
theorem dX7_judge_32 : decode cX7_judge 32 = .ok (.iconst 0, 1) := by decide +kernel
theorem dX7_judge_33 : decode cX7_judge 33 = .ok (.istore_n 3, 1) := by decide +kernel
theorem dX7_judge_34 : decode cX7_judge 34 = .ok (.iload_n 3, 1) := by decide +kernel
theorem dX7_judge_35 : decode cX7_judge 35 = .ok (.aload_n 0, 1) := by decide +kernel
theorem dX7_judge_36 : decode cX7_judge 36 = .ok (.getfield 7, 3) := by decide +kernel
theorem dX7_judge_39 : decode cX7_judge 39 = .ok (.if_icmp .ge 67, 3) := by decide +kernel
theorem dX7_judge_42 : decode cX7_judge 42 = .ok (.aload_n 0, 1) := by decide +kernel
theorem dX7_judge_43 : decode cX7_judge 43 = .ok (.getfield 184, 3) := by decide +kernel
theorem dX7_judge_46 : decode cX7_judge 46 = .ok (.iload_n 1, 1) := by decide +kernel
theorem dX7_judge_47 : decode cX7_judge 47 = .ok (.iaload, 1) := by decide +kernel
theorem dX7_judge_48 : decode cX7_judge 48 = .ok (.ifCond .lt 21, 3) := by decide +kernel
theorem dX7_judge_51 : decode cX7_judge 51 = .ok (.iload_n 2, 1) := by decide +kernel
theorem dX7_judge_52 : decode cX7_judge 52 = .ok (.ifCond .lt 17, 3) := by decide +kernel
theorem dX7_judge_55 : decode cX7_judge 55 = .ok (.iload_n 2, 1) := by decide +kernel
theorem dX7_judge_56 : decode cX7_judge 56 = .ok (.aload_n 0, 1) := by decide +kernel
theorem dX7_judge_57 : decode cX7_judge 57 = .ok (.getfield 187, 3) := by decide +kernel
theorem dX7_judge_60 : decode cX7_judge 60 = .ok (.iload_n 1, 1) := by decide +kernel
theorem dX7_judge_61 : decode cX7_judge 61 = .ok (.iaload, 1) := by decide +kernel
theorem dX7_judge_62 : decode cX7_judge 62 = .ok (.iload_n 3, 1) := by decide +kernel
theorem dX7_judge_63 : decode cX7_judge 63 = .ok (.isub, 1) := by decide +kernel
theorem dX7_judge_64 : decode cX7_judge 64 = .ok (.iconst 1, 1) := by decide +kernel
theorem dX7_judge_65 : decode cX7_judge 65 = .ok (.isub, 1) := by decide +kernel
theorem dX7_judge_66 : decode cX7_judge 66 = .ok (.if_icmp .le 8, 3) := by decide +kernel
theorem dX7_judge_69 : decode cX7_judge 69 = .ok (.bipush 100, 2) := by decide +kernel
theorem dX7_judge_71 : decode cX7_judge 71 = .ok (.iload_n 3, 1) := by decide +kernel
theorem dX7_judge_72 : decode cX7_judge 72 = .ok (.iadd, 1) := by decide +kernel
theorem dX7_judge_73 : decode cX7_judge 73 = .ok (.ireturn, 1) := by decide +kernel
theorem dX7_judge_74 : decode cX7_judge 74 = .ok (.aload_n 0, 1) := by decide +kernel
theorem dX7_judge_75 : decode cX7_judge 75 = .ok (.getfield 190, 3) := by decide +kernel
theorem dX7_judge_78 : decode cX7_judge 78 = .ok (.bipush 60, 2) := by decide +kernel
theorem dX7_judge_80 : decode cX7_judge 80 = .ok (.iload_n 1, 1) := by decide +kernel
theorem dX7_judge_81 : decode cX7_judge 81 = .ok (.imul, 1) := by decide +kernel
theorem dX7_judge_82 : decode cX7_judge 82 = .ok (.iload_n 2, 1) := by decide +kernel
theorem dX7_judge_83 : decode cX7_judge 83 = .ok (.iadd, 1) := by decide +kernel
theorem dX7_judge_84 : decode cX7_judge 84 = .ok (.iload_n 3, 1) := by decide +kernel
theorem dX7_judge_85 : decode cX7_judge 85 = .ok (.iadd, 1) := by decide +kernel
theorem dX7_judge_86 : decode cX7_judge 86 = .ok (.laload, 1) := by decide +kernel
theorem dX7_judge_87 : decode cX7_judge 87 = .ok (.aload_n 0, 1) := by decide +kernel
theorem dX7_judge_88 : decode cX7_judge 88 = .ok (.getfield 23, 3) := by decide +kernel
theorem dX7_judge_91 : decode cX7_judge 91 = .ok (.iload_n 3, 1) := by decide +kernel
theorem dX7_judge_92 : decode cX7_judge 92 = .ok (.iaload, 1) := by decide +kernel
theorem dX7_judge_93 : decode cX7_judge 93 = .ok (.i2l, 1) := by decide +kernel
theorem dX7_judge_94 : decode cX7_judge 94 = .ok (.lcmp, 1) := by decide +kernel
theorem dX7_judge_95 : decode cX7_judge 95 = .ok (.ifCond .eq 5, 3) := by decide +kernel
theorem dX7_judge_98 : decode cX7_judge 98 = .ok (.iload_n 3, 1) := by decide +kernel
theorem dX7_judge_99 : decode cX7_judge 99 = .ok (.ireturn, 1) := by decide +kernel
theorem dX7_judge_100 : decode cX7_judge 100 = .ok (.iinc 3 1, 3) := by decide +kernel
theorem dX7_judge_103 : decode cX7_judge 103 = .ok (.goto (-69), 3) := by decide +kernel
theorem dX7_judge_106 : decode cX7_judge 106 = .ok (.bipush (-5), 2) := by decide +kernel
theorem dX7_judge_108 : decode cX7_judge 108 = .ok (.ireturn, 1) := by decide +kernel
theorem dX7_image_0 : decode cX7_image 0 = .ok (.aload_n 0, 1) := by decide +kernel
theorem dX7_image_1 : decode cX7_image 1 = .ok (.iconst 1, 1) := by decide +kernel
theorem dX7_image_2 : decode cX7_image 2 = .ok (.putfield 138, 3) := by decide +kernel
theorem dX7_image_5 : decode cX7_image 5 = .ok (.aload_n 0, 1) := by decide +kernel
theorem dX7_image_6 : decode cX7_image 6 = .ok (.aload_n 0, 1) := by decide +kernel
theorem dX7_image_7 : decode cX7_image 7 = .ok (.getfield 32, 3) := by decide +kernel
theorem dX7_image_10 : decode cX7_image 10 = .ok (.putfield 142, 3) := by decide +kernel
theorem dX7_image_13 : decode cX7_image 13 = .ok (.aload_n 0, 1) := by decide +kernel
theorem dX7_image_14 : decode cX7_image 14 = .ok (.aload_n 0, 1) := by decide +kernel
theorem dX7_image_15 : decode cX7_image 15 = .ok (.getfield 7, 3) := by decide +kernel
theorem dX7_image_18 : decode cX7_image 18 = .ok (.putfield 145, 3) := by decide +kernel
theorem dX7_image_21 : decode cX7_image 21 = .ok (.aload_n 0, 1) := by decide +kernel
theorem dX7_image_22 : decode cX7_image 22 = .ok (.aload_n 0, 1) := by decide +kernel
theorem dX7_image_23 : decode cX7_image 23 = .ok (.getfield 13, 3) := by decide +kernel
theorem dX7_image_26 : decode cX7_image 26 = .ok (.putfield 148, 3) := by decide +kernel
theorem dX7_image_29 : decode cX7_image 29 = .ok (.aload_n 0, 1) := by decide +kernel
theorem dX7_image_30 : decode cX7_image 30 = .ok (.aload_n 0, 1) := by decide +kernel
theorem dX7_image_31 : decode cX7_image 31 = .ok (.getfield 123, 3) := by decide +kernel
theorem dX7_image_34 : decode cX7_image 34 = .ok (.putfield 151, 3) := by decide +kernel
theorem dX7_image_37 : decode cX7_image 37 = .ok (.aload_n 0, 1) := by decide +kernel
theorem dX7_image_38 : decode cX7_image 38 = .ok (.aload_n 0, 1) := by decide +kernel
theorem dX7_image_39 : decode cX7_image 39 = .ok (.getfield 132, 3) := by decide +kernel
theorem dX7_image_42 : decode cX7_image 42 = .ok (.putfield 154, 3) := by decide +kernel
theorem dX7_image_45 : decode cX7_image 45 = .ok (.iconst 0, 1) := by decide +kernel
theorem dX7_image_46 : decode cX7_image 46 = .ok (.istore_n 1, 1) := by decide +kernel
theorem dX7_image_47 : decode cX7_image 47 = .ok (.iload_n 1, 1) := by decide +kernel
theorem dX7_image_48 : decode cX7_image 48 = .ok (.bipush 8, 2) := by decide +kernel
theorem dX7_image_50 : decode cX7_image 50 = .ok (.if_icmp .ge 69, 3) := by decide +kernel
theorem dX7_image_53 : decode cX7_image 53 = .ok (.aload_n 0, 1) := by decide +kernel
theorem dX7_image_54 : decode cX7_image 54 = .ok (.getfield 157, 3) := by decide +kernel
theorem dX7_image_57 : decode cX7_image 57 = .ok (.iload_n 1, 1) := by decide +kernel
theorem dX7_image_58 : decode cX7_image 58 = .ok (.aload_n 0, 1) := by decide +kernel
theorem dX7_image_59 : decode cX7_image 59 = .ok (.getfield 16, 3) := by decide +kernel
theorem dX7_image_62 : decode cX7_image 62 = .ok (.iload_n 1, 1) := by decide +kernel
theorem dX7_image_63 : decode cX7_image 63 = .ok (.iaload, 1) := by decide +kernel
theorem dX7_image_64 : decode cX7_image 64 = .ok (.iastore, 1) := by decide +kernel
theorem dX7_image_65 : decode cX7_image 65 = .ok (.aload_n 0, 1) := by decide +kernel
theorem dX7_image_66 : decode cX7_image 66 = .ok (.getfield 160, 3) := by decide +kernel
theorem dX7_image_69 : decode cX7_image 69 = .ok (.iload_n 1, 1) := by decide +kernel
theorem dX7_image_70 : decode cX7_image 70 = .ok (.aload_n 0, 1) := by decide +kernel
theorem dX7_image_71 : decode cX7_image 71 = .ok (.getfield 20, 3) := by decide +kernel
theorem dX7_image_74 : decode cX7_image 74 = .ok (.iload_n 1, 1) := by decide +kernel
theorem dX7_image_75 : decode cX7_image 75 = .ok (.iaload, 1) := by decide +kernel
theorem dX7_image_76 : decode cX7_image 76 = .ok (.iastore, 1) := by decide +kernel
theorem dX7_image_77 : decode cX7_image 77 = .ok (.aload_n 0, 1) := by decide +kernel
theorem dX7_image_78 : decode cX7_image 78 = .ok (.getfield 163, 3) := by decide +kernel
theorem dX7_image_81 : decode cX7_image 81 = .ok (.iload_n 1, 1) := by decide +kernel
theorem dX7_image_82 : decode cX7_image 82 = .ok (.aload_n 0, 1) := by decide +kernel
theorem dX7_image_83 : decode cX7_image 83 = .ok (.getfield 23, 3) := by decide +kernel
theorem dX7_image_86 : decode cX7_image 86 = .ok (.iload_n 1, 1) := by decide +kernel
theorem dX7_image_87 : decode cX7_image 87 = .ok (.iaload, 1) := by decide +kernel
theorem dX7_image_88 : decode cX7_image 88 = .ok (.iastore, 1) := by decide +kernel
theorem dX7_image_89 : decode cX7_image 89 = .ok (.aload_n 0, 1) := by decide +kernel
theorem dX7_image_90 : decode cX7_image 90 = .ok (.getfield 169, 3) := by decide +kernel
theorem dX7_image_93 : decode cX7_image 93 = .ok (.iload_n 1, 1) := by decide +kernel
theorem dX7_image_94 : decode cX7_image 94 = .ok (.aload_n 0, 1) := by decide +kernel
theorem dX7_image_95 : decode cX7_image 95 = .ok (.getfield 126, 3) := by decide +kernel
theorem dX7_image_98 : decode cX7_image 98 = .ok (.iload_n 1, 1) := by decide +kernel
theorem dX7_image_99 : decode cX7_image 99 = .ok (.iaload, 1) := by decide +kernel
theorem dX7_image_100 : decode cX7_image 100 = .ok (.iastore, 1) := by decide +kernel
theorem dX7_image_101 : decode cX7_image 101 = .ok (.aload_n 0, 1) := by decide +kernel
theorem dX7_image_102 : decode cX7_image 102 = .ok (.getfield 172, 3) := by decide +kernel
theorem dX7_image_105 : decode cX7_image 105 = .ok (.iload_n 1, 1) := by decide +kernel
theorem dX7_image_106 : decode cX7_image 106 = .ok (.aload_n 0, 1) := by decide +kernel
theorem dX7_image_107 : decode cX7_image 107 = .ok (.getfield 129, 3) := by decide +kernel
theorem dX7_image_110 : decode cX7_image 110 = .ok (.iload_n 1, 1) := by decide +kernel
theorem dX7_image_111 : decode cX7_image 111 = .ok (.iaload, 1) := by decide +kernel
theorem dX7_image_112 : decode cX7_image 112 = .ok (.iastore, 1) := by decide +kernel
theorem dX7_image_113 : decode cX7_image 113 = .ok (.iinc 1 1, 3) := by decide +kernel
theorem dX7_image_116 : decode cX7_image 116 = .ok (.goto (-69), 3) := by decide +kernel
theorem dX7_image_119 : decode cX7_image 119 = .ok (.iconst 0, 1) := by decide +kernel
theorem dX7_image_120 : decode cX7_image 120 = .ok (.istore_n 1, 1) := by decide +kernel
theorem dX7_image_121 : decode cX7_image 121 = .ok (.iload_n 1, 1) := by decide +kernel
theorem dX7_image_122 : decode cX7_image 122 = .ok (.bipush 32, 2) := by decide +kernel
theorem dX7_image_124 : decode cX7_image 124 = .ok (.if_icmp .ge 21, 3) := by decide +kernel
theorem dX7_image_127 : decode cX7_image 127 = .ok (.aload_n 0, 1) := by decide +kernel
theorem dX7_image_128 : decode cX7_image 128 = .ok (.getfield 166, 3) := by decide +kernel
theorem dX7_image_131 : decode cX7_image 131 = .ok (.iload_n 1, 1) := by decide +kernel
theorem dX7_image_132 : decode cX7_image 132 = .ok (.aload_n 0, 1) := by decide +kernel
theorem dX7_image_133 : decode cX7_image 133 = .ok (.getfield 26, 3) := by decide +kernel
theorem dX7_image_136 : decode cX7_image 136 = .ok (.iload_n 1, 1) := by decide +kernel
theorem dX7_image_137 : decode cX7_image 137 = .ok (.iaload, 1) := by decide +kernel
theorem dX7_image_138 : decode cX7_image 138 = .ok (.iastore, 1) := by decide +kernel
theorem dX7_image_139 : decode cX7_image 139 = .ok (.iinc 1 1, 3) := by decide +kernel
theorem dX7_image_142 : decode cX7_image 142 = .ok (.goto (-21), 3) := by decide +kernel
theorem dX7_image_145 : decode cX7_image 145 = .ok (.iconst 0, 1) := by decide +kernel
theorem dX7_image_146 : decode cX7_image 146 = .ok (.istore_n 1, 1) := by decide +kernel
theorem dX7_image_147 : decode cX7_image 147 = .ok (.iload_n 1, 1) := by decide +kernel
theorem dX7_image_148 : decode cX7_image 148 = .ok (.bipush 12, 2) := by decide +kernel
theorem dX7_image_150 : decode cX7_image 150 = .ok (.if_icmp .ge 21, 3) := by decide +kernel
theorem dX7_image_153 : decode cX7_image 153 = .ok (.aload_n 0, 1) := by decide +kernel
theorem dX7_image_154 : decode cX7_image 154 = .ok (.getfield 175, 3) := by decide +kernel
theorem dX7_image_157 : decode cX7_image 157 = .ok (.iload_n 1, 1) := by decide +kernel
theorem dX7_image_158 : decode cX7_image 158 = .ok (.aload_n 0, 1) := by decide +kernel
theorem dX7_image_159 : decode cX7_image 159 = .ok (.getfield 135, 3) := by decide +kernel
theorem dX7_image_162 : decode cX7_image 162 = .ok (.iload_n 1, 1) := by decide +kernel
theorem dX7_image_163 : decode cX7_image 163 = .ok (.iaload, 1) := by decide +kernel
theorem dX7_image_164 : decode cX7_image 164 = .ok (.iastore, 1) := by decide +kernel
theorem dX7_image_165 : decode cX7_image 165 = .ok (.iinc 1 1, 3) := by decide +kernel
theorem dX7_image_168 : decode cX7_image 168 = .ok (.goto (-21), 3) := by decide +kernel
theorem dX7_image_171 : decode cX7_image 171 = .ok (.aload_n 0, 1) := by decide +kernel
theorem dX7_image_172 : decode cX7_image 172 = .ok (.getfield 7, 3) := by decide +kernel
theorem dX7_image_175 : decode cX7_image 175 = .ok (.ireturn, 1) := by decide +kernel
theorem dX7_undo_0 : decode cX7_undo 0 = .ok (.aload_n 0, 1) := by decide +kernel
theorem dX7_undo_1 : decode cX7_undo 1 = .ok (.getfield 138, 3) := by decide +kernel
theorem dX7_undo_4 : decode cX7_undo 4 = .ok (.ifCond .ne 6, 3) := by decide +kernel
theorem dX7_undo_7 : decode cX7_undo 7 = .ok (.bipush (-3), 2) := by decide +kernel
theorem dX7_undo_9 : decode cX7_undo 9 = .ok (.ireturn, 1) := by decide +kernel
theorem dX7_undo_10 : decode cX7_undo 10 = .ok (.aload_n 0, 1) := by decide +kernel
theorem dX7_undo_11 : decode cX7_undo 11 = .ok (.aload_n 0, 1) := by decide +kernel
theorem dX7_undo_12 : decode cX7_undo 12 = .ok (.getfield 142, 3) := by decide +kernel
theorem dX7_undo_15 : decode cX7_undo 15 = .ok (.putfield 32, 3) := by decide +kernel
theorem dX7_undo_18 : decode cX7_undo 18 = .ok (.aload_n 0, 1) := by decide +kernel
theorem dX7_undo_19 : decode cX7_undo 19 = .ok (.aload_n 0, 1) := by decide +kernel
theorem dX7_undo_20 : decode cX7_undo 20 = .ok (.getfield 145, 3) := by decide +kernel
theorem dX7_undo_23 : decode cX7_undo 23 = .ok (.putfield 7, 3) := by decide +kernel
theorem dX7_undo_26 : decode cX7_undo 26 = .ok (.aload_n 0, 1) := by decide +kernel
theorem dX7_undo_27 : decode cX7_undo 27 = .ok (.aload_n 0, 1) := by decide +kernel
theorem dX7_undo_28 : decode cX7_undo 28 = .ok (.getfield 148, 3) := by decide +kernel
theorem dX7_undo_31 : decode cX7_undo 31 = .ok (.putfield 13, 3) := by decide +kernel
theorem dX7_undo_34 : decode cX7_undo 34 = .ok (.aload_n 0, 1) := by decide +kernel
theorem dX7_undo_35 : decode cX7_undo 35 = .ok (.aload_n 0, 1) := by decide +kernel
theorem dX7_undo_36 : decode cX7_undo 36 = .ok (.getfield 151, 3) := by decide +kernel
theorem dX7_undo_39 : decode cX7_undo 39 = .ok (.putfield 123, 3) := by decide +kernel
theorem dX7_undo_42 : decode cX7_undo 42 = .ok (.aload_n 0, 1) := by decide +kernel
theorem dX7_undo_43 : decode cX7_undo 43 = .ok (.aload_n 0, 1) := by decide +kernel
theorem dX7_undo_44 : decode cX7_undo 44 = .ok (.getfield 154, 3) := by decide +kernel
theorem dX7_undo_47 : decode cX7_undo 47 = .ok (.putfield 132, 3) := by decide +kernel
theorem dX7_undo_50 : decode cX7_undo 50 = .ok (.iconst 0, 1) := by decide +kernel
theorem dX7_undo_51 : decode cX7_undo 51 = .ok (.istore_n 1, 1) := by decide +kernel
theorem dX7_undo_52 : decode cX7_undo 52 = .ok (.iload_n 1, 1) := by decide +kernel
theorem dX7_undo_53 : decode cX7_undo 53 = .ok (.bipush 8, 2) := by decide +kernel
theorem dX7_undo_55 : decode cX7_undo 55 = .ok (.if_icmp .ge 69, 3) := by decide +kernel
theorem dX7_undo_58 : decode cX7_undo 58 = .ok (.aload_n 0, 1) := by decide +kernel
theorem dX7_undo_59 : decode cX7_undo 59 = .ok (.getfield 16, 3) := by decide +kernel
theorem dX7_undo_62 : decode cX7_undo 62 = .ok (.iload_n 1, 1) := by decide +kernel
theorem dX7_undo_63 : decode cX7_undo 63 = .ok (.aload_n 0, 1) := by decide +kernel
theorem dX7_undo_64 : decode cX7_undo 64 = .ok (.getfield 157, 3) := by decide +kernel
theorem dX7_undo_67 : decode cX7_undo 67 = .ok (.iload_n 1, 1) := by decide +kernel
theorem dX7_undo_68 : decode cX7_undo 68 = .ok (.iaload, 1) := by decide +kernel
theorem dX7_undo_69 : decode cX7_undo 69 = .ok (.iastore, 1) := by decide +kernel
theorem dX7_undo_70 : decode cX7_undo 70 = .ok (.aload_n 0, 1) := by decide +kernel
theorem dX7_undo_71 : decode cX7_undo 71 = .ok (.getfield 20, 3) := by decide +kernel
theorem dX7_undo_74 : decode cX7_undo 74 = .ok (.iload_n 1, 1) := by decide +kernel
theorem dX7_undo_75 : decode cX7_undo 75 = .ok (.aload_n 0, 1) := by decide +kernel
theorem dX7_undo_76 : decode cX7_undo 76 = .ok (.getfield 160, 3) := by decide +kernel
theorem dX7_undo_79 : decode cX7_undo 79 = .ok (.iload_n 1, 1) := by decide +kernel
theorem dX7_undo_80 : decode cX7_undo 80 = .ok (.iaload, 1) := by decide +kernel
theorem dX7_undo_81 : decode cX7_undo 81 = .ok (.iastore, 1) := by decide +kernel
theorem dX7_undo_82 : decode cX7_undo 82 = .ok (.aload_n 0, 1) := by decide +kernel
theorem dX7_undo_83 : decode cX7_undo 83 = .ok (.getfield 23, 3) := by decide +kernel
theorem dX7_undo_86 : decode cX7_undo 86 = .ok (.iload_n 1, 1) := by decide +kernel
theorem dX7_undo_87 : decode cX7_undo 87 = .ok (.aload_n 0, 1) := by decide +kernel
theorem dX7_undo_88 : decode cX7_undo 88 = .ok (.getfield 163, 3) := by decide +kernel
theorem dX7_undo_91 : decode cX7_undo 91 = .ok (.iload_n 1, 1) := by decide +kernel
theorem dX7_undo_92 : decode cX7_undo 92 = .ok (.iaload, 1) := by decide +kernel
theorem dX7_undo_93 : decode cX7_undo 93 = .ok (.iastore, 1) := by decide +kernel
theorem dX7_undo_94 : decode cX7_undo 94 = .ok (.aload_n 0, 1) := by decide +kernel
theorem dX7_undo_95 : decode cX7_undo 95 = .ok (.getfield 126, 3) := by decide +kernel
theorem dX7_undo_98 : decode cX7_undo 98 = .ok (.iload_n 1, 1) := by decide +kernel
theorem dX7_undo_99 : decode cX7_undo 99 = .ok (.aload_n 0, 1) := by decide +kernel
theorem dX7_undo_100 : decode cX7_undo 100 = .ok (.getfield 169, 3) := by decide +kernel
theorem dX7_undo_103 : decode cX7_undo 103 = .ok (.iload_n 1, 1) := by decide +kernel
theorem dX7_undo_104 : decode cX7_undo 104 = .ok (.iaload, 1) := by decide +kernel
theorem dX7_undo_105 : decode cX7_undo 105 = .ok (.iastore, 1) := by decide +kernel
theorem dX7_undo_106 : decode cX7_undo 106 = .ok (.aload_n 0, 1) := by decide +kernel
theorem dX7_undo_107 : decode cX7_undo 107 = .ok (.getfield 129, 3) := by decide +kernel
theorem dX7_undo_110 : decode cX7_undo 110 = .ok (.iload_n 1, 1) := by decide +kernel
theorem dX7_undo_111 : decode cX7_undo 111 = .ok (.aload_n 0, 1) := by decide +kernel
theorem dX7_undo_112 : decode cX7_undo 112 = .ok (.getfield 172, 3) := by decide +kernel
theorem dX7_undo_115 : decode cX7_undo 115 = .ok (.iload_n 1, 1) := by decide +kernel
theorem dX7_undo_116 : decode cX7_undo 116 = .ok (.iaload, 1) := by decide +kernel
theorem dX7_undo_117 : decode cX7_undo 117 = .ok (.iastore, 1) := by decide +kernel
theorem dX7_undo_118 : decode cX7_undo 118 = .ok (.iinc 1 1, 3) := by decide +kernel
theorem dX7_undo_121 : decode cX7_undo 121 = .ok (.goto (-69), 3) := by decide +kernel
theorem dX7_undo_124 : decode cX7_undo 124 = .ok (.iconst 0, 1) := by decide +kernel
theorem dX7_undo_125 : decode cX7_undo 125 = .ok (.istore_n 1, 1) := by decide +kernel
theorem dX7_undo_126 : decode cX7_undo 126 = .ok (.iload_n 1, 1) := by decide +kernel
theorem dX7_undo_127 : decode cX7_undo 127 = .ok (.bipush 32, 2) := by decide +kernel
theorem dX7_undo_129 : decode cX7_undo 129 = .ok (.if_icmp .ge 21, 3) := by decide +kernel
theorem dX7_undo_132 : decode cX7_undo 132 = .ok (.aload_n 0, 1) := by decide +kernel
theorem dX7_undo_133 : decode cX7_undo 133 = .ok (.getfield 26, 3) := by decide +kernel
theorem dX7_undo_136 : decode cX7_undo 136 = .ok (.iload_n 1, 1) := by decide +kernel
theorem dX7_undo_137 : decode cX7_undo 137 = .ok (.aload_n 0, 1) := by decide +kernel
theorem dX7_undo_138 : decode cX7_undo 138 = .ok (.getfield 166, 3) := by decide +kernel
theorem dX7_undo_141 : decode cX7_undo 141 = .ok (.iload_n 1, 1) := by decide +kernel
theorem dX7_undo_142 : decode cX7_undo 142 = .ok (.iaload, 1) := by decide +kernel
theorem dX7_undo_143 : decode cX7_undo 143 = .ok (.iastore, 1) := by decide +kernel
theorem dX7_undo_144 : decode cX7_undo 144 = .ok (.iinc 1 1, 3) := by decide +kernel
theorem dX7_undo_147 : decode cX7_undo 147 = .ok (.goto (-21), 3) := by decide +kernel
theorem dX7_undo_150 : decode cX7_undo 150 = .ok (.iconst 0, 1) := by decide +kernel
theorem dX7_undo_151 : decode cX7_undo 151 = .ok (.istore_n 1, 1) := by decide +kernel
theorem dX7_undo_152 : decode cX7_undo 152 = .ok (.iload_n 1, 1) := by decide +kernel
theorem dX7_undo_153 : decode cX7_undo 153 = .ok (.bipush 12, 2) := by decide +kernel
theorem dX7_undo_155 : decode cX7_undo 155 = .ok (.if_icmp .ge 21, 3) := by decide +kernel
theorem dX7_undo_158 : decode cX7_undo 158 = .ok (.aload_n 0, 1) := by decide +kernel
theorem dX7_undo_159 : decode cX7_undo 159 = .ok (.getfield 135, 3) := by decide +kernel
theorem dX7_undo_162 : decode cX7_undo 162 = .ok (.iload_n 1, 1) := by decide +kernel
theorem dX7_undo_163 : decode cX7_undo 163 = .ok (.aload_n 0, 1) := by decide +kernel
theorem dX7_undo_164 : decode cX7_undo 164 = .ok (.getfield 175, 3) := by decide +kernel
theorem dX7_undo_167 : decode cX7_undo 167 = .ok (.iload_n 1, 1) := by decide +kernel
theorem dX7_undo_168 : decode cX7_undo 168 = .ok (.iaload, 1) := by decide +kernel
theorem dX7_undo_169 : decode cX7_undo 169 = .ok (.iastore, 1) := by decide +kernel
theorem dX7_undo_170 : decode cX7_undo 170 = .ok (.iinc 1 1, 3) := by decide +kernel
theorem dX7_undo_173 : decode cX7_undo 173 = .ok (.goto (-21), 3) := by decide +kernel
theorem dX7_undo_176 : decode cX7_undo 176 = .ok (.aload_n 0, 1) := by decide +kernel
theorem dX7_undo_177 : decode cX7_undo 177 = .ok (.getfield 7, 3) := by decide +kernel
theorem dX7_undo_180 : decode cX7_undo 180 = .ok (.ireturn, 1) := by decide +kernel
theorem dX7_body_0 : decode cX7_body 0 = .ok (.aload_n 0, 1) := by decide +kernel
theorem dX7_body_1 : decode cX7_body 1 = .ok (.getfield 178, 3) := by decide +kernel
theorem dX7_body_4 : decode cX7_body 4 = .ok (.bipush 20, 2) := by decide +kernel
theorem dX7_body_6 : decode cX7_body 6 = .ok (.if_icmp .ge 13, 3) := by decide +kernel
theorem dX7_body_9 : decode cX7_body 9 = .ok (.aload_n 0, 1) := by decide +kernel
theorem dX7_body_10 : decode cX7_body 10 = .ok (.getfield 181, 3) := by decide +kernel
theorem dX7_body_13 : decode cX7_body 13 = .ok (.aload_n 0, 1) := by decide +kernel
theorem dX7_body_14 : decode cX7_body 14 = .ok (.getfield 178, 3) := by decide +kernel
theorem dX7_body_17 : decode cX7_body 17 = .ok (.iload_n 1, 1) := by decide +kernel
theorem dX7_body_18 : decode cX7_body 18 = .ok (.iastore, 1) := by decide +kernel
theorem dX7_body_19 : decode cX7_body 19 = .ok (.aload_n 0, 1) := by decide +kernel
theorem dX7_body_20 : decode cX7_body 20 = .ok (.dup, 1) := by decide +kernel
theorem dX7_body_21 : decode cX7_body 21 = .ok (.getfield 178, 3) := by decide +kernel
theorem dX7_body_24 : decode cX7_body 24 = .ok (.iconst 1, 1) := by decide +kernel
theorem dX7_body_25 : decode cX7_body 25 = .ok (.iadd, 1) := by decide +kernel
theorem dX7_body_26 : decode cX7_body 26 = .ok (.putfield 178, 3) := by decide +kernel
theorem dX7_body_29 : decode cX7_body 29 = .ok (.return_, 1) := by decide +kernel
theorem dX7_houseEarns_0 : decode cX7_houseEarns 0 = .ok (.aload_n 0, 1) := by decide +kernel
theorem dX7_houseEarns_1 : decode cX7_houseEarns 1 = .ok (.bipush 10, 2) := by decide +kernel
theorem dX7_houseEarns_3 : decode cX7_houseEarns 3 = .ok (.invokevirtual 383, 3) := by decide +kernel
theorem dX7_houseEarns_6 : decode cX7_houseEarns 6 = .ok (.iload_n 2, 1) := by decide +kernel
theorem dX7_houseEarns_7 : decode cX7_houseEarns 7 = .ok (.iload_n 1, 1) := by decide +kernel
theorem dX7_houseEarns_8 : decode cX7_houseEarns 8 = .ok (.iadd, 1) := by decide +kernel
theorem dX7_houseEarns_9 : decode cX7_houseEarns 9 = .ok (.ireturn, 1) := by decide +kernel
theorem dX7_earnsAct_0 : decode cX7_earnsAct 0 = .ok (.aload_n 0, 1) := by decide +kernel
theorem dX7_earnsAct_1 : decode cX7_earnsAct 1 = .ok (.getfield 16, 3) := by decide +kernel
theorem dX7_earnsAct_4 : decode cX7_earnsAct 4 = .ok (.iload_n 1, 1) := by decide +kernel
theorem dX7_earnsAct_5 : decode cX7_earnsAct 5 = .ok (.iaload, 1) := by decide +kernel
theorem dX7_earnsAct_6 : decode cX7_earnsAct 6 = .ok (.tableswitch 83 2 6 #[34, 83, 49, 34, 63], 34) := by decide +kernel
theorem dX7_earnsAct_40 : decode cX7_earnsAct 40 = .ok (.aload_n 0, 1) := by decide +kernel
theorem dX7_earnsAct_41 : decode cX7_earnsAct 41 = .ok (.bipush 30, 2) := by decide +kernel
theorem dX7_earnsAct_43 : decode cX7_earnsAct 43 = .ok (.invokevirtual 383, 3) := by decide +kernel
theorem dX7_earnsAct_46 : decode cX7_earnsAct 46 = .ok (.aload_n 0, 1) := by decide +kernel
theorem dX7_earnsAct_47 : decode cX7_earnsAct 47 = .ok (.iload_n 1, 1) := by decide +kernel
theorem dX7_earnsAct_48 : decode cX7_earnsAct 48 = .ok (.iload_n 2, 1) := by decide +kernel
theorem dX7_earnsAct_49 : decode cX7_earnsAct 49 = .ok (.iconst 3, 1) := by decide +kernel
theorem dX7_earnsAct_50 : decode cX7_earnsAct 50 = .ok (.imul, 1) := by decide +kernel
theorem dX7_earnsAct_51 : decode cX7_earnsAct 51 = .ok (.invokevirtual 386, 3) := by decide +kernel
theorem dX7_earnsAct_54 : decode cX7_earnsAct 54 = .ok (.ireturn, 1) := by decide +kernel
theorem dX7_earnsAct_55 : decode cX7_earnsAct 55 = .ok (.aload_n 0, 1) := by decide +kernel
theorem dX7_earnsAct_56 : decode cX7_earnsAct 56 = .ok (.bipush 50, 2) := by decide +kernel
theorem dX7_earnsAct_58 : decode cX7_earnsAct 58 = .ok (.invokevirtual 383, 3) := by decide +kernel
theorem dX7_earnsAct_61 : decode cX7_earnsAct 61 = .ok (.aload_n 0, 1) := by decide +kernel
theorem dX7_earnsAct_62 : decode cX7_earnsAct 62 = .ok (.iload_n 1, 1) := by decide +kernel
theorem dX7_earnsAct_63 : decode cX7_earnsAct 63 = .ok (.iload_n 2, 1) := by decide +kernel
theorem dX7_earnsAct_64 : decode cX7_earnsAct 64 = .ok (.invokevirtual 386, 3) := by decide +kernel
theorem dX7_earnsAct_67 : decode cX7_earnsAct 67 = .ok (.ineg, 1) := by decide +kernel
theorem dX7_earnsAct_68 : decode cX7_earnsAct 68 = .ok (.ireturn, 1) := by decide +kernel
theorem dX7_earnsAct_69 : decode cX7_earnsAct 69 = .ok (.aload_n 0, 1) := by decide +kernel
theorem dX7_earnsAct_70 : decode cX7_earnsAct 70 = .ok (.bipush 71, 2) := by decide +kernel
theorem dX7_earnsAct_72 : decode cX7_earnsAct 72 = .ok (.invokevirtual 383, 3) := by decide +kernel
theorem dX7_earnsAct_75 : decode cX7_earnsAct 75 = .ok (.aload_n 0, 1) := by decide +kernel
theorem dX7_earnsAct_76 : decode cX7_earnsAct 76 = .ok (.iload_n 1, 1) := by decide +kernel
theorem dX7_earnsAct_77 : decode cX7_earnsAct 77 = .ok (.iload_n 2, 1) := by decide +kernel
theorem dX7_earnsAct_78 : decode cX7_earnsAct 78 = .ok (.invokevirtual 386, 3) := by decide +kernel
theorem dX7_earnsAct_81 : decode cX7_earnsAct 81 = .ok (.aload_n 0, 1) := by decide +kernel
theorem dX7_earnsAct_82 : decode cX7_earnsAct 82 = .ok (.getfield 20, 3) := by decide +kernel
theorem dX7_earnsAct_85 : decode cX7_earnsAct 85 = .ok (.iload_n 1, 1) := by decide +kernel
theorem dX7_earnsAct_86 : decode cX7_earnsAct 86 = .ok (.iaload, 1) := by decide +kernel
theorem dX7_earnsAct_87 : decode cX7_earnsAct 87 = .ok (.ixor, 1) := by decide +kernel
theorem dX7_earnsAct_88 : decode cX7_earnsAct 88 = .ok (.ireturn, 1) := by decide +kernel
theorem dX7_earnsAct_89 : decode cX7_earnsAct 89 = .ok (.aload_n 0, 1) := by decide +kernel
theorem dX7_earnsAct_90 : decode cX7_earnsAct 90 = .ok (.iload_n 1, 1) := by decide +kernel
theorem dX7_earnsAct_91 : decode cX7_earnsAct 91 = .ok (.iload_n 2, 1) := by decide +kernel
theorem dX7_earnsAct_92 : decode cX7_earnsAct 92 = .ok (.invokevirtual 386, 3) := by decide +kernel
theorem dX7_earnsAct_95 : decode cX7_earnsAct 95 = .ok (.ireturn, 1) := by decide +kernel
theorem dX7_houseSays_0 : decode cX7_houseSays 0 = .ok (.aload_n 0, 1) := by decide +kernel
theorem dX7_houseSays_1 : decode cX7_houseSays 1 = .ok (.bipush 11, 2) := by decide +kernel
theorem dX7_houseSays_3 : decode cX7_houseSays 3 = .ok (.invokevirtual 383, 3) := by decide +kernel
theorem dX7_houseSays_6 : decode cX7_houseSays 6 = .ok (.aload_n 0, 1) := by decide +kernel
theorem dX7_houseSays_7 : decode cX7_houseSays 7 = .ok (.iload_n 1, 1) := by decide +kernel
theorem dX7_houseSays_8 : decode cX7_houseSays 8 = .ok (.iload_n 2, 1) := by decide +kernel
theorem dX7_houseSays_9 : decode cX7_houseSays 9 = .ok (.invokevirtual 389, 3) := by decide +kernel
theorem dX7_houseSays_12 : decode cX7_houseSays 12 = .ok (.aload_n 0, 1) := by decide +kernel
theorem dX7_houseSays_13 : decode cX7_houseSays 13 = .ok (.getfield 20, 3) := by decide +kernel
theorem dX7_houseSays_16 : decode cX7_houseSays 16 = .ok (.iload_n 1, 1) := by decide +kernel
theorem dX7_houseSays_17 : decode cX7_houseSays 17 = .ok (.iaload, 1) := by decide +kernel
theorem dX7_houseSays_18 : decode cX7_houseSays 18 = .ok (.isub, 1) := by decide +kernel
theorem dX7_houseSays_19 : decode cX7_houseSays 19 = .ok (.ireturn, 1) := by decide +kernel
theorem dX7_proudSays_0 : decode cX7_proudSays 0 = .ok (.aload_n 0, 1) := by decide +kernel
theorem dX7_proudSays_1 : decode cX7_proudSays 1 = .ok (.bipush 20, 2) := by decide +kernel
theorem dX7_proudSays_3 : decode cX7_proudSays 3 = .ok (.invokevirtual 383, 3) := by decide +kernel
theorem dX7_proudSays_6 : decode cX7_proudSays 6 = .ok (.aload_n 0, 1) := by decide +kernel
theorem dX7_proudSays_7 : decode cX7_proudSays 7 = .ok (.iload_n 1, 1) := by decide +kernel
theorem dX7_proudSays_8 : decode cX7_proudSays 8 = .ok (.iload_n 2, 1) := by decide +kernel
theorem dX7_proudSays_9 : decode cX7_proudSays 9 = .ok (.invokevirtual 392, 3) := by decide +kernel
theorem dX7_proudSays_12 : decode cX7_proudSays 12 = .ok (.bipush 6, 2) := by decide +kernel
theorem dX7_proudSays_14 : decode cX7_proudSays 14 = .ok (.ixor, 1) := by decide +kernel
theorem dX7_proudSays_15 : decode cX7_proudSays 15 = .ok (.ireturn, 1) := by decide +kernel
theorem dX7_saysAct_0 : decode cX7_saysAct 0 = .ok (.aload_n 0, 1) := by decide +kernel
theorem dX7_saysAct_1 : decode cX7_saysAct 1 = .ok (.getfield 16, 3) := by decide +kernel
theorem dX7_saysAct_4 : decode cX7_saysAct 4 = .ok (.iload_n 1, 1) := by decide +kernel
theorem dX7_saysAct_5 : decode cX7_saysAct 5 = .ok (.iaload, 1) := by decide +kernel
theorem dX7_saysAct_6 : decode cX7_saysAct 6 = .ok (.lookupswitch 78 #[(1, 34), (4, 41), (6, 56)], 34) := by decide +kernel
theorem dX7_saysAct_40 : decode cX7_saysAct 40 = .ok (.aload_n 0, 1) := by decide +kernel
theorem dX7_saysAct_41 : decode cX7_saysAct 41 = .ok (.iload_n 1, 1) := by decide +kernel
theorem dX7_saysAct_42 : decode cX7_saysAct 42 = .ok (.iload_n 2, 1) := by decide +kernel
theorem dX7_saysAct_43 : decode cX7_saysAct 43 = .ok (.invokevirtual 395, 3) := by decide +kernel
theorem dX7_saysAct_46 : decode cX7_saysAct 46 = .ok (.ireturn, 1) := by decide +kernel
theorem dX7_saysAct_47 : decode cX7_saysAct 47 = .ok (.aload_n 0, 1) := by decide +kernel
theorem dX7_saysAct_48 : decode cX7_saysAct 48 = .ok (.bipush 51, 2) := by decide +kernel
theorem dX7_saysAct_50 : decode cX7_saysAct 50 = .ok (.invokevirtual 383, 3) := by decide +kernel
theorem dX7_saysAct_53 : decode cX7_saysAct 53 = .ok (.aload_n 0, 1) := by decide +kernel
theorem dX7_saysAct_54 : decode cX7_saysAct 54 = .ok (.iload_n 1, 1) := by decide +kernel
theorem dX7_saysAct_55 : decode cX7_saysAct 55 = .ok (.iload_n 2, 1) := by decide +kernel
theorem dX7_saysAct_56 : decode cX7_saysAct 56 = .ok (.iconst 1, 1) := by decide +kernel
theorem dX7_saysAct_57 : decode cX7_saysAct 57 = .ok (.iadd, 1) := by decide +kernel
theorem dX7_saysAct_58 : decode cX7_saysAct 58 = .ok (.invokevirtual 395, 3) := by decide +kernel
theorem dX7_saysAct_61 : decode cX7_saysAct 61 = .ok (.ireturn, 1) := by decide +kernel
theorem dX7_saysAct_62 : decode cX7_saysAct 62 = .ok (.aload_n 0, 1) := by decide +kernel
theorem dX7_saysAct_63 : decode cX7_saysAct 63 = .ok (.bipush 70, 2) := by decide +kernel
theorem dX7_saysAct_65 : decode cX7_saysAct 65 = .ok (.invokevirtual 383, 3) := by decide +kernel
theorem dX7_saysAct_68 : decode cX7_saysAct 68 = .ok (.aload_n 0, 1) := by decide +kernel
theorem dX7_saysAct_69 : decode cX7_saysAct 69 = .ok (.iload_n 1, 1) := by decide +kernel
theorem dX7_saysAct_70 : decode cX7_saysAct 70 = .ok (.iload_n 2, 1) := by decide +kernel
theorem dX7_saysAct_71 : decode cX7_saysAct 71 = .ok (.invokevirtual 392, 3) := by decide +kernel
theorem dX7_saysAct_74 : decode cX7_saysAct 74 = .ok (.istore_n 3, 1) := by decide +kernel
theorem dX7_saysAct_75 : decode cX7_saysAct 75 = .ok (.iload_n 3, 1) := by decide +kernel
theorem dX7_saysAct_76 : decode cX7_saysAct 76 = .ok (.aload_n 0, 1) := by decide +kernel
theorem dX7_saysAct_77 : decode cX7_saysAct 77 = .ok (.iload_n 1, 1) := by decide +kernel
theorem dX7_saysAct_78 : decode cX7_saysAct 78 = .ok (.iconst 2, 1) := by decide +kernel
theorem dX7_saysAct_79 : decode cX7_saysAct 79 = .ok (.invokevirtual 386, 3) := by decide +kernel
theorem dX7_saysAct_82 : decode cX7_saysAct 82 = .ok (.iadd, 1) := by decide +kernel
theorem dX7_saysAct_83 : decode cX7_saysAct 83 = .ok (.ireturn, 1) := by decide +kernel
theorem dX7_saysAct_84 : decode cX7_saysAct 84 = .ok (.aload_n 0, 1) := by decide +kernel
theorem dX7_saysAct_85 : decode cX7_saysAct 85 = .ok (.iload_n 1, 1) := by decide +kernel
theorem dX7_saysAct_86 : decode cX7_saysAct 86 = .ok (.iload_n 2, 1) := by decide +kernel
theorem dX7_saysAct_87 : decode cX7_saysAct 87 = .ok (.invokevirtual 392, 3) := by decide +kernel
theorem dX7_saysAct_90 : decode cX7_saysAct 90 = .ok (.ireturn, 1) := by decide +kernel
theorem dX7_houseTells_0 : decode cX7_houseTells 0 = .ok (.aload_n 0, 1) := by decide +kernel
theorem dX7_houseTells_1 : decode cX7_houseTells 1 = .ok (.bipush 12, 2) := by decide +kernel
theorem dX7_houseTells_3 : decode cX7_houseTells 3 = .ok (.invokevirtual 383, 3) := by decide +kernel
theorem dX7_houseTells_6 : decode cX7_houseTells 6 = .ok (.aload_n 0, 1) := by decide +kernel
theorem dX7_houseTells_7 : decode cX7_houseTells 7 = .ok (.iload_n 1, 1) := by decide +kernel
theorem dX7_houseTells_8 : decode cX7_houseTells 8 = .ok (.iload_n 2, 1) := by decide +kernel
theorem dX7_houseTells_9 : decode cX7_houseTells 9 = .ok (.invokevirtual 398, 3) := by decide +kernel
theorem dX7_houseTells_12 : decode cX7_houseTells 12 = .ok (.iconst 2, 1) := by decide +kernel
theorem dX7_houseTells_13 : decode cX7_houseTells 13 = .ok (.imul, 1) := by decide +kernel
theorem dX7_houseTells_14 : decode cX7_houseTells 14 = .ok (.ireturn, 1) := by decide +kernel
theorem dX7_tellsAct_0 : decode cX7_tellsAct 0 = .ok (.aload_n 0, 1) := by decide +kernel
theorem dX7_tellsAct_1 : decode cX7_tellsAct 1 = .ok (.getfield 16, 3) := by decide +kernel
theorem dX7_tellsAct_4 : decode cX7_tellsAct 4 = .ok (.iload_n 1, 1) := by decide +kernel
theorem dX7_tellsAct_5 : decode cX7_tellsAct 5 = .ok (.iaload, 1) := by decide +kernel
theorem dX7_tellsAct_6 : decode cX7_tellsAct 6 = .ok (.tableswitch 67 3 6 #[30, 67, 52, 30], 30) := by decide +kernel
theorem dX7_tellsAct_36 : decode cX7_tellsAct 36 = .ok (.aload_n 0, 1) := by decide +kernel
theorem dX7_tellsAct_37 : decode cX7_tellsAct 37 = .ok (.bipush 40, 2) := by decide +kernel
theorem dX7_tellsAct_39 : decode cX7_tellsAct 39 = .ok (.invokevirtual 383, 3) := by decide +kernel
theorem dX7_tellsAct_42 : decode cX7_tellsAct 42 = .ok (.aload_n 0, 1) := by decide +kernel
theorem dX7_tellsAct_43 : decode cX7_tellsAct 43 = .ok (.iload_n 1, 1) := by decide +kernel
theorem dX7_tellsAct_44 : decode cX7_tellsAct 44 = .ok (.iload_n 2, 1) := by decide +kernel
theorem dX7_tellsAct_45 : decode cX7_tellsAct 45 = .ok (.invokevirtual 401, 3) := by decide +kernel
theorem dX7_tellsAct_48 : decode cX7_tellsAct 48 = .ok (.istore_n 3, 1) := by decide +kernel
theorem dX7_tellsAct_49 : decode cX7_tellsAct 49 = .ok (.iload_n 3, 1) := by decide +kernel
theorem dX7_tellsAct_50 : decode cX7_tellsAct 50 = .ok (.aload_n 0, 1) := by decide +kernel
theorem dX7_tellsAct_51 : decode cX7_tellsAct 51 = .ok (.iload_n 1, 1) := by decide +kernel
theorem dX7_tellsAct_52 : decode cX7_tellsAct 52 = .ok (.iconst 1, 1) := by decide +kernel
theorem dX7_tellsAct_53 : decode cX7_tellsAct 53 = .ok (.invokevirtual 398, 3) := by decide +kernel
theorem dX7_tellsAct_56 : decode cX7_tellsAct 56 = .ok (.iadd, 1) := by decide +kernel
theorem dX7_tellsAct_57 : decode cX7_tellsAct 57 = .ok (.ireturn, 1) := by decide +kernel
theorem dX7_tellsAct_58 : decode cX7_tellsAct 58 = .ok (.aload_n 0, 1) := by decide +kernel
theorem dX7_tellsAct_59 : decode cX7_tellsAct 59 = .ok (.bipush 60, 2) := by decide +kernel
theorem dX7_tellsAct_61 : decode cX7_tellsAct 61 = .ok (.invokevirtual 383, 3) := by decide +kernel
theorem dX7_tellsAct_64 : decode cX7_tellsAct 64 = .ok (.aload_n 0, 1) := by decide +kernel
theorem dX7_tellsAct_65 : decode cX7_tellsAct 65 = .ok (.iload_n 1, 1) := by decide +kernel
theorem dX7_tellsAct_66 : decode cX7_tellsAct 66 = .ok (.iload_n 2, 1) := by decide +kernel
theorem dX7_tellsAct_67 : decode cX7_tellsAct 67 = .ok (.iload_n 1, 1) := by decide +kernel
theorem dX7_tellsAct_68 : decode cX7_tellsAct 68 = .ok (.isub, 1) := by decide +kernel
theorem dX7_tellsAct_69 : decode cX7_tellsAct 69 = .ok (.invokevirtual 401, 3) := by decide +kernel
theorem dX7_tellsAct_72 : decode cX7_tellsAct 72 = .ok (.ireturn, 1) := by decide +kernel
theorem dX7_tellsAct_73 : decode cX7_tellsAct 73 = .ok (.aload_n 0, 1) := by decide +kernel
theorem dX7_tellsAct_74 : decode cX7_tellsAct 74 = .ok (.iload_n 1, 1) := by decide +kernel
theorem dX7_tellsAct_75 : decode cX7_tellsAct 75 = .ok (.iload_n 2, 1) := by decide +kernel
theorem dX7_tellsAct_76 : decode cX7_tellsAct 76 = .ok (.invokevirtual 401, 3) := by decide +kernel
theorem dX7_tellsAct_79 : decode cX7_tellsAct 79 = .ok (.ireturn, 1) := by decide +kernel
theorem dX7_act_0 : decode cX7_act 0 = .ok (.aload_n 0, 1) := by decide +kernel
theorem dX7_act_1 : decode cX7_act 1 = .ok (.iconst 0, 1) := by decide +kernel
theorem dX7_act_2 : decode cX7_act 2 = .ok (.putfield 178, 3) := by decide +kernel
theorem dX7_act_5 : decode cX7_act 5 = .ok (.aload_n 0, 1) := by decide +kernel
theorem dX7_act_6 : decode cX7_act 6 = .ok (.iload_n 1, 1) := by decide +kernel
theorem dX7_act_7 : decode cX7_act 7 = .ok (.invokevirtual 205, 3) := by decide +kernel
theorem dX7_act_10 : decode cX7_act 10 = .ok (.ifCond .eq 13, 3) := by decide +kernel
theorem dX7_act_13 : decode cX7_act 13 = .ok (.aload_n 0, 1) := by decide +kernel
theorem dX7_act_14 : decode cX7_act 14 = .ok (.iload_n 2, 1) := by decide +kernel
theorem dX7_act_15 : decode cX7_act 15 = .ok (.iconst 0, 1) := by decide +kernel
theorem dX7_act_16 : decode cX7_act 16 = .ok (.iconst 2, 1) := by decide +kernel
theorem dX7_act_17 : decode cX7_act 17 = .ok (.invokevirtual 197, 3) := by decide +kernel
theorem dX7_act_20 : decode cX7_act 20 = .ok (.ifCond .ne 5, 3) := by decide +kernel
theorem dX7_act_23 : decode cX7_act 23 = .ok (.iconst 0, 1) := by decide +kernel
theorem dX7_act_24 : decode cX7_act 24 = .ok (.ireturn, 1) := by decide +kernel
theorem dX7_act_25 : decode cX7_act 25 = .ok (.iload_n 2, 1) := by decide +kernel
theorem dX7_act_26 : decode cX7_act 26 = .ok (.ifCond .ne 12, 3) := by decide +kernel
theorem dX7_act_29 : decode cX7_act 29 = .ok (.aload_n 0, 1) := by decide +kernel
theorem dX7_act_30 : decode cX7_act 30 = .ok (.iload_n 1, 1) := by decide +kernel
theorem dX7_act_31 : decode cX7_act 31 = .ok (.iload_n 3, 1) := by decide +kernel
theorem dX7_act_32 : decode cX7_act 32 = .ok (.invokevirtual 389, 3) := by decide +kernel
theorem dX7_act_35 : decode cX7_act 35 = .ok (.goto 23, 3) := by decide +kernel
theorem dX7_act_38 : decode cX7_act 38 = .ok (.iload_n 2, 1) := by decide +kernel
theorem dX7_act_39 : decode cX7_act 39 = .ok (.iconst 1, 1) := by decide +kernel
theorem dX7_act_40 : decode cX7_act 40 = .ok (.if_icmp .ne 12, 3) := by decide +kernel
theorem dX7_act_43 : decode cX7_act 43 = .ok (.aload_n 0, 1) := by decide +kernel
theorem dX7_act_44 : decode cX7_act 44 = .ok (.iload_n 1, 1) := by decide +kernel
theorem dX7_act_45 : decode cX7_act 45 = .ok (.iload_n 3, 1) := by decide +kernel
theorem dX7_act_46 : decode cX7_act 46 = .ok (.invokevirtual 398, 3) := by decide +kernel
theorem dX7_act_49 : decode cX7_act 49 = .ok (.goto 9, 3) := by decide +kernel
theorem dX7_act_52 : decode cX7_act 52 = .ok (.aload_n 0, 1) := by decide +kernel
theorem dX7_act_53 : decode cX7_act 53 = .ok (.iload_n 1, 1) := by decide +kernel
theorem dX7_act_54 : decode cX7_act 54 = .ok (.iload_n 3, 1) := by decide +kernel
theorem dX7_act_55 : decode cX7_act 55 = .ok (.invokevirtual 404, 3) := by decide +kernel
theorem dX7_act_58 : decode cX7_act 58 = .ok (.ireturn, 1) := by decide +kernel
theorem dX7_trace_0 : decode cX7_trace 0 = .ok (.aload_n 0, 1) := by decide +kernel
theorem dX7_trace_1 : decode cX7_trace 1 = .ok (.iload_n 1, 1) := by decide +kernel
theorem dX7_trace_2 : decode cX7_trace 2 = .ok (.iconst 0, 1) := by decide +kernel
theorem dX7_trace_3 : decode cX7_trace 3 = .ok (.bipush 19, 2) := by decide +kernel
theorem dX7_trace_5 : decode cX7_trace 5 = .ok (.invokevirtual 197, 3) := by decide +kernel
theorem dX7_trace_8 : decode cX7_trace 8 = .ok (.ifCond .eq 20, 3) := by decide +kernel
theorem dX7_trace_11 : decode cX7_trace 11 = .ok (.iload_n 1, 1) := by decide +kernel
theorem dX7_trace_12 : decode cX7_trace 12 = .ok (.aload_n 0, 1) := by decide +kernel
theorem dX7_trace_13 : decode cX7_trace 13 = .ok (.getfield 178, 3) := by decide +kernel
theorem dX7_trace_16 : decode cX7_trace 16 = .ok (.if_icmp .ge 12, 3) := by decide +kernel
theorem dX7_trace_19 : decode cX7_trace 19 = .ok (.aload_n 0, 1) := by decide +kernel
theorem dX7_trace_20 : decode cX7_trace 20 = .ok (.getfield 181, 3) := by decide +kernel
theorem dX7_trace_23 : decode cX7_trace 23 = .ok (.iload_n 1, 1) := by decide +kernel
theorem dX7_trace_24 : decode cX7_trace 24 = .ok (.iaload, 1) := by decide +kernel
theorem dX7_trace_25 : decode cX7_trace 25 = .ok (.goto 4, 3) := by decide +kernel
theorem dX7_trace_28 : decode cX7_trace 28 = .ok (.iconst (-1), 1) := by decide +kernel
theorem dX7_trace_29 : decode cX7_trace 29 = .ok (.ireturn, 1) := by decide +kernel
theorem dX7_taken_0 : decode cX7_taken 0 = .ok (.aload_n 0, 1) := by decide +kernel
theorem dX7_taken_1 : decode cX7_taken 1 = .ok (.iload_n 2, 1) := by decide +kernel
theorem dX7_taken_2 : decode cX7_taken 2 = .ok (.iconst 0, 1) := by decide +kernel
theorem dX7_taken_3 : decode cX7_taken 3 = .ok (.bipush 6, 2) := by decide +kernel
theorem dX7_taken_5 : decode cX7_taken 5 = .ok (.invokevirtual 197, 3) := by decide +kernel
theorem dX7_taken_8 : decode cX7_taken 8 = .ok (.ifCond .ne 6, 3) := by decide +kernel
theorem dX7_taken_11 : decode cX7_taken 11 = .ok (.bipush (-2), 2) := by decide +kernel
theorem dX7_taken_13 : decode cX7_taken 13 = .ok (.ireturn, 1) := by decide +kernel
theorem dX7_taken_14 : decode cX7_taken 14 = .ok (.aload_n 0, 1) := by decide +kernel
theorem dX7_taken_15 : decode cX7_taken 15 = .ok (.iload_n 1, 1) := by decide +kernel
theorem dX7_taken_16 : decode cX7_taken 16 = .ok (.invokevirtual 205, 3) := by decide +kernel
theorem dX7_taken_19 : decode cX7_taken 19 = .ok (.ifCond .ne 6, 3) := by decide +kernel
theorem dX7_taken_22 : decode cX7_taken 22 = .ok (.bipush (-11), 2) := by decide +kernel
theorem dX7_taken_24 : decode cX7_taken 24 = .ok (.ireturn, 1) := by decide +kernel
theorem dX7_taken_25 : decode cX7_taken 25 = .ok (.aload_n 0, 1) := by decide +kernel
theorem dX7_taken_26 : decode cX7_taken 26 = .ok (.getfield 16, 3) := by decide +kernel
theorem dX7_taken_29 : decode cX7_taken 29 = .ok (.iload_n 1, 1) := by decide +kernel
theorem dX7_taken_30 : decode cX7_taken 30 = .ok (.iaload, 1) := by decide +kernel
theorem dX7_taken_31 : decode cX7_taken 31 = .ok (.istore_n 3, 1) := by decide +kernel
theorem dX7_taken_32 : decode cX7_taken 32 = .ok (.iload_n 2, 1) := by decide +kernel
theorem dX7_taken_33 : decode cX7_taken 33 = .ok (.ifCond .eq 39, 3) := by decide +kernel
theorem dX7_taken_36 : decode cX7_taken 36 = .ok (.iload_n 3, 1) := by decide +kernel
theorem dX7_taken_37 : decode cX7_taken 37 = .ok (.iload_n 2, 1) := by decide +kernel
theorem dX7_taken_38 : decode cX7_taken 38 = .ok (.if_icmp .eq 34, 3) := by decide +kernel
theorem dX7_taken_41 : decode cX7_taken 41 = .ok (.iload_n 2, 1) := by decide +kernel
theorem dX7_taken_42 : decode cX7_taken 42 = .ok (.iconst 1, 1) := by decide +kernel
theorem dX7_taken_43 : decode cX7_taken 43 = .ok (.if_icmp .ne 8, 3) := by decide +kernel
theorem dX7_taken_46 : decode cX7_taken 46 = .ok (.iload_n 3, 1) := by decide +kernel
theorem dX7_taken_47 : decode cX7_taken 47 = .ok (.iconst 4, 1) := by decide +kernel
theorem dX7_taken_48 : decode cX7_taken 48 = .ok (.if_icmp .eq 24, 3) := by decide +kernel
theorem dX7_taken_51 : decode cX7_taken 51 = .ok (.iload_n 2, 1) := by decide +kernel
theorem dX7_taken_52 : decode cX7_taken 52 = .ok (.iconst 2, 1) := by decide +kernel
theorem dX7_taken_53 : decode cX7_taken 53 = .ok (.if_icmp .ne 8, 3) := by decide +kernel
theorem dX7_taken_56 : decode cX7_taken 56 = .ok (.iload_n 3, 1) := by decide +kernel
theorem dX7_taken_57 : decode cX7_taken 57 = .ok (.iconst 5, 1) := by decide +kernel
theorem dX7_taken_58 : decode cX7_taken 58 = .ok (.if_icmp .eq 14, 3) := by decide +kernel
theorem dX7_taken_61 : decode cX7_taken 61 = .ok (.iload_n 2, 1) := by decide +kernel
theorem dX7_taken_62 : decode cX7_taken 62 = .ok (.iconst 3, 1) := by decide +kernel
theorem dX7_taken_63 : decode cX7_taken 63 = .ok (.if_icmp .ne 13, 3) := by decide +kernel
theorem dX7_taken_66 : decode cX7_taken 66 = .ok (.iload_n 3, 1) := by decide +kernel
theorem dX7_taken_67 : decode cX7_taken 67 = .ok (.bipush 6, 2) := by decide +kernel
theorem dX7_taken_69 : decode cX7_taken 69 = .ok (.if_icmp .ne 7, 3) := by decide +kernel
theorem dX7_taken_72 : decode cX7_taken 72 = .ok (.iload_n 3, 1) := by decide +kernel
theorem dX7_taken_73 : decode cX7_taken 73 = .ok (.goto 5, 3) := by decide +kernel
theorem dX7_taken_76 : decode cX7_taken 76 = .ok (.bipush (-12), 2) := by decide +kernel
theorem dX7_taken_78 : decode cX7_taken 78 = .ok (.ireturn, 1) := by decide +kernel
theorem dX7_count_0 : decode cX7_count 0 = .ok (.iload_n 1, 1) := by decide +kernel
theorem dX7_count_1 : decode cX7_count 1 = .ok (.tableswitch 69 0 5 #[39, 44, 49, 54, 59, 64], 39) := by decide +kernel
theorem dX7_count_40 : decode cX7_count 40 = .ok (.aload_n 0, 1) := by decide +kernel
theorem dX7_count_41 : decode cX7_count 41 = .ok (.getfield 7, 3) := by decide +kernel
theorem dX7_count_44 : decode cX7_count 44 = .ok (.ireturn, 1) := by decide +kernel
theorem dX7_count_45 : decode cX7_count 45 = .ok (.aload_n 0, 1) := by decide +kernel
theorem dX7_count_46 : decode cX7_count 46 = .ok (.getfield 29, 3) := by decide +kernel
theorem dX7_count_49 : decode cX7_count 49 = .ok (.ireturn, 1) := by decide +kernel
theorem dX7_count_50 : decode cX7_count 50 = .ok (.aload_n 0, 1) := by decide +kernel
theorem dX7_count_51 : decode cX7_count 51 = .ok (.getfield 123, 3) := by decide +kernel
theorem dX7_count_54 : decode cX7_count 54 = .ok (.ireturn, 1) := by decide +kernel
theorem dX7_count_55 : decode cX7_count 55 = .ok (.aload_n 0, 1) := by decide +kernel
theorem dX7_count_56 : decode cX7_count 56 = .ok (.getfield 132, 3) := by decide +kernel
theorem dX7_count_59 : decode cX7_count 59 = .ok (.ireturn, 1) := by decide +kernel
theorem dX7_count_60 : decode cX7_count 60 = .ok (.aload_n 0, 1) := by decide +kernel
theorem dX7_count_61 : decode cX7_count 61 = .ok (.getfield 35, 3) := by decide +kernel
theorem dX7_count_64 : decode cX7_count 64 = .ok (.ireturn, 1) := by decide +kernel
theorem dX7_count_65 : decode cX7_count 65 = .ok (.aload_n 0, 1) := by decide +kernel
theorem dX7_count_66 : decode cX7_count 66 = .ok (.getfield 178, 3) := by decide +kernel
theorem dX7_count_69 : decode cX7_count 69 = .ok (.ireturn, 1) := by decide +kernel
theorem dX7_count_70 : decode cX7_count 70 = .ok (.bipush (-2), 2) := by decide +kernel
theorem dX7_count_72 : decode cX7_count 72 = .ok (.ireturn, 1) := by decide +kernel
theorem dX7_isTape_0 : decode cX7_isTape 0 = .ok (.aload_n 0, 1) := by decide +kernel
theorem dX7_isTape_1 : decode cX7_isTape 1 = .ok (.iload_n 1, 1) := by decide +kernel
theorem dX7_isTape_2 : decode cX7_isTape 2 = .ok (.iconst 0, 1) := by decide +kernel
theorem dX7_isTape_3 : decode cX7_isTape 3 = .ok (.iconst 5, 1) := by decide +kernel
theorem dX7_isTape_4 : decode cX7_isTape 4 = .ok (.invokevirtual 197, 3) := by decide +kernel
theorem dX7_isTape_7 : decode cX7_isTape 7 = .ok (.ireturn, 1) := by decide +kernel
theorem dX7_tape_0 : decode cX7_tape 0 = .ok (.aload_n 0, 1) := by decide +kernel
theorem dX7_tape_1 : decode cX7_tape 1 = .ok (.iload_n 1, 1) := by decide +kernel
theorem dX7_tape_2 : decode cX7_tape 2 = .ok (.invokevirtual 380, 3) := by decide +kernel
theorem dX7_tape_5 : decode cX7_tape 5 = .ok (.ifCond .ne 5, 3) := by decide +kernel
theorem dX7_tape_8 : decode cX7_tape 8 = .ok (.iconst (-1), 1) := by decide +kernel
theorem dX7_tape_9 : decode cX7_tape 9 = .ok (.ireturn, 1) := by decide +kernel
theorem dX7_tape_10 : decode cX7_tape 10 = .ok (.aload_n 0, 1) := by decide +kernel
theorem dX7_tape_11 : decode cX7_tape 11 = .ok (.iload_n 2, 1) := by decide +kernel
theorem dX7_tape_12 : decode cX7_tape 12 = .ok (.iconst (-1), 1) := by decide +kernel
theorem dX7_tape_13 : decode cX7_tape 13 = .ok (.iconst 4, 1) := by decide +kernel
theorem dX7_tape_14 : decode cX7_tape 14 = .ok (.invokevirtual 197, 3) := by decide +kernel
theorem dX7_tape_17 : decode cX7_tape 17 = .ok (.ifCond .eq 13, 3) := by decide +kernel
theorem dX7_tape_20 : decode cX7_tape 20 = .ok (.iload_n 2, 1) := by decide +kernel
theorem dX7_tape_21 : decode cX7_tape 21 = .ok (.ifCond .lt 12, 3) := by decide +kernel
theorem dX7_tape_24 : decode cX7_tape 24 = .ok (.iload_n 3, 1) := by decide +kernel
theorem dX7_tape_25 : decode cX7_tape 25 = .ok (.bipush 60, 2) := by decide +kernel
theorem dX7_tape_27 : decode cX7_tape 27 = .ok (.if_icmp .le 6, 3) := by decide +kernel
theorem dX7_tape_30 : decode cX7_tape 30 = .ok (.bipush (-2), 2) := by decide +kernel
theorem dX7_tape_32 : decode cX7_tape 32 = .ok (.ireturn, 1) := by decide +kernel
theorem dX7_tape_33 : decode cX7_tape 33 = .ok (.iload_n 2, 1) := by decide +kernel
theorem dX7_tape_34 : decode cX7_tape 34 = .ok (.ifCond .lt 10, 3) := by decide +kernel
theorem dX7_tape_37 : decode cX7_tape 37 = .ok (.iload_n 3, 1) := by decide +kernel
theorem dX7_tape_38 : decode cX7_tape 38 = .ok (.ifCond .ge 6, 3) := by decide +kernel
theorem dX7_tape_41 : decode cX7_tape 41 = .ok (.bipush (-14), 2) := by decide +kernel
theorem dX7_tape_43 : decode cX7_tape 43 = .ok (.ireturn, 1) := by decide +kernel
theorem dX7_tape_44 : decode cX7_tape 44 = .ok (.aload_n 0, 1) := by decide +kernel
theorem dX7_tape_45 : decode cX7_tape 45 = .ok (.getfield 184, 3) := by decide +kernel
theorem dX7_tape_48 : decode cX7_tape 48 = .ok (.iload_n 1, 1) := by decide +kernel
theorem dX7_tape_49 : decode cX7_tape 49 = .ok (.iload_n 2, 1) := by decide +kernel
theorem dX7_tape_50 : decode cX7_tape 50 = .ok (.iastore, 1) := by decide +kernel
theorem dX7_tape_51 : decode cX7_tape 51 = .ok (.aload_n 0, 1) := by decide +kernel
theorem dX7_tape_52 : decode cX7_tape 52 = .ok (.getfield 187, 3) := by decide +kernel
theorem dX7_tape_55 : decode cX7_tape 55 = .ok (.iload_n 1, 1) := by decide +kernel
theorem dX7_tape_56 : decode cX7_tape 56 = .ok (.iload_n 2, 1) := by decide +kernel
theorem dX7_tape_57 : decode cX7_tape 57 = .ok (.ifCond .ge 7, 3) := by decide +kernel
theorem dX7_tape_60 : decode cX7_tape 60 = .ok (.iconst 0, 1) := by decide +kernel
theorem dX7_tape_61 : decode cX7_tape 61 = .ok (.goto 4, 3) := by decide +kernel
theorem dX7_tape_64 : decode cX7_tape 64 = .ok (.iload_n 3, 1) := by decide +kernel
theorem dX7_tape_65 : decode cX7_tape 65 = .ok (.iastore, 1) := by decide +kernel
theorem dX7_tape_66 : decode cX7_tape 66 = .ok (.iconst 0, 1) := by decide +kernel
theorem dX7_tape_67 : decode cX7_tape 67 = .ok (.istore 4, 2) := by decide +kernel
theorem dX7_tape_69 : decode cX7_tape 69 = .ok (.iload 4, 2) := by decide +kernel
theorem dX7_tape_71 : decode cX7_tape 71 = .ok (.bipush 60, 2) := by decide +kernel
theorem dX7_tape_73 : decode cX7_tape 73 = .ok (.if_icmp .ge 22, 3) := by decide +kernel
theorem dX7_tape_76 : decode cX7_tape 76 = .ok (.aload_n 0, 1) := by decide +kernel
theorem dX7_tape_77 : decode cX7_tape 77 = .ok (.getfield 190, 3) := by decide +kernel
theorem dX7_tape_80 : decode cX7_tape 80 = .ok (.bipush 60, 2) := by decide +kernel
theorem dX7_tape_82 : decode cX7_tape 82 = .ok (.iload_n 1, 1) := by decide +kernel
theorem dX7_tape_83 : decode cX7_tape 83 = .ok (.imul, 1) := by decide +kernel
theorem dX7_tape_84 : decode cX7_tape 84 = .ok (.iload 4, 2) := by decide +kernel
theorem dX7_tape_86 : decode cX7_tape 86 = .ok (.iadd, 1) := by decide +kernel
theorem dX7_tape_87 : decode cX7_tape 87 = .ok (.lconst 0, 1) := by decide +kernel
theorem dX7_tape_88 : decode cX7_tape 88 = .ok (.lastore, 1) := by decide +kernel
theorem dX7_tape_89 : decode cX7_tape 89 = .ok (.iinc 4 1, 3) := by decide +kernel
theorem dX7_tape_92 : decode cX7_tape 92 = .ok (.goto (-23), 3) := by decide +kernel
theorem dX7_tape_95 : decode cX7_tape 95 = .ok (.iconst 1, 1) := by decide +kernel
theorem dX7_tape_96 : decode cX7_tape 96 = .ok (.ireturn, 1) := by decide +kernel
theorem dX7_narrow_0 : decode cX7_narrow 0 = .ok (.iload_n 1, 1) := by decide +kernel
theorem dX7_narrow_1 : decode cX7_narrow 1 = .ok (.ifCond .ne 10, 3) := by decide +kernel
theorem dX7_narrow_4 : decode cX7_narrow 4 = .ok (.lload_n 2, 1) := by decide +kernel
theorem dX7_narrow_5 : decode cX7_narrow 5 = .ok (.l2i, 1) := by decide +kernel
theorem dX7_narrow_6 : decode cX7_narrow 6 = .ok (.i2b, 1) := by decide +kernel
theorem dX7_narrow_7 : decode cX7_narrow 7 = .ok (.i2l, 1) := by decide +kernel
theorem dX7_narrow_8 : decode cX7_narrow 8 = .ok (.goto 46, 3) := by decide +kernel
theorem dX7_narrow_11 : decode cX7_narrow 11 = .ok (.iload_n 1, 1) := by decide +kernel
theorem dX7_narrow_12 : decode cX7_narrow 12 = .ok (.iconst 1, 1) := by decide +kernel
theorem dX7_narrow_13 : decode cX7_narrow 13 = .ok (.if_icmp .ne 10, 3) := by decide +kernel
theorem dX7_narrow_16 : decode cX7_narrow 16 = .ok (.lload_n 2, 1) := by decide +kernel
theorem dX7_narrow_17 : decode cX7_narrow 17 = .ok (.l2i, 1) := by decide +kernel
theorem dX7_narrow_18 : decode cX7_narrow 18 = .ok (.i2s, 1) := by decide +kernel
theorem dX7_narrow_19 : decode cX7_narrow 19 = .ok (.i2l, 1) := by decide +kernel
theorem dX7_narrow_20 : decode cX7_narrow 20 = .ok (.goto 34, 3) := by decide +kernel
theorem dX7_narrow_23 : decode cX7_narrow 23 = .ok (.iload_n 1, 1) := by decide +kernel
theorem dX7_narrow_24 : decode cX7_narrow 24 = .ok (.iconst 2, 1) := by decide +kernel
theorem dX7_narrow_25 : decode cX7_narrow 25 = .ok (.if_icmp .ne 9, 3) := by decide +kernel
theorem dX7_narrow_28 : decode cX7_narrow 28 = .ok (.lload_n 2, 1) := by decide +kernel
theorem dX7_narrow_29 : decode cX7_narrow 29 = .ok (.l2i, 1) := by decide +kernel
theorem dX7_narrow_30 : decode cX7_narrow 30 = .ok (.i2l, 1) := by decide +kernel
theorem dX7_narrow_31 : decode cX7_narrow 31 = .ok (.goto 23, 3) := by decide +kernel
theorem dX7_narrow_34 : decode cX7_narrow 34 = .ok (.iload_n 1, 1) := by decide +kernel
theorem dX7_narrow_35 : decode cX7_narrow 35 = .ok (.iconst 4, 1) := by decide +kernel
theorem dX7_narrow_36 : decode cX7_narrow 36 = .ok (.if_icmp .ne 17, 3) := by decide +kernel
theorem dX7_narrow_39 : decode cX7_narrow 39 = .ok (.lload_n 2, 1) := by decide +kernel
theorem dX7_narrow_40 : decode cX7_narrow 40 = .ok (.lconst 0, 1) := by decide +kernel
theorem dX7_narrow_41 : decode cX7_narrow 41 = .ok (.lcmp, 1) := by decide +kernel
theorem dX7_narrow_42 : decode cX7_narrow 42 = .ok (.ifCond .eq 7, 3) := by decide +kernel
theorem dX7_narrow_45 : decode cX7_narrow 45 = .ok (.lconst 1, 1) := by decide +kernel
theorem dX7_narrow_46 : decode cX7_narrow 46 = .ok (.goto 8, 3) := by decide +kernel
theorem dX7_narrow_49 : decode cX7_narrow 49 = .ok (.lconst 0, 1) := by decide +kernel
theorem dX7_narrow_50 : decode cX7_narrow 50 = .ok (.goto 4, 3) := by decide +kernel
theorem dX7_narrow_53 : decode cX7_narrow 53 = .ok (.lload_n 2, 1) := by decide +kernel
theorem dX7_narrow_54 : decode cX7_narrow 54 = .ok (.lreturn, 1) := by decide +kernel
theorem dX7_item_0 : decode cX7_item 0 = .ok (.aload_n 0, 1) := by decide +kernel
theorem dX7_item_1 : decode cX7_item 1 = .ok (.iload_n 1, 1) := by decide +kernel
theorem dX7_item_2 : decode cX7_item 2 = .ok (.invokevirtual 380, 3) := by decide +kernel
theorem dX7_item_5 : decode cX7_item 5 = .ok (.ifCond .ne 5, 3) := by decide +kernel
theorem dX7_item_8 : decode cX7_item 8 = .ok (.iconst (-1), 1) := by decide +kernel
theorem dX7_item_9 : decode cX7_item 9 = .ok (.ireturn, 1) := by decide +kernel
theorem dX7_item_10 : decode cX7_item 10 = .ok (.aload_n 0, 1) := by decide +kernel
theorem dX7_item_11 : decode cX7_item 11 = .ok (.getfield 184, 3) := by decide +kernel
theorem dX7_item_14 : decode cX7_item 14 = .ok (.iload_n 1, 1) := by decide +kernel
theorem dX7_item_15 : decode cX7_item 15 = .ok (.iaload, 1) := by decide +kernel
theorem dX7_item_16 : decode cX7_item 16 = .ok (.ifCond .ge 6, 3) := by decide +kernel
theorem dX7_item_19 : decode cX7_item 19 = .ok (.bipush (-11), 2) := by decide +kernel
theorem dX7_item_21 : decode cX7_item 21 = .ok (.ireturn, 1) := by decide +kernel
theorem dX7_item_22 : decode cX7_item 22 = .ok (.aload_n 0, 1) := by decide +kernel
theorem dX7_item_23 : decode cX7_item 23 = .ok (.iload_n 2, 1) := by decide +kernel
theorem dX7_item_24 : decode cX7_item 24 = .ok (.iconst 0, 1) := by decide +kernel
theorem dX7_item_25 : decode cX7_item 25 = .ok (.aload_n 0, 1) := by decide +kernel
theorem dX7_item_26 : decode cX7_item 26 = .ok (.getfield 187, 3) := by decide +kernel
theorem dX7_item_29 : decode cX7_item 29 = .ok (.iload_n 1, 1) := by decide +kernel
theorem dX7_item_30 : decode cX7_item 30 = .ok (.iaload, 1) := by decide +kernel
theorem dX7_item_31 : decode cX7_item 31 = .ok (.iconst 1, 1) := by decide +kernel
theorem dX7_item_32 : decode cX7_item 32 = .ok (.isub, 1) := by decide +kernel
theorem dX7_item_33 : decode cX7_item 33 = .ok (.invokevirtual 197, 3) := by decide +kernel
theorem dX7_item_36 : decode cX7_item 36 = .ok (.ifCond .ne 6, 3) := by decide +kernel
theorem dX7_item_39 : decode cX7_item 39 = .ok (.bipush (-13), 2) := by decide +kernel
theorem dX7_item_41 : decode cX7_item 41 = .ok (.ireturn, 1) := by decide +kernel
theorem dX7_item_42 : decode cX7_item 42 = .ok (.aload_n 0, 1) := by decide +kernel
theorem dX7_item_43 : decode cX7_item 43 = .ok (.getfield 190, 3) := by decide +kernel
theorem dX7_item_46 : decode cX7_item 46 = .ok (.bipush 60, 2) := by decide +kernel
theorem dX7_item_48 : decode cX7_item 48 = .ok (.iload_n 1, 1) := by decide +kernel
theorem dX7_item_49 : decode cX7_item 49 = .ok (.imul, 1) := by decide +kernel
theorem dX7_item_50 : decode cX7_item 50 = .ok (.iload_n 2, 1) := by decide +kernel
theorem dX7_item_51 : decode cX7_item 51 = .ok (.iadd, 1) := by decide +kernel
theorem dX7_item_52 : decode cX7_item 52 = .ok (.aload_n 0, 1) := by decide +kernel
theorem dX7_item_53 : decode cX7_item 53 = .ok (.aload_n 0, 1) := by decide +kernel
theorem dX7_item_54 : decode cX7_item 54 = .ok (.getfield 184, 3) := by decide +kernel
theorem dX7_item_57 : decode cX7_item 57 = .ok (.iload_n 1, 1) := by decide +kernel
theorem dX7_item_58 : decode cX7_item 58 = .ok (.iaload, 1) := by decide +kernel
theorem dX7_item_59 : decode cX7_item 59 = .ok (.lload_n 3, 1) := by decide +kernel
theorem dX7_item_60 : decode cX7_item 60 = .ok (.invokevirtual 407, 3) := by decide +kernel
theorem dX7_item_63 : decode cX7_item 63 = .ok (.lastore, 1) := by decide +kernel
theorem dX7_item_64 : decode cX7_item 64 = .ok (.iconst 1, 1) := by decide +kernel
theorem dX7_item_65 : decode cX7_item 65 = .ok (.ireturn, 1) := by decide +kernel
theorem dX7_read_0 : decode cX7_read 0 = .ok (.aload_n 0, 1) := by decide +kernel
theorem dX7_read_1 : decode cX7_read 1 = .ok (.iload_n 1, 1) := by decide +kernel
theorem dX7_read_2 : decode cX7_read 2 = .ok (.invokevirtual 380, 3) := by decide +kernel
theorem dX7_read_5 : decode cX7_read 5 = .ok (.ifCond .eq 29, 3) := by decide +kernel
theorem dX7_read_8 : decode cX7_read 8 = .ok (.aload_n 0, 1) := by decide +kernel
theorem dX7_read_9 : decode cX7_read 9 = .ok (.getfield 184, 3) := by decide +kernel
theorem dX7_read_12 : decode cX7_read 12 = .ok (.iload_n 1, 1) := by decide +kernel
theorem dX7_read_13 : decode cX7_read 13 = .ok (.iaload, 1) := by decide +kernel
theorem dX7_read_14 : decode cX7_read 14 = .ok (.ifCond .lt 20, 3) := by decide +kernel
theorem dX7_read_17 : decode cX7_read 17 = .ok (.aload_n 0, 1) := by decide +kernel
theorem dX7_read_18 : decode cX7_read 18 = .ok (.iload_n 2, 1) := by decide +kernel
theorem dX7_read_19 : decode cX7_read 19 = .ok (.iconst 0, 1) := by decide +kernel
theorem dX7_read_20 : decode cX7_read 20 = .ok (.aload_n 0, 1) := by decide +kernel
theorem dX7_read_21 : decode cX7_read 21 = .ok (.getfield 187, 3) := by decide +kernel
theorem dX7_read_24 : decode cX7_read 24 = .ok (.iload_n 1, 1) := by decide +kernel
theorem dX7_read_25 : decode cX7_read 25 = .ok (.iaload, 1) := by decide +kernel
theorem dX7_read_26 : decode cX7_read 26 = .ok (.iconst 1, 1) := by decide +kernel
theorem dX7_read_27 : decode cX7_read 27 = .ok (.isub, 1) := by decide +kernel
theorem dX7_read_28 : decode cX7_read 28 = .ok (.invokevirtual 197, 3) := by decide +kernel
theorem dX7_read_31 : decode cX7_read 31 = .ok (.ifCond .ne 9, 3) := by decide +kernel
theorem dX7_read_34 : decode cX7_read 34 = .ok (.ldc2_w 374, 3) := by decide +kernel
theorem dX7_read_37 : decode cX7_read 37 = .ok (.goto 14, 3) := by decide +kernel
theorem dX7_read_40 : decode cX7_read 40 = .ok (.aload_n 0, 1) := by decide +kernel
theorem dX7_read_41 : decode cX7_read 41 = .ok (.getfield 190, 3) := by decide +kernel
theorem dX7_read_44 : decode cX7_read 44 = .ok (.bipush 60, 2) := by decide +kernel
theorem dX7_read_46 : decode cX7_read 46 = .ok (.iload_n 1, 1) := by decide +kernel
theorem dX7_read_47 : decode cX7_read 47 = .ok (.imul, 1) := by decide +kernel
theorem dX7_read_48 : decode cX7_read 48 = .ok (.iload_n 2, 1) := by decide +kernel
theorem dX7_read_49 : decode cX7_read 49 = .ok (.iadd, 1) := by decide +kernel
theorem dX7_read_50 : decode cX7_read 50 = .ok (.laload, 1) := by decide +kernel
theorem dX7_read_51 : decode cX7_read 51 = .ok (.lreturn, 1) := by decide +kernel
theorem dX7_shift_0 : decode cX7_shift 0 = .ok (.aload_n 0, 1) := by decide +kernel
theorem dX7_shift_1 : decode cX7_shift 1 = .ok (.iload_n 1, 1) := by decide +kernel
theorem dX7_shift_2 : decode cX7_shift 2 = .ok (.invokevirtual 380, 3) := by decide +kernel
theorem dX7_shift_5 : decode cX7_shift 5 = .ok (.ifCond .eq 11, 3) := by decide +kernel
theorem dX7_shift_8 : decode cX7_shift 8 = .ok (.aload_n 0, 1) := by decide +kernel
theorem dX7_shift_9 : decode cX7_shift 9 = .ok (.iload_n 3, 1) := by decide +kernel
theorem dX7_shift_10 : decode cX7_shift 10 = .ok (.invokevirtual 380, 3) := by decide +kernel
theorem dX7_shift_13 : decode cX7_shift 13 = .ok (.ifCond .ne 5, 3) := by decide +kernel
theorem dX7_shift_16 : decode cX7_shift 16 = .ok (.iconst (-1), 1) := by decide +kernel
theorem dX7_shift_17 : decode cX7_shift 17 = .ok (.ireturn, 1) := by decide +kernel
theorem dX7_shift_18 : decode cX7_shift 18 = .ok (.aload_n 0, 1) := by decide +kernel
theorem dX7_shift_19 : decode cX7_shift 19 = .ok (.getfield 184, 3) := by decide +kernel
theorem dX7_shift_22 : decode cX7_shift 22 = .ok (.iload_n 1, 1) := by decide +kernel
theorem dX7_shift_23 : decode cX7_shift 23 = .ok (.iaload, 1) := by decide +kernel
theorem dX7_shift_24 : decode cX7_shift 24 = .ok (.ifCond .lt 12, 3) := by decide +kernel
theorem dX7_shift_27 : decode cX7_shift 27 = .ok (.aload_n 0, 1) := by decide +kernel
theorem dX7_shift_28 : decode cX7_shift 28 = .ok (.getfield 184, 3) := by decide +kernel
theorem dX7_shift_31 : decode cX7_shift 31 = .ok (.iload_n 3, 1) := by decide +kernel
theorem dX7_shift_32 : decode cX7_shift 32 = .ok (.iaload, 1) := by decide +kernel
theorem dX7_shift_33 : decode cX7_shift 33 = .ok (.ifCond .ge 6, 3) := by decide +kernel
theorem dX7_shift_36 : decode cX7_shift 36 = .ok (.bipush (-11), 2) := by decide +kernel
theorem dX7_shift_38 : decode cX7_shift 38 = .ok (.ireturn, 1) := by decide +kernel
theorem dX7_shift_39 : decode cX7_shift 39 = .ok (.aload_n 0, 1) := by decide +kernel
theorem dX7_shift_40 : decode cX7_shift 40 = .ok (.getfield 184, 3) := by decide +kernel
theorem dX7_shift_43 : decode cX7_shift 43 = .ok (.iload_n 1, 1) := by decide +kernel
theorem dX7_shift_44 : decode cX7_shift 44 = .ok (.iaload, 1) := by decide +kernel
theorem dX7_shift_45 : decode cX7_shift 45 = .ok (.aload_n 0, 1) := by decide +kernel
theorem dX7_shift_46 : decode cX7_shift 46 = .ok (.getfield 184, 3) := by decide +kernel
theorem dX7_shift_49 : decode cX7_shift 49 = .ok (.iload_n 3, 1) := by decide +kernel
theorem dX7_shift_50 : decode cX7_shift 50 = .ok (.iaload, 1) := by decide +kernel
theorem dX7_shift_51 : decode cX7_shift 51 = .ok (.if_icmp .eq 6, 3) := by decide +kernel
theorem dX7_shift_54 : decode cX7_shift 54 = .ok (.bipush (-12), 2) := by decide +kernel
theorem dX7_shift_56 : decode cX7_shift 56 = .ok (.ireturn, 1) := by decide +kernel
theorem dX7_shift_57 : decode cX7_shift 57 = .ok (.iload 5, 2) := by decide +kernel
theorem dX7_shift_59 : decode cX7_shift 59 = .ok (.ifCond .lt 39, 3) := by decide +kernel
theorem dX7_shift_62 : decode cX7_shift 62 = .ok (.iload_n 2, 1) := by decide +kernel
theorem dX7_shift_63 : decode cX7_shift 63 = .ok (.ifCond .lt 35, 3) := by decide +kernel
theorem dX7_shift_66 : decode cX7_shift 66 = .ok (.iload 4, 2) := by decide +kernel
theorem dX7_shift_68 : decode cX7_shift 68 = .ok (.ifCond .lt 30, 3) := by decide +kernel
theorem dX7_shift_71 : decode cX7_shift 71 = .ok (.iload_n 2, 1) := by decide +kernel
theorem dX7_shift_72 : decode cX7_shift 72 = .ok (.aload_n 0, 1) := by decide +kernel
theorem dX7_shift_73 : decode cX7_shift 73 = .ok (.getfield 187, 3) := by decide +kernel
theorem dX7_shift_76 : decode cX7_shift 76 = .ok (.iload_n 1, 1) := by decide +kernel
theorem dX7_shift_77 : decode cX7_shift 77 = .ok (.iaload, 1) := by decide +kernel
theorem dX7_shift_78 : decode cX7_shift 78 = .ok (.iload 5, 2) := by decide +kernel
theorem dX7_shift_80 : decode cX7_shift 80 = .ok (.isub, 1) := by decide +kernel
theorem dX7_shift_81 : decode cX7_shift 81 = .ok (.if_icmp .gt 17, 3) := by decide +kernel
theorem dX7_shift_84 : decode cX7_shift 84 = .ok (.iload 4, 2) := by decide +kernel
theorem dX7_shift_86 : decode cX7_shift 86 = .ok (.aload_n 0, 1) := by decide +kernel
theorem dX7_shift_87 : decode cX7_shift 87 = .ok (.getfield 187, 3) := by decide +kernel
theorem dX7_shift_90 : decode cX7_shift 90 = .ok (.iload_n 3, 1) := by decide +kernel
theorem dX7_shift_91 : decode cX7_shift 91 = .ok (.iaload, 1) := by decide +kernel
theorem dX7_shift_92 : decode cX7_shift 92 = .ok (.iload 5, 2) := by decide +kernel
theorem dX7_shift_94 : decode cX7_shift 94 = .ok (.isub, 1) := by decide +kernel
theorem dX7_shift_95 : decode cX7_shift 95 = .ok (.if_icmp .le 6, 3) := by decide +kernel
theorem dX7_shift_98 : decode cX7_shift 98 = .ok (.bipush (-13), 2) := by decide +kernel
theorem dX7_shift_100 : decode cX7_shift 100 = .ok (.ireturn, 1) := by decide +kernel
theorem dX7_shift_101 : decode cX7_shift 101 = .ok (.iconst 0, 1) := by decide +kernel
theorem dX7_shift_102 : decode cX7_shift 102 = .ok (.istore 6, 2) := by decide +kernel
theorem dX7_shift_104 : decode cX7_shift 104 = .ok (.iload 6, 2) := by decide +kernel
theorem dX7_shift_106 : decode cX7_shift 106 = .ok (.iload 5, 2) := by decide +kernel
theorem dX7_shift_108 : decode cX7_shift 108 = .ok (.if_icmp .ge 30, 3) := by decide +kernel
theorem dX7_shift_111 : decode cX7_shift 111 = .ok (.aload_n 0, 1) := by decide +kernel
theorem dX7_shift_112 : decode cX7_shift 112 = .ok (.getfield 194, 3) := by decide +kernel
theorem dX7_shift_115 : decode cX7_shift 115 = .ok (.iload 6, 2) := by decide +kernel
theorem dX7_shift_117 : decode cX7_shift 117 = .ok (.aload_n 0, 1) := by decide +kernel
theorem dX7_shift_118 : decode cX7_shift 118 = .ok (.getfield 190, 3) := by decide +kernel
theorem dX7_shift_121 : decode cX7_shift 121 = .ok (.bipush 60, 2) := by decide +kernel
theorem dX7_shift_123 : decode cX7_shift 123 = .ok (.iload_n 1, 1) := by decide +kernel
theorem dX7_shift_124 : decode cX7_shift 124 = .ok (.imul, 1) := by decide +kernel
theorem dX7_shift_125 : decode cX7_shift 125 = .ok (.iload_n 2, 1) := by decide +kernel
theorem dX7_shift_126 : decode cX7_shift 126 = .ok (.iadd, 1) := by decide +kernel
theorem dX7_shift_127 : decode cX7_shift 127 = .ok (.iload 6, 2) := by decide +kernel
theorem dX7_shift_129 : decode cX7_shift 129 = .ok (.iadd, 1) := by decide +kernel
theorem dX7_shift_130 : decode cX7_shift 130 = .ok (.laload, 1) := by decide +kernel
theorem dX7_shift_131 : decode cX7_shift 131 = .ok (.lastore, 1) := by decide +kernel
theorem dX7_shift_132 : decode cX7_shift 132 = .ok (.iinc 6 1, 3) := by decide +kernel
theorem dX7_shift_135 : decode cX7_shift 135 = .ok (.goto (-31), 3) := by decide +kernel
theorem dX7_shift_138 : decode cX7_shift 138 = .ok (.iconst 0, 1) := by decide +kernel
theorem dX7_shift_139 : decode cX7_shift 139 = .ok (.istore 6, 2) := by decide +kernel
theorem dX7_shift_141 : decode cX7_shift 141 = .ok (.iload 6, 2) := by decide +kernel
theorem dX7_shift_143 : decode cX7_shift 143 = .ok (.iload 5, 2) := by decide +kernel
theorem dX7_shift_145 : decode cX7_shift 145 = .ok (.if_icmp .ge 31, 3) := by decide +kernel
theorem dX7_shift_148 : decode cX7_shift 148 = .ok (.aload_n 0, 1) := by decide +kernel
theorem dX7_shift_149 : decode cX7_shift 149 = .ok (.getfield 190, 3) := by decide +kernel
theorem dX7_shift_152 : decode cX7_shift 152 = .ok (.bipush 60, 2) := by decide +kernel
theorem dX7_shift_154 : decode cX7_shift 154 = .ok (.iload_n 3, 1) := by decide +kernel
theorem dX7_shift_155 : decode cX7_shift 155 = .ok (.imul, 1) := by decide +kernel
theorem dX7_shift_156 : decode cX7_shift 156 = .ok (.iload 4, 2) := by decide +kernel
theorem dX7_shift_158 : decode cX7_shift 158 = .ok (.iadd, 1) := by decide +kernel
theorem dX7_shift_159 : decode cX7_shift 159 = .ok (.iload 6, 2) := by decide +kernel
theorem dX7_shift_161 : decode cX7_shift 161 = .ok (.iadd, 1) := by decide +kernel
theorem dX7_shift_162 : decode cX7_shift 162 = .ok (.aload_n 0, 1) := by decide +kernel
theorem dX7_shift_163 : decode cX7_shift 163 = .ok (.getfield 194, 3) := by decide +kernel
theorem dX7_shift_166 : decode cX7_shift 166 = .ok (.iload 6, 2) := by decide +kernel
theorem dX7_shift_168 : decode cX7_shift 168 = .ok (.laload, 1) := by decide +kernel
theorem dX7_shift_169 : decode cX7_shift 169 = .ok (.lastore, 1) := by decide +kernel
theorem dX7_shift_170 : decode cX7_shift 170 = .ok (.iinc 6 1, 3) := by decide +kernel
theorem dX7_shift_173 : decode cX7_shift 173 = .ok (.goto (-32), 3) := by decide +kernel
theorem dX7_shift_176 : decode cX7_shift 176 = .ok (.iload 5, 2) := by decide +kernel
theorem dX7_shift_178 : decode cX7_shift 178 = .ok (.ireturn, 1) := by decide +kernel
