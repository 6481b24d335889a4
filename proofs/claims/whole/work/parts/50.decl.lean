theorem d_La_law_0 : decode code 0 = .ok (.new 7, 3) := by decide +kernel
theorem d_La_law_3 : decode code 3 = .ok (.dup, 1) := by decide +kernel
theorem d_La_law_4 : decode code 4 = .ok (.invokespecial 9, 3) := by decide +kernel
theorem d_La_law_7 : decode code 7 = .ok (.astore_n 1, 1) := by decide +kernel
theorem d_La_law_8 : decode code 8 = .ok (.new 10, 3) := by decide +kernel
theorem d_La_law_11 : decode code 11 = .ok (.dup, 1) := by decide +kernel
theorem d_La_law_12 : decode code 12 = .ok (.invokespecial 12, 3) := by decide +kernel
theorem d_La_law_15 : decode code 15 = .ok (.astore_n 2, 1) := by decide +kernel
theorem d_La_law_16 : decode code 16 = .ok (.iconst 0, 1) := by decide +kernel
theorem d_La_law_17 : decode code 17 = .ok (.istore_n 3, 1) := by decide +kernel
theorem d_La_law_18 : decode code 18 = .ok (.iload_n 3, 1) := by decide +kernel
theorem d_La_law_19 : decode code 19 = .ok (.aload_n 0, 1) := by decide +kernel
theorem d_La_law_20 : decode code 20 = .ok (.arraylength, 1) := by decide +kernel
theorem d_La_law_21 : decode code 21 = .ok (.iconst 4, 1) := by decide +kernel
theorem d_La_law_22 : decode code 22 = .ok (.isub, 1) := by decide +kernel
theorem d_La_law_23 : decode code 23 = .ok (.if_icmp .gt 739, 3) := by decide +kernel
theorem d_La_law_26 : decode code 26 = .ok (.aload_n 0, 1) := by decide +kernel
theorem d_La_law_27 : decode code 27 = .ok (.iload_n 3, 1) := by decide +kernel
theorem d_La_law_28 : decode code 28 = .ok (.iaload, 1) := by decide +kernel
theorem d_La_law_29 : decode code 29 = .ok (.bipush 15, 2) := by decide +kernel
theorem d_La_law_31 : decode code 31 = .ok (.iand, 1) := by decide +kernel
theorem d_La_law_32 : decode code 32 = .ok (.tableswitch 724 0 15 #[80, 133, 196, 259, 322, 355, 418, 461, 510, 533, 556, 579, 612, 635, 668, 691], 80) := by decide +kernel
theorem d_La_law_112 : decode code 112 = .ok (.aload_n 1, 1) := by decide +kernel
theorem d_La_law_113 : decode code 113 = .ok (.aload_n 0, 1) := by decide +kernel
theorem d_La_law_114 : decode code 114 = .ok (.iload_n 3, 1) := by decide +kernel
theorem d_La_law_115 : decode code 115 = .ok (.iconst 1, 1) := by decide +kernel
theorem d_La_law_116 : decode code 116 = .ok (.iadd, 1) := by decide +kernel
theorem d_La_law_117 : decode code 117 = .ok (.iaload, 1) := by decide +kernel
theorem d_La_law_118 : decode code 118 = .ok (.i2l, 1) := by decide +kernel
theorem d_La_law_119 : decode code 119 = .ok (.bipush 32, 2) := by decide +kernel
theorem d_La_law_121 : decode code 121 = .ok (.lshl, 1) := by decide +kernel
theorem d_La_law_122 : decode code 122 = .ok (.aload_n 0, 1) := by decide +kernel
theorem d_La_law_123 : decode code 123 = .ok (.iload_n 3, 1) := by decide +kernel
theorem d_La_law_124 : decode code 124 = .ok (.iconst 2, 1) := by decide +kernel
theorem d_La_law_125 : decode code 125 = .ok (.iadd, 1) := by decide +kernel
theorem d_La_law_126 : decode code 126 = .ok (.iaload, 1) := by decide +kernel
theorem d_La_law_127 : decode code 127 = .ok (.i2l, 1) := by decide +kernel
theorem d_La_law_128 : decode code 128 = .ok (.ldc2_w 13, 3) := by decide +kernel
theorem d_La_law_131 : decode code 131 = .ok (.land, 1) := by decide +kernel
theorem d_La_law_132 : decode code 132 = .ok (.lor, 1) := by decide +kernel
theorem d_La_law_133 : decode code 133 = .ok (.invokevirtual 15, 3) := by decide +kernel
theorem d_La_law_136 : decode code 136 = .ok (.aload_n 2, 1) := by decide +kernel
theorem d_La_law_137 : decode code 137 = .ok (.aload_n 0, 1) := by decide +kernel
theorem d_La_law_138 : decode code 138 = .ok (.iload_n 3, 1) := by decide +kernel
theorem d_La_law_139 : decode code 139 = .ok (.iconst 1, 1) := by decide +kernel
theorem d_La_law_140 : decode code 140 = .ok (.iadd, 1) := by decide +kernel
theorem d_La_law_141 : decode code 141 = .ok (.iaload, 1) := by decide +kernel
theorem d_La_law_142 : decode code 142 = .ok (.i2l, 1) := by decide +kernel
theorem d_La_law_143 : decode code 143 = .ok (.bipush 32, 2) := by decide +kernel
theorem d_La_law_145 : decode code 145 = .ok (.lshl, 1) := by decide +kernel
theorem d_La_law_146 : decode code 146 = .ok (.aload_n 0, 1) := by decide +kernel
theorem d_La_law_147 : decode code 147 = .ok (.iload_n 3, 1) := by decide +kernel
theorem d_La_law_148 : decode code 148 = .ok (.iconst 2, 1) := by decide +kernel
theorem d_La_law_149 : decode code 149 = .ok (.iadd, 1) := by decide +kernel
theorem d_La_law_150 : decode code 150 = .ok (.iaload, 1) := by decide +kernel
theorem d_La_law_151 : decode code 151 = .ok (.i2l, 1) := by decide +kernel
theorem d_La_law_152 : decode code 152 = .ok (.ldc2_w 13, 3) := by decide +kernel
theorem d_La_law_155 : decode code 155 = .ok (.land, 1) := by decide +kernel
theorem d_La_law_156 : decode code 156 = .ok (.lor, 1) := by decide +kernel
theorem d_La_law_157 : decode code 157 = .ok (.invokevirtual 19, 3) := by decide +kernel
theorem d_La_law_160 : decode code 160 = .ok (.if_icmp .eq 596, 3) := by decide +kernel
theorem d_La_law_163 : decode code 163 = .ok (.iconst 0, 1) := by decide +kernel
theorem d_La_law_164 : decode code 164 = .ok (.ireturn, 1) := by decide +kernel
theorem d_La_law_165 : decode code 165 = .ok (.aload_n 1, 1) := by decide +kernel
theorem d_La_law_166 : decode code 166 = .ok (.aload_n 0, 1) := by decide +kernel
theorem d_La_law_167 : decode code 167 = .ok (.iload_n 3, 1) := by decide +kernel
theorem d_La_law_168 : decode code 168 = .ok (.iconst 1, 1) := by decide +kernel
theorem d_La_law_169 : decode code 169 = .ok (.iadd, 1) := by decide +kernel
theorem d_La_law_170 : decode code 170 = .ok (.iaload, 1) := by decide +kernel
theorem d_La_law_171 : decode code 171 = .ok (.aload_n 0, 1) := by decide +kernel
theorem d_La_law_172 : decode code 172 = .ok (.iload_n 3, 1) := by decide +kernel
theorem d_La_law_173 : decode code 173 = .ok (.iconst 2, 1) := by decide +kernel
theorem d_La_law_174 : decode code 174 = .ok (.iadd, 1) := by decide +kernel
theorem d_La_law_175 : decode code 175 = .ok (.iaload, 1) := by decide +kernel
theorem d_La_law_176 : decode code 176 = .ok (.i2l, 1) := by decide +kernel
theorem d_La_law_177 : decode code 177 = .ok (.bipush 32, 2) := by decide +kernel
theorem d_La_law_179 : decode code 179 = .ok (.lshl, 1) := by decide +kernel
theorem d_La_law_180 : decode code 180 = .ok (.aload_n 0, 1) := by decide +kernel
theorem d_La_law_181 : decode code 181 = .ok (.iload_n 3, 1) := by decide +kernel
theorem d_La_law_182 : decode code 182 = .ok (.iconst 3, 1) := by decide +kernel
theorem d_La_law_183 : decode code 183 = .ok (.iadd, 1) := by decide +kernel
theorem d_La_law_184 : decode code 184 = .ok (.iaload, 1) := by decide +kernel
theorem d_La_law_185 : decode code 185 = .ok (.i2l, 1) := by decide +kernel
theorem d_La_law_186 : decode code 186 = .ok (.ldc2_w 13, 3) := by decide +kernel
theorem d_La_law_189 : decode code 189 = .ok (.land, 1) := by decide +kernel
theorem d_La_law_190 : decode code 190 = .ok (.lor, 1) := by decide +kernel
theorem d_La_law_191 : decode code 191 = .ok (.invokevirtual 20, 3) := by decide +kernel
theorem d_La_law_194 : decode code 194 = .ok (.aload_n 2, 1) := by decide +kernel
theorem d_La_law_195 : decode code 195 = .ok (.aload_n 0, 1) := by decide +kernel
theorem d_La_law_196 : decode code 196 = .ok (.iload_n 3, 1) := by decide +kernel
theorem d_La_law_197 : decode code 197 = .ok (.iconst 1, 1) := by decide +kernel
theorem d_La_law_198 : decode code 198 = .ok (.iadd, 1) := by decide +kernel
theorem d_La_law_199 : decode code 199 = .ok (.iaload, 1) := by decide +kernel
theorem d_La_law_200 : decode code 200 = .ok (.aload_n 0, 1) := by decide +kernel
theorem d_La_law_201 : decode code 201 = .ok (.iload_n 3, 1) := by decide +kernel
theorem d_La_law_202 : decode code 202 = .ok (.iconst 2, 1) := by decide +kernel
theorem d_La_law_203 : decode code 203 = .ok (.iadd, 1) := by decide +kernel
theorem d_La_law_204 : decode code 204 = .ok (.iaload, 1) := by decide +kernel
theorem d_La_law_205 : decode code 205 = .ok (.i2l, 1) := by decide +kernel
theorem d_La_law_206 : decode code 206 = .ok (.bipush 32, 2) := by decide +kernel
theorem d_La_law_208 : decode code 208 = .ok (.lshl, 1) := by decide +kernel
theorem d_La_law_209 : decode code 209 = .ok (.aload_n 0, 1) := by decide +kernel
theorem d_La_law_210 : decode code 210 = .ok (.iload_n 3, 1) := by decide +kernel
theorem d_La_law_211 : decode code 211 = .ok (.iconst 3, 1) := by decide +kernel
theorem d_La_law_212 : decode code 212 = .ok (.iadd, 1) := by decide +kernel
theorem d_La_law_213 : decode code 213 = .ok (.iaload, 1) := by decide +kernel
theorem d_La_law_214 : decode code 214 = .ok (.i2l, 1) := by decide +kernel
theorem d_La_law_215 : decode code 215 = .ok (.ldc2_w 13, 3) := by decide +kernel
theorem d_La_law_218 : decode code 218 = .ok (.land, 1) := by decide +kernel
theorem d_La_law_219 : decode code 219 = .ok (.lor, 1) := by decide +kernel
theorem d_La_law_220 : decode code 220 = .ok (.invokevirtual 24, 3) := by decide +kernel
theorem d_La_law_223 : decode code 223 = .ok (.if_icmp .eq 533, 3) := by decide +kernel
theorem d_La_law_226 : decode code 226 = .ok (.iconst 0, 1) := by decide +kernel
theorem d_La_law_227 : decode code 227 = .ok (.ireturn, 1) := by decide +kernel
theorem d_La_law_228 : decode code 228 = .ok (.aload_n 1, 1) := by decide +kernel
theorem d_La_law_229 : decode code 229 = .ok (.aload_n 0, 1) := by decide +kernel
theorem d_La_law_230 : decode code 230 = .ok (.iload_n 3, 1) := by decide +kernel
theorem d_La_law_231 : decode code 231 = .ok (.iconst 1, 1) := by decide +kernel
theorem d_La_law_232 : decode code 232 = .ok (.iadd, 1) := by decide +kernel
theorem d_La_law_233 : decode code 233 = .ok (.iaload, 1) := by decide +kernel
theorem d_La_law_234 : decode code 234 = .ok (.aload_n 0, 1) := by decide +kernel
theorem d_La_law_235 : decode code 235 = .ok (.iload_n 3, 1) := by decide +kernel
theorem d_La_law_236 : decode code 236 = .ok (.iconst 2, 1) := by decide +kernel
theorem d_La_law_237 : decode code 237 = .ok (.iadd, 1) := by decide +kernel
theorem d_La_law_238 : decode code 238 = .ok (.iaload, 1) := by decide +kernel
theorem d_La_law_239 : decode code 239 = .ok (.i2l, 1) := by decide +kernel
theorem d_La_law_240 : decode code 240 = .ok (.bipush 32, 2) := by decide +kernel
theorem d_La_law_242 : decode code 242 = .ok (.lshl, 1) := by decide +kernel
theorem d_La_law_243 : decode code 243 = .ok (.aload_n 0, 1) := by decide +kernel
theorem d_La_law_244 : decode code 244 = .ok (.iload_n 3, 1) := by decide +kernel
theorem d_La_law_245 : decode code 245 = .ok (.iconst 3, 1) := by decide +kernel
theorem d_La_law_246 : decode code 246 = .ok (.iadd, 1) := by decide +kernel
theorem d_La_law_247 : decode code 247 = .ok (.iaload, 1) := by decide +kernel
theorem d_La_law_248 : decode code 248 = .ok (.i2l, 1) := by decide +kernel
theorem d_La_law_249 : decode code 249 = .ok (.ldc2_w 13, 3) := by decide +kernel
theorem d_La_law_252 : decode code 252 = .ok (.land, 1) := by decide +kernel
theorem d_La_law_253 : decode code 253 = .ok (.lor, 1) := by decide +kernel
theorem d_La_law_254 : decode code 254 = .ok (.invokevirtual 25, 3) := by decide +kernel
theorem d_La_law_257 : decode code 257 = .ok (.aload_n 2, 1) := by decide +kernel
theorem d_La_law_258 : decode code 258 = .ok (.aload_n 0, 1) := by decide +kernel
theorem d_La_law_259 : decode code 259 = .ok (.iload_n 3, 1) := by decide +kernel
theorem d_La_law_260 : decode code 260 = .ok (.iconst 1, 1) := by decide +kernel
theorem d_La_law_261 : decode code 261 = .ok (.iadd, 1) := by decide +kernel
theorem d_La_law_262 : decode code 262 = .ok (.iaload, 1) := by decide +kernel
theorem d_La_law_263 : decode code 263 = .ok (.aload_n 0, 1) := by decide +kernel
theorem d_La_law_264 : decode code 264 = .ok (.iload_n 3, 1) := by decide +kernel
theorem d_La_law_265 : decode code 265 = .ok (.iconst 2, 1) := by decide +kernel
theorem d_La_law_266 : decode code 266 = .ok (.iadd, 1) := by decide +kernel
theorem d_La_law_267 : decode code 267 = .ok (.iaload, 1) := by decide +kernel
theorem d_La_law_268 : decode code 268 = .ok (.i2l, 1) := by decide +kernel
theorem d_La_law_269 : decode code 269 = .ok (.bipush 32, 2) := by decide +kernel
theorem d_La_law_271 : decode code 271 = .ok (.lshl, 1) := by decide +kernel
theorem d_La_law_272 : decode code 272 = .ok (.aload_n 0, 1) := by decide +kernel
theorem d_La_law_273 : decode code 273 = .ok (.iload_n 3, 1) := by decide +kernel
theorem d_La_law_274 : decode code 274 = .ok (.iconst 3, 1) := by decide +kernel
theorem d_La_law_275 : decode code 275 = .ok (.iadd, 1) := by decide +kernel
theorem d_La_law_276 : decode code 276 = .ok (.iaload, 1) := by decide +kernel
theorem d_La_law_277 : decode code 277 = .ok (.i2l, 1) := by decide +kernel
theorem d_La_law_278 : decode code 278 = .ok (.ldc2_w 13, 3) := by decide +kernel
theorem d_La_law_281 : decode code 281 = .ok (.land, 1) := by decide +kernel
theorem d_La_law_282 : decode code 282 = .ok (.lor, 1) := by decide +kernel
theorem d_La_law_283 : decode code 283 = .ok (.invokevirtual 29, 3) := by decide +kernel
theorem d_La_law_286 : decode code 286 = .ok (.if_icmp .eq 470, 3) := by decide +kernel
theorem d_La_law_289 : decode code 289 = .ok (.iconst 0, 1) := by decide +kernel
theorem d_La_law_290 : decode code 290 = .ok (.ireturn, 1) := by decide +kernel
theorem d_La_law_291 : decode code 291 = .ok (.aload_n 1, 1) := by decide +kernel
theorem d_La_law_292 : decode code 292 = .ok (.aload_n 0, 1) := by decide +kernel
theorem d_La_law_293 : decode code 293 = .ok (.iload_n 3, 1) := by decide +kernel
theorem d_La_law_294 : decode code 294 = .ok (.iconst 1, 1) := by decide +kernel
theorem d_La_law_295 : decode code 295 = .ok (.iadd, 1) := by decide +kernel
theorem d_La_law_296 : decode code 296 = .ok (.iaload, 1) := by decide +kernel
theorem d_La_law_297 : decode code 297 = .ok (.aload_n 0, 1) := by decide +kernel
theorem d_La_law_298 : decode code 298 = .ok (.iload_n 3, 1) := by decide +kernel
theorem d_La_law_299 : decode code 299 = .ok (.iconst 2, 1) := by decide +kernel
theorem d_La_law_300 : decode code 300 = .ok (.iadd, 1) := by decide +kernel
theorem d_La_law_301 : decode code 301 = .ok (.iaload, 1) := by decide +kernel
theorem d_La_law_302 : decode code 302 = .ok (.i2l, 1) := by decide +kernel
theorem d_La_law_303 : decode code 303 = .ok (.bipush 32, 2) := by decide +kernel
theorem d_La_law_305 : decode code 305 = .ok (.lshl, 1) := by decide +kernel
theorem d_La_law_306 : decode code 306 = .ok (.aload_n 0, 1) := by decide +kernel
theorem d_La_law_307 : decode code 307 = .ok (.iload_n 3, 1) := by decide +kernel
theorem d_La_law_308 : decode code 308 = .ok (.iconst 3, 1) := by decide +kernel
theorem d_La_law_309 : decode code 309 = .ok (.iadd, 1) := by decide +kernel
theorem d_La_law_310 : decode code 310 = .ok (.iaload, 1) := by decide +kernel
theorem d_La_law_311 : decode code 311 = .ok (.i2l, 1) := by decide +kernel
theorem d_La_law_312 : decode code 312 = .ok (.ldc2_w 13, 3) := by decide +kernel
theorem d_La_law_315 : decode code 315 = .ok (.land, 1) := by decide +kernel
theorem d_La_law_316 : decode code 316 = .ok (.lor, 1) := by decide +kernel
theorem d_La_law_317 : decode code 317 = .ok (.invokevirtual 30, 3) := by decide +kernel
theorem d_La_law_320 : decode code 320 = .ok (.aload_n 2, 1) := by decide +kernel
theorem d_La_law_321 : decode code 321 = .ok (.aload_n 0, 1) := by decide +kernel
theorem d_La_law_322 : decode code 322 = .ok (.iload_n 3, 1) := by decide +kernel
theorem d_La_law_323 : decode code 323 = .ok (.iconst 1, 1) := by decide +kernel
theorem d_La_law_324 : decode code 324 = .ok (.iadd, 1) := by decide +kernel
theorem d_La_law_325 : decode code 325 = .ok (.iaload, 1) := by decide +kernel
theorem d_La_law_326 : decode code 326 = .ok (.aload_n 0, 1) := by decide +kernel
theorem d_La_law_327 : decode code 327 = .ok (.iload_n 3, 1) := by decide +kernel
theorem d_La_law_328 : decode code 328 = .ok (.iconst 2, 1) := by decide +kernel
theorem d_La_law_329 : decode code 329 = .ok (.iadd, 1) := by decide +kernel
theorem d_La_law_330 : decode code 330 = .ok (.iaload, 1) := by decide +kernel
theorem d_La_law_331 : decode code 331 = .ok (.i2l, 1) := by decide +kernel
theorem d_La_law_332 : decode code 332 = .ok (.bipush 32, 2) := by decide +kernel
theorem d_La_law_334 : decode code 334 = .ok (.lshl, 1) := by decide +kernel
theorem d_La_law_335 : decode code 335 = .ok (.aload_n 0, 1) := by decide +kernel
theorem d_La_law_336 : decode code 336 = .ok (.iload_n 3, 1) := by decide +kernel
theorem d_La_law_337 : decode code 337 = .ok (.iconst 3, 1) := by decide +kernel
theorem d_La_law_338 : decode code 338 = .ok (.iadd, 1) := by decide +kernel
theorem d_La_law_339 : decode code 339 = .ok (.iaload, 1) := by decide +kernel
theorem d_La_law_340 : decode code 340 = .ok (.i2l, 1) := by decide +kernel
theorem d_La_law_341 : decode code 341 = .ok (.ldc2_w 13, 3) := by decide +kernel
theorem d_La_law_344 : decode code 344 = .ok (.land, 1) := by decide +kernel
theorem d_La_law_345 : decode code 345 = .ok (.lor, 1) := by decide +kernel
theorem d_La_law_346 : decode code 346 = .ok (.invokevirtual 33, 3) := by decide +kernel
theorem d_La_law_349 : decode code 349 = .ok (.if_icmp .eq 407, 3) := by decide +kernel
theorem d_La_law_352 : decode code 352 = .ok (.iconst 0, 1) := by decide +kernel
theorem d_La_law_353 : decode code 353 = .ok (.ireturn, 1) := by decide +kernel
theorem d_La_law_354 : decode code 354 = .ok (.aload_n 1, 1) := by decide +kernel
theorem d_La_law_355 : decode code 355 = .ok (.aload_n 0, 1) := by decide +kernel
theorem d_La_law_356 : decode code 356 = .ok (.iload_n 3, 1) := by decide +kernel
theorem d_La_law_357 : decode code 357 = .ok (.iconst 1, 1) := by decide +kernel
theorem d_La_law_358 : decode code 358 = .ok (.iadd, 1) := by decide +kernel
theorem d_La_law_359 : decode code 359 = .ok (.iaload, 1) := by decide +kernel
theorem d_La_law_360 : decode code 360 = .ok (.aload_n 0, 1) := by decide +kernel
theorem d_La_law_361 : decode code 361 = .ok (.iload_n 3, 1) := by decide +kernel
theorem d_La_law_362 : decode code 362 = .ok (.iconst 2, 1) := by decide +kernel
theorem d_La_law_363 : decode code 363 = .ok (.iadd, 1) := by decide +kernel
theorem d_La_law_364 : decode code 364 = .ok (.iaload, 1) := by decide +kernel
theorem d_La_law_365 : decode code 365 = .ok (.invokevirtual 34, 3) := by decide +kernel
theorem d_La_law_368 : decode code 368 = .ok (.aload_n 2, 1) := by decide +kernel
theorem d_La_law_369 : decode code 369 = .ok (.aload_n 0, 1) := by decide +kernel
theorem d_La_law_370 : decode code 370 = .ok (.iload_n 3, 1) := by decide +kernel
theorem d_La_law_371 : decode code 371 = .ok (.iconst 1, 1) := by decide +kernel
theorem d_La_law_372 : decode code 372 = .ok (.iadd, 1) := by decide +kernel
theorem d_La_law_373 : decode code 373 = .ok (.iaload, 1) := by decide +kernel
theorem d_La_law_374 : decode code 374 = .ok (.aload_n 0, 1) := by decide +kernel
theorem d_La_law_375 : decode code 375 = .ok (.iload_n 3, 1) := by decide +kernel
theorem d_La_law_376 : decode code 376 = .ok (.iconst 2, 1) := by decide +kernel
theorem d_La_law_377 : decode code 377 = .ok (.iadd, 1) := by decide +kernel
theorem d_La_law_378 : decode code 378 = .ok (.iaload, 1) := by decide +kernel
theorem d_La_law_379 : decode code 379 = .ok (.invokevirtual 38, 3) := by decide +kernel
theorem d_La_law_382 : decode code 382 = .ok (.if_icmp .eq 374, 3) := by decide +kernel
theorem d_La_law_385 : decode code 385 = .ok (.iconst 0, 1) := by decide +kernel
theorem d_La_law_386 : decode code 386 = .ok (.ireturn, 1) := by decide +kernel
theorem d_La_law_387 : decode code 387 = .ok (.aload_n 1, 1) := by decide +kernel
theorem d_La_law_388 : decode code 388 = .ok (.aload_n 0, 1) := by decide +kernel
theorem d_La_law_389 : decode code 389 = .ok (.iload_n 3, 1) := by decide +kernel
theorem d_La_law_390 : decode code 390 = .ok (.iconst 1, 1) := by decide +kernel
theorem d_La_law_391 : decode code 391 = .ok (.iadd, 1) := by decide +kernel
theorem d_La_law_392 : decode code 392 = .ok (.iaload, 1) := by decide +kernel
theorem d_La_law_393 : decode code 393 = .ok (.aload_n 0, 1) := by decide +kernel
theorem d_La_law_394 : decode code 394 = .ok (.iload_n 3, 1) := by decide +kernel
theorem d_La_law_395 : decode code 395 = .ok (.iconst 2, 1) := by decide +kernel
theorem d_La_law_396 : decode code 396 = .ok (.iadd, 1) := by decide +kernel
theorem d_La_law_397 : decode code 397 = .ok (.iaload, 1) := by decide +kernel
theorem d_La_law_398 : decode code 398 = .ok (.i2l, 1) := by decide +kernel
theorem d_La_law_399 : decode code 399 = .ok (.bipush 32, 2) := by decide +kernel
theorem d_La_law_401 : decode code 401 = .ok (.lshl, 1) := by decide +kernel
theorem d_La_law_402 : decode code 402 = .ok (.aload_n 0, 1) := by decide +kernel
theorem d_La_law_403 : decode code 403 = .ok (.iload_n 3, 1) := by decide +kernel
theorem d_La_law_404 : decode code 404 = .ok (.iconst 3, 1) := by decide +kernel
theorem d_La_law_405 : decode code 405 = .ok (.iadd, 1) := by decide +kernel
theorem d_La_law_406 : decode code 406 = .ok (.iaload, 1) := by decide +kernel
theorem d_La_law_407 : decode code 407 = .ok (.i2l, 1) := by decide +kernel
theorem d_La_law_408 : decode code 408 = .ok (.ldc2_w 13, 3) := by decide +kernel
theorem d_La_law_411 : decode code 411 = .ok (.land, 1) := by decide +kernel
theorem d_La_law_412 : decode code 412 = .ok (.lor, 1) := by decide +kernel
theorem d_La_law_413 : decode code 413 = .ok (.invokevirtual 39, 3) := by decide +kernel
theorem d_La_law_416 : decode code 416 = .ok (.aload_n 2, 1) := by decide +kernel
theorem d_La_law_417 : decode code 417 = .ok (.aload_n 0, 1) := by decide +kernel
theorem d_La_law_418 : decode code 418 = .ok (.iload_n 3, 1) := by decide +kernel
theorem d_La_law_419 : decode code 419 = .ok (.iconst 1, 1) := by decide +kernel
theorem d_La_law_420 : decode code 420 = .ok (.iadd, 1) := by decide +kernel
theorem d_La_law_421 : decode code 421 = .ok (.iaload, 1) := by decide +kernel
theorem d_La_law_422 : decode code 422 = .ok (.aload_n 0, 1) := by decide +kernel
theorem d_La_law_423 : decode code 423 = .ok (.iload_n 3, 1) := by decide +kernel
theorem d_La_law_424 : decode code 424 = .ok (.iconst 2, 1) := by decide +kernel
theorem d_La_law_425 : decode code 425 = .ok (.iadd, 1) := by decide +kernel
theorem d_La_law_426 : decode code 426 = .ok (.iaload, 1) := by decide +kernel
theorem d_La_law_427 : decode code 427 = .ok (.i2l, 1) := by decide +kernel
theorem d_La_law_428 : decode code 428 = .ok (.bipush 32, 2) := by decide +kernel
theorem d_La_law_430 : decode code 430 = .ok (.lshl, 1) := by decide +kernel
theorem d_La_law_431 : decode code 431 = .ok (.aload_n 0, 1) := by decide +kernel
theorem d_La_law_432 : decode code 432 = .ok (.iload_n 3, 1) := by decide +kernel
theorem d_La_law_433 : decode code 433 = .ok (.iconst 3, 1) := by decide +kernel
theorem d_La_law_434 : decode code 434 = .ok (.iadd, 1) := by decide +kernel
theorem d_La_law_435 : decode code 435 = .ok (.iaload, 1) := by decide +kernel
theorem d_La_law_436 : decode code 436 = .ok (.i2l, 1) := by decide +kernel
theorem d_La_law_437 : decode code 437 = .ok (.ldc2_w 13, 3) := by decide +kernel
theorem d_La_law_440 : decode code 440 = .ok (.land, 1) := by decide +kernel
theorem d_La_law_441 : decode code 441 = .ok (.lor, 1) := by decide +kernel
theorem d_La_law_442 : decode code 442 = .ok (.invokevirtual 42, 3) := by decide +kernel
theorem d_La_law_445 : decode code 445 = .ok (.if_icmp .eq 311, 3) := by decide +kernel
theorem d_La_law_448 : decode code 448 = .ok (.iconst 0, 1) := by decide +kernel
theorem d_La_law_449 : decode code 449 = .ok (.ireturn, 1) := by decide +kernel
theorem d_La_law_450 : decode code 450 = .ok (.aload_n 1, 1) := by decide +kernel
theorem d_La_law_451 : decode code 451 = .ok (.aload_n 0, 1) := by decide +kernel
theorem d_La_law_452 : decode code 452 = .ok (.iload_n 3, 1) := by decide +kernel
theorem d_La_law_453 : decode code 453 = .ok (.iconst 1, 1) := by decide +kernel
theorem d_La_law_454 : decode code 454 = .ok (.iadd, 1) := by decide +kernel
theorem d_La_law_455 : decode code 455 = .ok (.iaload, 1) := by decide +kernel
theorem d_La_law_456 : decode code 456 = .ok (.aload_n 0, 1) := by decide +kernel
theorem d_La_law_457 : decode code 457 = .ok (.iload_n 3, 1) := by decide +kernel
theorem d_La_law_458 : decode code 458 = .ok (.iconst 2, 1) := by decide +kernel
theorem d_La_law_459 : decode code 459 = .ok (.iadd, 1) := by decide +kernel
theorem d_La_law_460 : decode code 460 = .ok (.iaload, 1) := by decide +kernel
theorem d_La_law_461 : decode code 461 = .ok (.aload_n 0, 1) := by decide +kernel
theorem d_La_law_462 : decode code 462 = .ok (.iload_n 3, 1) := by decide +kernel
theorem d_La_law_463 : decode code 463 = .ok (.iconst 3, 1) := by decide +kernel
theorem d_La_law_464 : decode code 464 = .ok (.iadd, 1) := by decide +kernel
theorem d_La_law_465 : decode code 465 = .ok (.iaload, 1) := by decide +kernel
theorem d_La_law_466 : decode code 466 = .ok (.invokevirtual 43, 3) := by decide +kernel
theorem d_La_law_469 : decode code 469 = .ok (.aload_n 2, 1) := by decide +kernel
theorem d_La_law_470 : decode code 470 = .ok (.aload_n 0, 1) := by decide +kernel
theorem d_La_law_471 : decode code 471 = .ok (.iload_n 3, 1) := by decide +kernel
theorem d_La_law_472 : decode code 472 = .ok (.iconst 1, 1) := by decide +kernel
theorem d_La_law_473 : decode code 473 = .ok (.iadd, 1) := by decide +kernel
theorem d_La_law_474 : decode code 474 = .ok (.iaload, 1) := by decide +kernel
theorem d_La_law_475 : decode code 475 = .ok (.aload_n 0, 1) := by decide +kernel
theorem d_La_law_476 : decode code 476 = .ok (.iload_n 3, 1) := by decide +kernel
theorem d_La_law_477 : decode code 477 = .ok (.iconst 2, 1) := by decide +kernel
theorem d_La_law_478 : decode code 478 = .ok (.iadd, 1) := by decide +kernel
theorem d_La_law_479 : decode code 479 = .ok (.iaload, 1) := by decide +kernel
theorem d_La_law_480 : decode code 480 = .ok (.aload_n 0, 1) := by decide +kernel
theorem d_La_law_481 : decode code 481 = .ok (.iload_n 3, 1) := by decide +kernel
theorem d_La_law_482 : decode code 482 = .ok (.iconst 3, 1) := by decide +kernel
theorem d_La_law_483 : decode code 483 = .ok (.iadd, 1) := by decide +kernel
theorem d_La_law_484 : decode code 484 = .ok (.iaload, 1) := by decide +kernel
theorem d_La_law_485 : decode code 485 = .ok (.invokevirtual 47, 3) := by decide +kernel
theorem d_La_law_488 : decode code 488 = .ok (.if_icmp .eq 268, 3) := by decide +kernel
theorem d_La_law_491 : decode code 491 = .ok (.iconst 0, 1) := by decide +kernel
theorem d_La_law_492 : decode code 492 = .ok (.ireturn, 1) := by decide +kernel
theorem d_La_law_493 : decode code 493 = .ok (.aload_n 1, 1) := by decide +kernel
theorem d_La_law_494 : decode code 494 = .ok (.aload_n 0, 1) := by decide +kernel
theorem d_La_law_495 : decode code 495 = .ok (.iload_n 3, 1) := by decide +kernel
theorem d_La_law_496 : decode code 496 = .ok (.iconst 1, 1) := by decide +kernel
theorem d_La_law_497 : decode code 497 = .ok (.iadd, 1) := by decide +kernel
theorem d_La_law_498 : decode code 498 = .ok (.iaload, 1) := by decide +kernel
theorem d_La_law_499 : decode code 499 = .ok (.aload_n 0, 1) := by decide +kernel
theorem d_La_law_500 : decode code 500 = .ok (.iload_n 3, 1) := by decide +kernel
theorem d_La_law_501 : decode code 501 = .ok (.iconst 2, 1) := by decide +kernel
theorem d_La_law_502 : decode code 502 = .ok (.iadd, 1) := by decide +kernel
theorem d_La_law_503 : decode code 503 = .ok (.iaload, 1) := by decide +kernel
theorem d_La_law_504 : decode code 504 = .ok (.ifCond .eq 7, 3) := by decide +kernel
theorem d_La_law_507 : decode code 507 = .ok (.iconst 1, 1) := by decide +kernel
theorem d_La_law_508 : decode code 508 = .ok (.goto 4, 3) := by decide +kernel
theorem d_La_law_511 : decode code 511 = .ok (.iconst 0, 1) := by decide +kernel
theorem d_La_law_512 : decode code 512 = .ok (.invokevirtual 48, 3) := by decide +kernel
theorem d_La_law_515 : decode code 515 = .ok (.aload_n 2, 1) := by decide +kernel
theorem d_La_law_516 : decode code 516 = .ok (.aload_n 0, 1) := by decide +kernel
theorem d_La_law_517 : decode code 517 = .ok (.iload_n 3, 1) := by decide +kernel
theorem d_La_law_518 : decode code 518 = .ok (.iconst 1, 1) := by decide +kernel
theorem d_La_law_519 : decode code 519 = .ok (.iadd, 1) := by decide +kernel
theorem d_La_law_520 : decode code 520 = .ok (.iaload, 1) := by decide +kernel
theorem d_La_law_521 : decode code 521 = .ok (.aload_n 0, 1) := by decide +kernel
theorem d_La_law_522 : decode code 522 = .ok (.iload_n 3, 1) := by decide +kernel
theorem d_La_law_523 : decode code 523 = .ok (.iconst 2, 1) := by decide +kernel
theorem d_La_law_524 : decode code 524 = .ok (.iadd, 1) := by decide +kernel
theorem d_La_law_525 : decode code 525 = .ok (.iaload, 1) := by decide +kernel
theorem d_La_law_526 : decode code 526 = .ok (.ifCond .eq 7, 3) := by decide +kernel
theorem d_La_law_529 : decode code 529 = .ok (.iconst 1, 1) := by decide +kernel
theorem d_La_law_530 : decode code 530 = .ok (.goto 4, 3) := by decide +kernel
theorem d_La_law_533 : decode code 533 = .ok (.iconst 0, 1) := by decide +kernel
theorem d_La_law_534 : decode code 534 = .ok (.invokevirtual 52, 3) := by decide +kernel
theorem d_La_law_537 : decode code 537 = .ok (.if_icmp .eq 219, 3) := by decide +kernel
theorem d_La_law_540 : decode code 540 = .ok (.iconst 0, 1) := by decide +kernel
theorem d_La_law_541 : decode code 541 = .ok (.ireturn, 1) := by decide +kernel
theorem d_La_law_542 : decode code 542 = .ok (.aload_n 1, 1) := by decide +kernel
theorem d_La_law_543 : decode code 543 = .ok (.aload_n 0, 1) := by decide +kernel
theorem d_La_law_544 : decode code 544 = .ok (.iload_n 3, 1) := by decide +kernel
theorem d_La_law_545 : decode code 545 = .ok (.iconst 1, 1) := by decide +kernel
theorem d_La_law_546 : decode code 546 = .ok (.iadd, 1) := by decide +kernel
theorem d_La_law_547 : decode code 547 = .ok (.iaload, 1) := by decide +kernel
theorem d_La_law_548 : decode code 548 = .ok (.invokevirtual 53, 3) := by decide +kernel
theorem d_La_law_551 : decode code 551 = .ok (.aload_n 2, 1) := by decide +kernel
theorem d_La_law_552 : decode code 552 = .ok (.aload_n 0, 1) := by decide +kernel
theorem d_La_law_553 : decode code 553 = .ok (.iload_n 3, 1) := by decide +kernel
theorem d_La_law_554 : decode code 554 = .ok (.iconst 1, 1) := by decide +kernel
theorem d_La_law_555 : decode code 555 = .ok (.iadd, 1) := by decide +kernel
theorem d_La_law_556 : decode code 556 = .ok (.iaload, 1) := by decide +kernel
theorem d_La_law_557 : decode code 557 = .ok (.invokevirtual 57, 3) := by decide +kernel
theorem d_La_law_560 : decode code 560 = .ok (.if_icmp .eq 196, 3) := by decide +kernel
theorem d_La_law_563 : decode code 563 = .ok (.iconst 0, 1) := by decide +kernel
theorem d_La_law_564 : decode code 564 = .ok (.ireturn, 1) := by decide +kernel
theorem d_La_law_565 : decode code 565 = .ok (.aload_n 1, 1) := by decide +kernel
theorem d_La_law_566 : decode code 566 = .ok (.aload_n 0, 1) := by decide +kernel
theorem d_La_law_567 : decode code 567 = .ok (.iload_n 3, 1) := by decide +kernel
theorem d_La_law_568 : decode code 568 = .ok (.iconst 1, 1) := by decide +kernel
theorem d_La_law_569 : decode code 569 = .ok (.iadd, 1) := by decide +kernel
theorem d_La_law_570 : decode code 570 = .ok (.iaload, 1) := by decide +kernel
theorem d_La_law_571 : decode code 571 = .ok (.invokevirtual 58, 3) := by decide +kernel
theorem d_La_law_574 : decode code 574 = .ok (.aload_n 2, 1) := by decide +kernel
theorem d_La_law_575 : decode code 575 = .ok (.aload_n 0, 1) := by decide +kernel
theorem d_La_law_576 : decode code 576 = .ok (.iload_n 3, 1) := by decide +kernel
theorem d_La_law_577 : decode code 577 = .ok (.iconst 1, 1) := by decide +kernel
theorem d_La_law_578 : decode code 578 = .ok (.iadd, 1) := by decide +kernel
theorem d_La_law_579 : decode code 579 = .ok (.iaload, 1) := by decide +kernel
theorem d_La_law_580 : decode code 580 = .ok (.invokevirtual 61, 3) := by decide +kernel
theorem d_La_law_583 : decode code 583 = .ok (.if_icmp .eq 173, 3) := by decide +kernel
theorem d_La_law_586 : decode code 586 = .ok (.iconst 0, 1) := by decide +kernel
theorem d_La_law_587 : decode code 587 = .ok (.ireturn, 1) := by decide +kernel
theorem d_La_law_588 : decode code 588 = .ok (.aload_n 1, 1) := by decide +kernel
theorem d_La_law_589 : decode code 589 = .ok (.aload_n 0, 1) := by decide +kernel
theorem d_La_law_590 : decode code 590 = .ok (.iload_n 3, 1) := by decide +kernel
theorem d_La_law_591 : decode code 591 = .ok (.iconst 1, 1) := by decide +kernel
theorem d_La_law_592 : decode code 592 = .ok (.iadd, 1) := by decide +kernel
theorem d_La_law_593 : decode code 593 = .ok (.iaload, 1) := by decide +kernel
theorem d_La_law_594 : decode code 594 = .ok (.invokevirtual 62, 3) := by decide +kernel
theorem d_La_law_597 : decode code 597 = .ok (.aload_n 2, 1) := by decide +kernel
theorem d_La_law_598 : decode code 598 = .ok (.aload_n 0, 1) := by decide +kernel
theorem d_La_law_599 : decode code 599 = .ok (.iload_n 3, 1) := by decide +kernel
theorem d_La_law_600 : decode code 600 = .ok (.iconst 1, 1) := by decide +kernel
theorem d_La_law_601 : decode code 601 = .ok (.iadd, 1) := by decide +kernel
theorem d_La_law_602 : decode code 602 = .ok (.iaload, 1) := by decide +kernel
theorem d_La_law_603 : decode code 603 = .ok (.invokevirtual 65, 3) := by decide +kernel
theorem d_La_law_606 : decode code 606 = .ok (.if_icmp .eq 150, 3) := by decide +kernel
theorem d_La_law_609 : decode code 609 = .ok (.iconst 0, 1) := by decide +kernel
theorem d_La_law_610 : decode code 610 = .ok (.ireturn, 1) := by decide +kernel
theorem d_La_law_611 : decode code 611 = .ok (.aload_n 1, 1) := by decide +kernel
theorem d_La_law_612 : decode code 612 = .ok (.aload_n 0, 1) := by decide +kernel
theorem d_La_law_613 : decode code 613 = .ok (.iload_n 3, 1) := by decide +kernel
theorem d_La_law_614 : decode code 614 = .ok (.iconst 1, 1) := by decide +kernel
theorem d_La_law_615 : decode code 615 = .ok (.iadd, 1) := by decide +kernel
theorem d_La_law_616 : decode code 616 = .ok (.iaload, 1) := by decide +kernel
theorem d_La_law_617 : decode code 617 = .ok (.aload_n 0, 1) := by decide +kernel
theorem d_La_law_618 : decode code 618 = .ok (.iload_n 3, 1) := by decide +kernel
theorem d_La_law_619 : decode code 619 = .ok (.iconst 2, 1) := by decide +kernel
theorem d_La_law_620 : decode code 620 = .ok (.iadd, 1) := by decide +kernel
theorem d_La_law_621 : decode code 621 = .ok (.iaload, 1) := by decide +kernel
theorem d_La_law_622 : decode code 622 = .ok (.invokevirtual 66, 3) := by decide +kernel
theorem d_La_law_625 : decode code 625 = .ok (.aload_n 2, 1) := by decide +kernel
theorem d_La_law_626 : decode code 626 = .ok (.aload_n 0, 1) := by decide +kernel
theorem d_La_law_627 : decode code 627 = .ok (.iload_n 3, 1) := by decide +kernel
theorem d_La_law_628 : decode code 628 = .ok (.iconst 1, 1) := by decide +kernel
theorem d_La_law_629 : decode code 629 = .ok (.iadd, 1) := by decide +kernel
theorem d_La_law_630 : decode code 630 = .ok (.iaload, 1) := by decide +kernel
theorem d_La_law_631 : decode code 631 = .ok (.aload_n 0, 1) := by decide +kernel
theorem d_La_law_632 : decode code 632 = .ok (.iload_n 3, 1) := by decide +kernel
theorem d_La_law_633 : decode code 633 = .ok (.iconst 2, 1) := by decide +kernel
theorem d_La_law_634 : decode code 634 = .ok (.iadd, 1) := by decide +kernel
theorem d_La_law_635 : decode code 635 = .ok (.iaload, 1) := by decide +kernel
theorem d_La_law_636 : decode code 636 = .ok (.invokevirtual 69, 3) := by decide +kernel
theorem d_La_law_639 : decode code 639 = .ok (.if_icmp .eq 117, 3) := by decide +kernel
theorem d_La_law_642 : decode code 642 = .ok (.iconst 0, 1) := by decide +kernel
theorem d_La_law_643 : decode code 643 = .ok (.ireturn, 1) := by decide +kernel
theorem d_La_law_644 : decode code 644 = .ok (.aload_n 1, 1) := by decide +kernel
theorem d_La_law_645 : decode code 645 = .ok (.aload_n 0, 1) := by decide +kernel
theorem d_La_law_646 : decode code 646 = .ok (.iload_n 3, 1) := by decide +kernel
theorem d_La_law_647 : decode code 647 = .ok (.iconst 1, 1) := by decide +kernel
theorem d_La_law_648 : decode code 648 = .ok (.iadd, 1) := by decide +kernel
theorem d_La_law_649 : decode code 649 = .ok (.iaload, 1) := by decide +kernel
theorem d_La_law_650 : decode code 650 = .ok (.invokevirtual 70, 3) := by decide +kernel
theorem d_La_law_653 : decode code 653 = .ok (.aload_n 2, 1) := by decide +kernel
theorem d_La_law_654 : decode code 654 = .ok (.aload_n 0, 1) := by decide +kernel
theorem d_La_law_655 : decode code 655 = .ok (.iload_n 3, 1) := by decide +kernel
theorem d_La_law_656 : decode code 656 = .ok (.iconst 1, 1) := by decide +kernel
theorem d_La_law_657 : decode code 657 = .ok (.iadd, 1) := by decide +kernel
theorem d_La_law_658 : decode code 658 = .ok (.iaload, 1) := by decide +kernel
theorem d_La_law_659 : decode code 659 = .ok (.invokevirtual 73, 3) := by decide +kernel
theorem d_La_law_662 : decode code 662 = .ok (.if_icmp .eq 94, 3) := by decide +kernel
theorem d_La_law_665 : decode code 665 = .ok (.iconst 0, 1) := by decide +kernel
theorem d_La_law_666 : decode code 666 = .ok (.ireturn, 1) := by decide +kernel
theorem d_La_law_667 : decode code 667 = .ok (.aload_n 1, 1) := by decide +kernel
theorem d_La_law_668 : decode code 668 = .ok (.aload_n 0, 1) := by decide +kernel
theorem d_La_law_669 : decode code 669 = .ok (.iload_n 3, 1) := by decide +kernel
theorem d_La_law_670 : decode code 670 = .ok (.iconst 1, 1) := by decide +kernel
theorem d_La_law_671 : decode code 671 = .ok (.iadd, 1) := by decide +kernel
theorem d_La_law_672 : decode code 672 = .ok (.iaload, 1) := by decide +kernel
theorem d_La_law_673 : decode code 673 = .ok (.aload_n 0, 1) := by decide +kernel
theorem d_La_law_674 : decode code 674 = .ok (.iload_n 3, 1) := by decide +kernel
theorem d_La_law_675 : decode code 675 = .ok (.iconst 2, 1) := by decide +kernel
theorem d_La_law_676 : decode code 676 = .ok (.iadd, 1) := by decide +kernel
theorem d_La_law_677 : decode code 677 = .ok (.iaload, 1) := by decide +kernel
theorem d_La_law_678 : decode code 678 = .ok (.invokevirtual 74, 3) := by decide +kernel
theorem d_La_law_681 : decode code 681 = .ok (.aload_n 2, 1) := by decide +kernel
theorem d_La_law_682 : decode code 682 = .ok (.aload_n 0, 1) := by decide +kernel
theorem d_La_law_683 : decode code 683 = .ok (.iload_n 3, 1) := by decide +kernel
theorem d_La_law_684 : decode code 684 = .ok (.iconst 1, 1) := by decide +kernel
theorem d_La_law_685 : decode code 685 = .ok (.iadd, 1) := by decide +kernel
theorem d_La_law_686 : decode code 686 = .ok (.iaload, 1) := by decide +kernel
theorem d_La_law_687 : decode code 687 = .ok (.aload_n 0, 1) := by decide +kernel
theorem d_La_law_688 : decode code 688 = .ok (.iload_n 3, 1) := by decide +kernel
theorem d_La_law_689 : decode code 689 = .ok (.iconst 2, 1) := by decide +kernel
theorem d_La_law_690 : decode code 690 = .ok (.iadd, 1) := by decide +kernel
theorem d_La_law_691 : decode code 691 = .ok (.iaload, 1) := by decide +kernel
theorem d_La_law_692 : decode code 692 = .ok (.invokevirtual 77, 3) := by decide +kernel
theorem d_La_law_695 : decode code 695 = .ok (.if_icmp .eq 61, 3) := by decide +kernel
theorem d_La_law_698 : decode code 698 = .ok (.iconst 0, 1) := by decide +kernel
theorem d_La_law_699 : decode code 699 = .ok (.ireturn, 1) := by decide +kernel
theorem d_La_law_700 : decode code 700 = .ok (.aload_n 1, 1) := by decide +kernel
theorem d_La_law_701 : decode code 701 = .ok (.aload_n 0, 1) := by decide +kernel
theorem d_La_law_702 : decode code 702 = .ok (.iload_n 3, 1) := by decide +kernel
theorem d_La_law_703 : decode code 703 = .ok (.iconst 1, 1) := by decide +kernel
theorem d_La_law_704 : decode code 704 = .ok (.iadd, 1) := by decide +kernel
theorem d_La_law_705 : decode code 705 = .ok (.iaload, 1) := by decide +kernel
theorem d_La_law_706 : decode code 706 = .ok (.invokevirtual 78, 3) := by decide +kernel
theorem d_La_law_709 : decode code 709 = .ok (.aload_n 2, 1) := by decide +kernel
theorem d_La_law_710 : decode code 710 = .ok (.aload_n 0, 1) := by decide +kernel
theorem d_La_law_711 : decode code 711 = .ok (.iload_n 3, 1) := by decide +kernel
theorem d_La_law_712 : decode code 712 = .ok (.iconst 1, 1) := by decide +kernel
theorem d_La_law_713 : decode code 713 = .ok (.iadd, 1) := by decide +kernel
theorem d_La_law_714 : decode code 714 = .ok (.iaload, 1) := by decide +kernel
theorem d_La_law_715 : decode code 715 = .ok (.invokevirtual 82, 3) := by decide +kernel
theorem d_La_law_718 : decode code 718 = .ok (.if_icmp .eq 38, 3) := by decide +kernel
theorem d_La_law_721 : decode code 721 = .ok (.iconst 0, 1) := by decide +kernel
theorem d_La_law_722 : decode code 722 = .ok (.ireturn, 1) := by decide +kernel
theorem d_La_law_723 : decode code 723 = .ok (.aload_n 1, 1) := by decide +kernel
theorem d_La_law_724 : decode code 724 = .ok (.aload_n 0, 1) := by decide +kernel
theorem d_La_law_725 : decode code 725 = .ok (.iload_n 3, 1) := by decide +kernel
theorem d_La_law_726 : decode code 726 = .ok (.iconst 1, 1) := by decide +kernel
theorem d_La_law_727 : decode code 727 = .ok (.iadd, 1) := by decide +kernel
theorem d_La_law_728 : decode code 728 = .ok (.iaload, 1) := by decide +kernel
theorem d_La_law_729 : decode code 729 = .ok (.aload_n 0, 1) := by decide +kernel
theorem d_La_law_730 : decode code 730 = .ok (.iload_n 3, 1) := by decide +kernel
theorem d_La_law_731 : decode code 731 = .ok (.iconst 2, 1) := by decide +kernel
theorem d_La_law_732 : decode code 732 = .ok (.iadd, 1) := by decide +kernel
theorem d_La_law_733 : decode code 733 = .ok (.iaload, 1) := by decide +kernel
theorem d_La_law_734 : decode code 734 = .ok (.invokevirtual 83, 3) := by decide +kernel
theorem d_La_law_737 : decode code 737 = .ok (.aload_n 2, 1) := by decide +kernel
theorem d_La_law_738 : decode code 738 = .ok (.aload_n 0, 1) := by decide +kernel
theorem d_La_law_739 : decode code 739 = .ok (.iload_n 3, 1) := by decide +kernel
theorem d_La_law_740 : decode code 740 = .ok (.iconst 1, 1) := by decide +kernel
theorem d_La_law_741 : decode code 741 = .ok (.iadd, 1) := by decide +kernel
theorem d_La_law_742 : decode code 742 = .ok (.iaload, 1) := by decide +kernel
theorem d_La_law_743 : decode code 743 = .ok (.aload_n 0, 1) := by decide +kernel
theorem d_La_law_744 : decode code 744 = .ok (.iload_n 3, 1) := by decide +kernel
theorem d_La_law_745 : decode code 745 = .ok (.iconst 2, 1) := by decide +kernel
theorem d_La_law_746 : decode code 746 = .ok (.iadd, 1) := by decide +kernel
theorem d_La_law_747 : decode code 747 = .ok (.iaload, 1) := by decide +kernel
theorem d_La_law_748 : decode code 748 = .ok (.invokevirtual 86, 3) := by decide +kernel
theorem d_La_law_751 : decode code 751 = .ok (.if_icmp .eq 5, 3) := by decide +kernel
theorem d_La_law_754 : decode code 754 = .ok (.iconst 0, 1) := by decide +kernel
theorem d_La_law_755 : decode code 755 = .ok (.ireturn, 1) := by decide +kernel
theorem d_La_law_756 : decode code 756 = .ok (.iinc 3 4, 3) := by decide +kernel
theorem d_La_law_759 : decode code 759 = .ok (.goto (-741), 3) := by decide +kernel
theorem d_La_law_762 : decode code 762 = .ok (.iconst 1, 1) := by decide +kernel
theorem d_La_law_763 : decode code 763 = .ok (.ireturn, 1) := by decide +kernel
