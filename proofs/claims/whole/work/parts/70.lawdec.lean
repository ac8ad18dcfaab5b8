/-! the law: its bytes, its words (by program: wip/gen/mklaw.py) -/
theorem d_La_0 : decode code 0 = .ok (.new 7, 3) := by decide +kernel
theorem d_La_3 : decode code 3 = .ok (.dup, 1) := by decide +kernel
theorem d_La_4 : decode code 4 = .ok (.invokespecial 9, 3) := by decide +kernel
theorem d_La_7 : decode code 7 = .ok (.astore_n 1, 1) := by decide +kernel
theorem d_La_8 : decode code 8 = .ok (.new 10, 3) := by decide +kernel
theorem d_La_11 : decode code 11 = .ok (.dup, 1) := by decide +kernel
theorem d_La_12 : decode code 12 = .ok (.invokespecial 12, 3) := by decide +kernel
theorem d_La_15 : decode code 15 = .ok (.astore_n 2, 1) := by decide +kernel
theorem d_La_16 : decode code 16 = .ok (.iconst 0, 1) := by decide +kernel
theorem d_La_17 : decode code 17 = .ok (.istore_n 3, 1) := by decide +kernel
theorem d_La_18 : decode code 18 = .ok (.iload_n 3, 1) := by decide +kernel
theorem d_La_19 : decode code 19 = .ok (.aload_n 0, 1) := by decide +kernel
theorem d_La_20 : decode code 20 = .ok (.arraylength, 1) := by decide +kernel
theorem d_La_21 : decode code 21 = .ok (.iconst 5, 1) := by decide +kernel
theorem d_La_22 : decode code 22 = .ok (.isub, 1) := by decide +kernel
theorem d_La_23 : decode code 23 = .ok (.if_icmp .gt 567, 3) := by decide +kernel
theorem d_La_26 : decode code 26 = .ok (.aload_n 0, 1) := by decide +kernel
theorem d_La_27 : decode code 27 = .ok (.iload_n 3, 1) := by decide +kernel
theorem d_La_28 : decode code 28 = .ok (.iaload, 1) := by decide +kernel
theorem d_La_29 : decode code 29 = .ok (.bipush 31, 2) := by decide +kernel
theorem d_La_31 : decode code 31 = .ok (.iand, 1) := by decide +kernel
theorem d_La_32 : decode code 32 = .ok (.tableswitch 552 0 17 #[88, 137, 180, 223, 266, 319, 332, 371, 382, 415, 428, 451, 464, 477, 500, 513, 526, 539], 88) := by decide +kernel
theorem d_La_120 : decode code 120 = .ok (.aload_n 1, 1) := by decide +kernel
theorem d_La_121 : decode code 121 = .ok (.aload_n 0, 1) := by decide +kernel
theorem d_La_122 : decode code 122 = .ok (.iload_n 3, 1) := by decide +kernel
theorem d_La_123 : decode code 123 = .ok (.iconst 1, 1) := by decide +kernel
theorem d_La_124 : decode code 124 = .ok (.iadd, 1) := by decide +kernel
theorem d_La_125 : decode code 125 = .ok (.iaload, 1) := by decide +kernel
theorem d_La_126 : decode code 126 = .ok (.aload_n 0, 1) := by decide +kernel
theorem d_La_127 : decode code 127 = .ok (.iload_n 3, 1) := by decide +kernel
theorem d_La_128 : decode code 128 = .ok (.iconst 2, 1) := by decide +kernel
theorem d_La_129 : decode code 129 = .ok (.iadd, 1) := by decide +kernel
theorem d_La_130 : decode code 130 = .ok (.iaload, 1) := by decide +kernel
theorem d_La_131 : decode code 131 = .ok (.ifCond .eq 7, 3) := by decide +kernel
theorem d_La_134 : decode code 134 = .ok (.iconst 1, 1) := by decide +kernel
theorem d_La_135 : decode code 135 = .ok (.goto 4, 3) := by decide +kernel
theorem d_La_138 : decode code 138 = .ok (.iconst 0, 1) := by decide +kernel
theorem d_La_139 : decode code 139 = .ok (.invokevirtual 13, 3) := by decide +kernel
theorem d_La_142 : decode code 142 = .ok (.aload_n 2, 1) := by decide +kernel
theorem d_La_143 : decode code 143 = .ok (.aload_n 0, 1) := by decide +kernel
theorem d_La_144 : decode code 144 = .ok (.iload_n 3, 1) := by decide +kernel
theorem d_La_145 : decode code 145 = .ok (.iconst 1, 1) := by decide +kernel
theorem d_La_146 : decode code 146 = .ok (.iadd, 1) := by decide +kernel
theorem d_La_147 : decode code 147 = .ok (.iaload, 1) := by decide +kernel
theorem d_La_148 : decode code 148 = .ok (.aload_n 0, 1) := by decide +kernel
theorem d_La_149 : decode code 149 = .ok (.iload_n 3, 1) := by decide +kernel
theorem d_La_150 : decode code 150 = .ok (.iconst 2, 1) := by decide +kernel
theorem d_La_151 : decode code 151 = .ok (.iadd, 1) := by decide +kernel
theorem d_La_152 : decode code 152 = .ok (.iaload, 1) := by decide +kernel
theorem d_La_153 : decode code 153 = .ok (.ifCond .eq 7, 3) := by decide +kernel
theorem d_La_156 : decode code 156 = .ok (.iconst 1, 1) := by decide +kernel
theorem d_La_157 : decode code 157 = .ok (.goto 4, 3) := by decide +kernel
theorem d_La_160 : decode code 160 = .ok (.iconst 0, 1) := by decide +kernel
theorem d_La_161 : decode code 161 = .ok (.invokevirtual 17, 3) := by decide +kernel
theorem d_La_164 : decode code 164 = .ok (.if_icmp .eq 420, 3) := by decide +kernel
theorem d_La_167 : decode code 167 = .ok (.iconst 0, 1) := by decide +kernel
theorem d_La_168 : decode code 168 = .ok (.ireturn, 1) := by decide +kernel
theorem d_La_169 : decode code 169 = .ok (.aload_n 1, 1) := by decide +kernel
theorem d_La_170 : decode code 170 = .ok (.aload_n 0, 1) := by decide +kernel
theorem d_La_171 : decode code 171 = .ok (.iload_n 3, 1) := by decide +kernel
theorem d_La_172 : decode code 172 = .ok (.iconst 1, 1) := by decide +kernel
theorem d_La_173 : decode code 173 = .ok (.iadd, 1) := by decide +kernel
theorem d_La_174 : decode code 174 = .ok (.iaload, 1) := by decide +kernel
theorem d_La_175 : decode code 175 = .ok (.aload_n 0, 1) := by decide +kernel
theorem d_La_176 : decode code 176 = .ok (.iload_n 3, 1) := by decide +kernel
theorem d_La_177 : decode code 177 = .ok (.iconst 2, 1) := by decide +kernel
theorem d_La_178 : decode code 178 = .ok (.iadd, 1) := by decide +kernel
theorem d_La_179 : decode code 179 = .ok (.iaload, 1) := by decide +kernel
theorem d_La_180 : decode code 180 = .ok (.aload_n 0, 1) := by decide +kernel
theorem d_La_181 : decode code 181 = .ok (.iload_n 3, 1) := by decide +kernel
theorem d_La_182 : decode code 182 = .ok (.iconst 3, 1) := by decide +kernel
theorem d_La_183 : decode code 183 = .ok (.iadd, 1) := by decide +kernel
theorem d_La_184 : decode code 184 = .ok (.iaload, 1) := by decide +kernel
theorem d_La_185 : decode code 185 = .ok (.invokevirtual 18, 3) := by decide +kernel
theorem d_La_188 : decode code 188 = .ok (.aload_n 2, 1) := by decide +kernel
theorem d_La_189 : decode code 189 = .ok (.aload_n 0, 1) := by decide +kernel
theorem d_La_190 : decode code 190 = .ok (.iload_n 3, 1) := by decide +kernel
theorem d_La_191 : decode code 191 = .ok (.iconst 1, 1) := by decide +kernel
theorem d_La_192 : decode code 192 = .ok (.iadd, 1) := by decide +kernel
theorem d_La_193 : decode code 193 = .ok (.iaload, 1) := by decide +kernel
theorem d_La_194 : decode code 194 = .ok (.aload_n 0, 1) := by decide +kernel
theorem d_La_195 : decode code 195 = .ok (.iload_n 3, 1) := by decide +kernel
theorem d_La_196 : decode code 196 = .ok (.iconst 2, 1) := by decide +kernel
theorem d_La_197 : decode code 197 = .ok (.iadd, 1) := by decide +kernel
theorem d_La_198 : decode code 198 = .ok (.iaload, 1) := by decide +kernel
theorem d_La_199 : decode code 199 = .ok (.aload_n 0, 1) := by decide +kernel
theorem d_La_200 : decode code 200 = .ok (.iload_n 3, 1) := by decide +kernel
theorem d_La_201 : decode code 201 = .ok (.iconst 3, 1) := by decide +kernel
theorem d_La_202 : decode code 202 = .ok (.iadd, 1) := by decide +kernel
theorem d_La_203 : decode code 203 = .ok (.iaload, 1) := by decide +kernel
theorem d_La_204 : decode code 204 = .ok (.invokevirtual 22, 3) := by decide +kernel
theorem d_La_207 : decode code 207 = .ok (.if_icmp .eq 377, 3) := by decide +kernel
theorem d_La_210 : decode code 210 = .ok (.iconst 0, 1) := by decide +kernel
theorem d_La_211 : decode code 211 = .ok (.ireturn, 1) := by decide +kernel
theorem d_La_212 : decode code 212 = .ok (.aload_n 1, 1) := by decide +kernel
theorem d_La_213 : decode code 213 = .ok (.aload_n 0, 1) := by decide +kernel
theorem d_La_214 : decode code 214 = .ok (.iload_n 3, 1) := by decide +kernel
theorem d_La_215 : decode code 215 = .ok (.iconst 1, 1) := by decide +kernel
theorem d_La_216 : decode code 216 = .ok (.iadd, 1) := by decide +kernel
theorem d_La_217 : decode code 217 = .ok (.iaload, 1) := by decide +kernel
theorem d_La_218 : decode code 218 = .ok (.aload_n 0, 1) := by decide +kernel
theorem d_La_219 : decode code 219 = .ok (.iload_n 3, 1) := by decide +kernel
theorem d_La_220 : decode code 220 = .ok (.iconst 2, 1) := by decide +kernel
theorem d_La_221 : decode code 221 = .ok (.iadd, 1) := by decide +kernel
theorem d_La_222 : decode code 222 = .ok (.iaload, 1) := by decide +kernel
theorem d_La_223 : decode code 223 = .ok (.aload_n 0, 1) := by decide +kernel
theorem d_La_224 : decode code 224 = .ok (.iload_n 3, 1) := by decide +kernel
theorem d_La_225 : decode code 225 = .ok (.iconst 3, 1) := by decide +kernel
theorem d_La_226 : decode code 226 = .ok (.iadd, 1) := by decide +kernel
theorem d_La_227 : decode code 227 = .ok (.iaload, 1) := by decide +kernel
theorem d_La_228 : decode code 228 = .ok (.invokevirtual 23, 3) := by decide +kernel
theorem d_La_231 : decode code 231 = .ok (.aload_n 2, 1) := by decide +kernel
theorem d_La_232 : decode code 232 = .ok (.aload_n 0, 1) := by decide +kernel
theorem d_La_233 : decode code 233 = .ok (.iload_n 3, 1) := by decide +kernel
theorem d_La_234 : decode code 234 = .ok (.iconst 1, 1) := by decide +kernel
theorem d_La_235 : decode code 235 = .ok (.iadd, 1) := by decide +kernel
theorem d_La_236 : decode code 236 = .ok (.iaload, 1) := by decide +kernel
theorem d_La_237 : decode code 237 = .ok (.aload_n 0, 1) := by decide +kernel
theorem d_La_238 : decode code 238 = .ok (.iload_n 3, 1) := by decide +kernel
theorem d_La_239 : decode code 239 = .ok (.iconst 2, 1) := by decide +kernel
theorem d_La_240 : decode code 240 = .ok (.iadd, 1) := by decide +kernel
theorem d_La_241 : decode code 241 = .ok (.iaload, 1) := by decide +kernel
theorem d_La_242 : decode code 242 = .ok (.aload_n 0, 1) := by decide +kernel
theorem d_La_243 : decode code 243 = .ok (.iload_n 3, 1) := by decide +kernel
theorem d_La_244 : decode code 244 = .ok (.iconst 3, 1) := by decide +kernel
theorem d_La_245 : decode code 245 = .ok (.iadd, 1) := by decide +kernel
theorem d_La_246 : decode code 246 = .ok (.iaload, 1) := by decide +kernel
theorem d_La_247 : decode code 247 = .ok (.invokevirtual 26, 3) := by decide +kernel
theorem d_La_250 : decode code 250 = .ok (.if_icmp .eq 334, 3) := by decide +kernel
theorem d_La_253 : decode code 253 = .ok (.iconst 0, 1) := by decide +kernel
theorem d_La_254 : decode code 254 = .ok (.ireturn, 1) := by decide +kernel
theorem d_La_255 : decode code 255 = .ok (.aload_n 1, 1) := by decide +kernel
theorem d_La_256 : decode code 256 = .ok (.aload_n 0, 1) := by decide +kernel
theorem d_La_257 : decode code 257 = .ok (.iload_n 3, 1) := by decide +kernel
theorem d_La_258 : decode code 258 = .ok (.iconst 1, 1) := by decide +kernel
theorem d_La_259 : decode code 259 = .ok (.iadd, 1) := by decide +kernel
theorem d_La_260 : decode code 260 = .ok (.iaload, 1) := by decide +kernel
theorem d_La_261 : decode code 261 = .ok (.aload_n 0, 1) := by decide +kernel
theorem d_La_262 : decode code 262 = .ok (.iload_n 3, 1) := by decide +kernel
theorem d_La_263 : decode code 263 = .ok (.iconst 2, 1) := by decide +kernel
theorem d_La_264 : decode code 264 = .ok (.iadd, 1) := by decide +kernel
theorem d_La_265 : decode code 265 = .ok (.iaload, 1) := by decide +kernel
theorem d_La_266 : decode code 266 = .ok (.aload_n 0, 1) := by decide +kernel
theorem d_La_267 : decode code 267 = .ok (.iload_n 3, 1) := by decide +kernel
theorem d_La_268 : decode code 268 = .ok (.iconst 3, 1) := by decide +kernel
theorem d_La_269 : decode code 269 = .ok (.iadd, 1) := by decide +kernel
theorem d_La_270 : decode code 270 = .ok (.iaload, 1) := by decide +kernel
theorem d_La_271 : decode code 271 = .ok (.invokevirtual 27, 3) := by decide +kernel
theorem d_La_274 : decode code 274 = .ok (.aload_n 2, 1) := by decide +kernel
theorem d_La_275 : decode code 275 = .ok (.aload_n 0, 1) := by decide +kernel
theorem d_La_276 : decode code 276 = .ok (.iload_n 3, 1) := by decide +kernel
theorem d_La_277 : decode code 277 = .ok (.iconst 1, 1) := by decide +kernel
theorem d_La_278 : decode code 278 = .ok (.iadd, 1) := by decide +kernel
theorem d_La_279 : decode code 279 = .ok (.iaload, 1) := by decide +kernel
theorem d_La_280 : decode code 280 = .ok (.aload_n 0, 1) := by decide +kernel
theorem d_La_281 : decode code 281 = .ok (.iload_n 3, 1) := by decide +kernel
theorem d_La_282 : decode code 282 = .ok (.iconst 2, 1) := by decide +kernel
theorem d_La_283 : decode code 283 = .ok (.iadd, 1) := by decide +kernel
theorem d_La_284 : decode code 284 = .ok (.iaload, 1) := by decide +kernel
theorem d_La_285 : decode code 285 = .ok (.aload_n 0, 1) := by decide +kernel
theorem d_La_286 : decode code 286 = .ok (.iload_n 3, 1) := by decide +kernel
theorem d_La_287 : decode code 287 = .ok (.iconst 3, 1) := by decide +kernel
theorem d_La_288 : decode code 288 = .ok (.iadd, 1) := by decide +kernel
theorem d_La_289 : decode code 289 = .ok (.iaload, 1) := by decide +kernel
theorem d_La_290 : decode code 290 = .ok (.invokevirtual 30, 3) := by decide +kernel
theorem d_La_293 : decode code 293 = .ok (.if_icmp .eq 291, 3) := by decide +kernel
theorem d_La_296 : decode code 296 = .ok (.iconst 0, 1) := by decide +kernel
theorem d_La_297 : decode code 297 = .ok (.ireturn, 1) := by decide +kernel
theorem d_La_298 : decode code 298 = .ok (.aload_n 1, 1) := by decide +kernel
theorem d_La_299 : decode code 299 = .ok (.aload_n 0, 1) := by decide +kernel
theorem d_La_300 : decode code 300 = .ok (.iload_n 3, 1) := by decide +kernel
theorem d_La_301 : decode code 301 = .ok (.iconst 1, 1) := by decide +kernel
theorem d_La_302 : decode code 302 = .ok (.iadd, 1) := by decide +kernel
theorem d_La_303 : decode code 303 = .ok (.iaload, 1) := by decide +kernel
theorem d_La_304 : decode code 304 = .ok (.aload_n 0, 1) := by decide +kernel
theorem d_La_305 : decode code 305 = .ok (.iload_n 3, 1) := by decide +kernel
theorem d_La_306 : decode code 306 = .ok (.iconst 2, 1) := by decide +kernel
theorem d_La_307 : decode code 307 = .ok (.iadd, 1) := by decide +kernel
theorem d_La_308 : decode code 308 = .ok (.iaload, 1) := by decide +kernel
theorem d_La_309 : decode code 309 = .ok (.aload_n 0, 1) := by decide +kernel
theorem d_La_310 : decode code 310 = .ok (.iload_n 3, 1) := by decide +kernel
theorem d_La_311 : decode code 311 = .ok (.iconst 3, 1) := by decide +kernel
theorem d_La_312 : decode code 312 = .ok (.iadd, 1) := by decide +kernel
theorem d_La_313 : decode code 313 = .ok (.iaload, 1) := by decide +kernel
theorem d_La_314 : decode code 314 = .ok (.aload_n 0, 1) := by decide +kernel
theorem d_La_315 : decode code 315 = .ok (.iload_n 3, 1) := by decide +kernel
theorem d_La_316 : decode code 316 = .ok (.iconst 4, 1) := by decide +kernel
theorem d_La_317 : decode code 317 = .ok (.iadd, 1) := by decide +kernel
theorem d_La_318 : decode code 318 = .ok (.iaload, 1) := by decide +kernel
theorem d_La_319 : decode code 319 = .ok (.invokevirtual 31, 3) := by decide +kernel
theorem d_La_322 : decode code 322 = .ok (.aload_n 2, 1) := by decide +kernel
theorem d_La_323 : decode code 323 = .ok (.aload_n 0, 1) := by decide +kernel
theorem d_La_324 : decode code 324 = .ok (.iload_n 3, 1) := by decide +kernel
theorem d_La_325 : decode code 325 = .ok (.iconst 1, 1) := by decide +kernel
theorem d_La_326 : decode code 326 = .ok (.iadd, 1) := by decide +kernel
theorem d_La_327 : decode code 327 = .ok (.iaload, 1) := by decide +kernel
theorem d_La_328 : decode code 328 = .ok (.aload_n 0, 1) := by decide +kernel
theorem d_La_329 : decode code 329 = .ok (.iload_n 3, 1) := by decide +kernel
theorem d_La_330 : decode code 330 = .ok (.iconst 2, 1) := by decide +kernel
theorem d_La_331 : decode code 331 = .ok (.iadd, 1) := by decide +kernel
theorem d_La_332 : decode code 332 = .ok (.iaload, 1) := by decide +kernel
theorem d_La_333 : decode code 333 = .ok (.aload_n 0, 1) := by decide +kernel
theorem d_La_334 : decode code 334 = .ok (.iload_n 3, 1) := by decide +kernel
theorem d_La_335 : decode code 335 = .ok (.iconst 3, 1) := by decide +kernel
theorem d_La_336 : decode code 336 = .ok (.iadd, 1) := by decide +kernel
theorem d_La_337 : decode code 337 = .ok (.iaload, 1) := by decide +kernel
theorem d_La_338 : decode code 338 = .ok (.aload_n 0, 1) := by decide +kernel
theorem d_La_339 : decode code 339 = .ok (.iload_n 3, 1) := by decide +kernel
theorem d_La_340 : decode code 340 = .ok (.iconst 4, 1) := by decide +kernel
theorem d_La_341 : decode code 341 = .ok (.iadd, 1) := by decide +kernel
theorem d_La_342 : decode code 342 = .ok (.iaload, 1) := by decide +kernel
theorem d_La_343 : decode code 343 = .ok (.invokevirtual 35, 3) := by decide +kernel
theorem d_La_346 : decode code 346 = .ok (.if_icmp .eq 238, 3) := by decide +kernel
theorem d_La_349 : decode code 349 = .ok (.iconst 0, 1) := by decide +kernel
theorem d_La_350 : decode code 350 = .ok (.ireturn, 1) := by decide +kernel
theorem d_La_351 : decode code 351 = .ok (.aload_n 1, 1) := by decide +kernel
theorem d_La_352 : decode code 352 = .ok (.invokevirtual 36, 3) := by decide +kernel
theorem d_La_355 : decode code 355 = .ok (.aload_n 2, 1) := by decide +kernel
theorem d_La_356 : decode code 356 = .ok (.invokevirtual 40, 3) := by decide +kernel
theorem d_La_359 : decode code 359 = .ok (.if_icmp .eq 225, 3) := by decide +kernel
theorem d_La_362 : decode code 362 = .ok (.iconst 0, 1) := by decide +kernel
theorem d_La_363 : decode code 363 = .ok (.ireturn, 1) := by decide +kernel
theorem d_La_364 : decode code 364 = .ok (.aload_n 1, 1) := by decide +kernel
theorem d_La_365 : decode code 365 = .ok (.aload_n 0, 1) := by decide +kernel
theorem d_La_366 : decode code 366 = .ok (.iload_n 3, 1) := by decide +kernel
theorem d_La_367 : decode code 367 = .ok (.iconst 1, 1) := by decide +kernel
theorem d_La_368 : decode code 368 = .ok (.iadd, 1) := by decide +kernel
theorem d_La_369 : decode code 369 = .ok (.iaload, 1) := by decide +kernel
theorem d_La_370 : decode code 370 = .ok (.ifCond .eq 7, 3) := by decide +kernel
theorem d_La_373 : decode code 373 = .ok (.iconst 1, 1) := by decide +kernel
theorem d_La_374 : decode code 374 = .ok (.goto 4, 3) := by decide +kernel
theorem d_La_377 : decode code 377 = .ok (.iconst 0, 1) := by decide +kernel
theorem d_La_378 : decode code 378 = .ok (.invokevirtual 41, 3) := by decide +kernel
theorem d_La_381 : decode code 381 = .ok (.aload_n 2, 1) := by decide +kernel
theorem d_La_382 : decode code 382 = .ok (.aload_n 0, 1) := by decide +kernel
theorem d_La_383 : decode code 383 = .ok (.iload_n 3, 1) := by decide +kernel
theorem d_La_384 : decode code 384 = .ok (.iconst 1, 1) := by decide +kernel
theorem d_La_385 : decode code 385 = .ok (.iadd, 1) := by decide +kernel
theorem d_La_386 : decode code 386 = .ok (.iaload, 1) := by decide +kernel
theorem d_La_387 : decode code 387 = .ok (.ifCond .eq 7, 3) := by decide +kernel
theorem d_La_390 : decode code 390 = .ok (.iconst 1, 1) := by decide +kernel
theorem d_La_391 : decode code 391 = .ok (.goto 4, 3) := by decide +kernel
theorem d_La_394 : decode code 394 = .ok (.iconst 0, 1) := by decide +kernel
theorem d_La_395 : decode code 395 = .ok (.invokevirtual 45, 3) := by decide +kernel
theorem d_La_398 : decode code 398 = .ok (.if_icmp .eq 186, 3) := by decide +kernel
theorem d_La_401 : decode code 401 = .ok (.iconst 0, 1) := by decide +kernel
theorem d_La_402 : decode code 402 = .ok (.ireturn, 1) := by decide +kernel
theorem d_La_403 : decode code 403 = .ok (.aload_n 1, 1) := by decide +kernel
theorem d_La_404 : decode code 404 = .ok (.invokevirtual 46, 3) := by decide +kernel
theorem d_La_407 : decode code 407 = .ok (.aload_n 2, 1) := by decide +kernel
theorem d_La_408 : decode code 408 = .ok (.invokevirtual 49, 3) := by decide +kernel
theorem d_La_411 : decode code 411 = .ok (.goto 173, 3) := by decide +kernel
theorem d_La_414 : decode code 414 = .ok (.aload_n 1, 1) := by decide +kernel
theorem d_La_415 : decode code 415 = .ok (.aload_n 0, 1) := by decide +kernel
theorem d_La_416 : decode code 416 = .ok (.iload_n 3, 1) := by decide +kernel
theorem d_La_417 : decode code 417 = .ok (.iconst 1, 1) := by decide +kernel
theorem d_La_418 : decode code 418 = .ok (.iadd, 1) := by decide +kernel
theorem d_La_419 : decode code 419 = .ok (.iaload, 1) := by decide +kernel
theorem d_La_420 : decode code 420 = .ok (.aload_n 0, 1) := by decide +kernel
theorem d_La_421 : decode code 421 = .ok (.iload_n 3, 1) := by decide +kernel
theorem d_La_422 : decode code 422 = .ok (.iconst 2, 1) := by decide +kernel
theorem d_La_423 : decode code 423 = .ok (.iadd, 1) := by decide +kernel
theorem d_La_424 : decode code 424 = .ok (.iaload, 1) := by decide +kernel
theorem d_La_425 : decode code 425 = .ok (.invokevirtual 50, 3) := by decide +kernel
theorem d_La_428 : decode code 428 = .ok (.aload_n 2, 1) := by decide +kernel
theorem d_La_429 : decode code 429 = .ok (.aload_n 0, 1) := by decide +kernel
theorem d_La_430 : decode code 430 = .ok (.iload_n 3, 1) := by decide +kernel
theorem d_La_431 : decode code 431 = .ok (.iconst 1, 1) := by decide +kernel
theorem d_La_432 : decode code 432 = .ok (.iadd, 1) := by decide +kernel
theorem d_La_433 : decode code 433 = .ok (.iaload, 1) := by decide +kernel
theorem d_La_434 : decode code 434 = .ok (.aload_n 0, 1) := by decide +kernel
theorem d_La_435 : decode code 435 = .ok (.iload_n 3, 1) := by decide +kernel
theorem d_La_436 : decode code 436 = .ok (.iconst 2, 1) := by decide +kernel
theorem d_La_437 : decode code 437 = .ok (.iadd, 1) := by decide +kernel
theorem d_La_438 : decode code 438 = .ok (.iaload, 1) := by decide +kernel
theorem d_La_439 : decode code 439 = .ok (.invokevirtual 54, 3) := by decide +kernel
theorem d_La_442 : decode code 442 = .ok (.if_icmp .eq 142, 3) := by decide +kernel
theorem d_La_445 : decode code 445 = .ok (.iconst 0, 1) := by decide +kernel
theorem d_La_446 : decode code 446 = .ok (.ireturn, 1) := by decide +kernel
theorem d_La_447 : decode code 447 = .ok (.aload_n 1, 1) := by decide +kernel
theorem d_La_448 : decode code 448 = .ok (.invokevirtual 55, 3) := by decide +kernel
theorem d_La_451 : decode code 451 = .ok (.aload_n 2, 1) := by decide +kernel
theorem d_La_452 : decode code 452 = .ok (.invokevirtual 58, 3) := by decide +kernel
theorem d_La_455 : decode code 455 = .ok (.if_icmp .eq 129, 3) := by decide +kernel
theorem d_La_458 : decode code 458 = .ok (.iconst 0, 1) := by decide +kernel
theorem d_La_459 : decode code 459 = .ok (.ireturn, 1) := by decide +kernel
theorem d_La_460 : decode code 460 = .ok (.aload_n 1, 1) := by decide +kernel
theorem d_La_461 : decode code 461 = .ok (.aload_n 0, 1) := by decide +kernel
theorem d_La_462 : decode code 462 = .ok (.iload_n 3, 1) := by decide +kernel
theorem d_La_463 : decode code 463 = .ok (.iconst 1, 1) := by decide +kernel
theorem d_La_464 : decode code 464 = .ok (.iadd, 1) := by decide +kernel
theorem d_La_465 : decode code 465 = .ok (.iaload, 1) := by decide +kernel
theorem d_La_466 : decode code 466 = .ok (.invokevirtual 59, 3) := by decide +kernel
theorem d_La_469 : decode code 469 = .ok (.aload_n 2, 1) := by decide +kernel
theorem d_La_470 : decode code 470 = .ok (.aload_n 0, 1) := by decide +kernel
theorem d_La_471 : decode code 471 = .ok (.iload_n 3, 1) := by decide +kernel
theorem d_La_472 : decode code 472 = .ok (.iconst 1, 1) := by decide +kernel
theorem d_La_473 : decode code 473 = .ok (.iadd, 1) := by decide +kernel
theorem d_La_474 : decode code 474 = .ok (.iaload, 1) := by decide +kernel
theorem d_La_475 : decode code 475 = .ok (.invokevirtual 63, 3) := by decide +kernel
theorem d_La_478 : decode code 478 = .ok (.if_icmp .eq 106, 3) := by decide +kernel
theorem d_La_481 : decode code 481 = .ok (.iconst 0, 1) := by decide +kernel
theorem d_La_482 : decode code 482 = .ok (.ireturn, 1) := by decide +kernel
theorem d_La_483 : decode code 483 = .ok (.aload_n 1, 1) := by decide +kernel
theorem d_La_484 : decode code 484 = .ok (.invokevirtual 64, 3) := by decide +kernel
theorem d_La_487 : decode code 487 = .ok (.aload_n 2, 1) := by decide +kernel
theorem d_La_488 : decode code 488 = .ok (.invokevirtual 67, 3) := by decide +kernel
theorem d_La_491 : decode code 491 = .ok (.if_icmp .eq 93, 3) := by decide +kernel
theorem d_La_494 : decode code 494 = .ok (.iconst 0, 1) := by decide +kernel
theorem d_La_495 : decode code 495 = .ok (.ireturn, 1) := by decide +kernel
theorem d_La_496 : decode code 496 = .ok (.aload_n 1, 1) := by decide +kernel
theorem d_La_497 : decode code 497 = .ok (.invokevirtual 68, 3) := by decide +kernel
theorem d_La_500 : decode code 500 = .ok (.aload_n 2, 1) := by decide +kernel
theorem d_La_501 : decode code 501 = .ok (.invokevirtual 71, 3) := by decide +kernel
theorem d_La_504 : decode code 504 = .ok (.if_icmp .eq 80, 3) := by decide +kernel
theorem d_La_507 : decode code 507 = .ok (.iconst 0, 1) := by decide +kernel
theorem d_La_508 : decode code 508 = .ok (.ireturn, 1) := by decide +kernel
theorem d_La_509 : decode code 509 = .ok (.aload_n 1, 1) := by decide +kernel
theorem d_La_510 : decode code 510 = .ok (.aload_n 0, 1) := by decide +kernel
theorem d_La_511 : decode code 511 = .ok (.iload_n 3, 1) := by decide +kernel
theorem d_La_512 : decode code 512 = .ok (.iconst 1, 1) := by decide +kernel
theorem d_La_513 : decode code 513 = .ok (.iadd, 1) := by decide +kernel
theorem d_La_514 : decode code 514 = .ok (.iaload, 1) := by decide +kernel
theorem d_La_515 : decode code 515 = .ok (.invokevirtual 72, 3) := by decide +kernel
theorem d_La_518 : decode code 518 = .ok (.aload_n 2, 1) := by decide +kernel
theorem d_La_519 : decode code 519 = .ok (.aload_n 0, 1) := by decide +kernel
theorem d_La_520 : decode code 520 = .ok (.iload_n 3, 1) := by decide +kernel
theorem d_La_521 : decode code 521 = .ok (.iconst 1, 1) := by decide +kernel
theorem d_La_522 : decode code 522 = .ok (.iadd, 1) := by decide +kernel
theorem d_La_523 : decode code 523 = .ok (.iaload, 1) := by decide +kernel
theorem d_La_524 : decode code 524 = .ok (.invokevirtual 76, 3) := by decide +kernel
theorem d_La_527 : decode code 527 = .ok (.if_icmp .eq 57, 3) := by decide +kernel
theorem d_La_530 : decode code 530 = .ok (.iconst 0, 1) := by decide +kernel
theorem d_La_531 : decode code 531 = .ok (.ireturn, 1) := by decide +kernel
theorem d_La_532 : decode code 532 = .ok (.aload_n 1, 1) := by decide +kernel
theorem d_La_533 : decode code 533 = .ok (.invokevirtual 77, 3) := by decide +kernel
theorem d_La_536 : decode code 536 = .ok (.aload_n 2, 1) := by decide +kernel
theorem d_La_537 : decode code 537 = .ok (.invokevirtual 80, 3) := by decide +kernel
theorem d_La_540 : decode code 540 = .ok (.if_icmp .eq 44, 3) := by decide +kernel
theorem d_La_543 : decode code 543 = .ok (.iconst 0, 1) := by decide +kernel
theorem d_La_544 : decode code 544 = .ok (.ireturn, 1) := by decide +kernel
theorem d_La_545 : decode code 545 = .ok (.aload_n 1, 1) := by decide +kernel
theorem d_La_546 : decode code 546 = .ok (.invokevirtual 81, 3) := by decide +kernel
theorem d_La_549 : decode code 549 = .ok (.aload_n 2, 1) := by decide +kernel
theorem d_La_550 : decode code 550 = .ok (.invokevirtual 84, 3) := by decide +kernel
theorem d_La_553 : decode code 553 = .ok (.if_icmp .eq 31, 3) := by decide +kernel
theorem d_La_556 : decode code 556 = .ok (.iconst 0, 1) := by decide +kernel
theorem d_La_557 : decode code 557 = .ok (.ireturn, 1) := by decide +kernel
theorem d_La_558 : decode code 558 = .ok (.aload_n 1, 1) := by decide +kernel
theorem d_La_559 : decode code 559 = .ok (.invokevirtual 85, 3) := by decide +kernel
theorem d_La_562 : decode code 562 = .ok (.aload_n 2, 1) := by decide +kernel
theorem d_La_563 : decode code 563 = .ok (.invokevirtual 88, 3) := by decide +kernel
theorem d_La_566 : decode code 566 = .ok (.if_icmp .eq 18, 3) := by decide +kernel
theorem d_La_569 : decode code 569 = .ok (.iconst 0, 1) := by decide +kernel
theorem d_La_570 : decode code 570 = .ok (.ireturn, 1) := by decide +kernel
theorem d_La_571 : decode code 571 = .ok (.aload_n 1, 1) := by decide +kernel
theorem d_La_572 : decode code 572 = .ok (.invokevirtual 89, 3) := by decide +kernel
theorem d_La_575 : decode code 575 = .ok (.aload_n 2, 1) := by decide +kernel
theorem d_La_576 : decode code 576 = .ok (.invokevirtual 92, 3) := by decide +kernel
theorem d_La_579 : decode code 579 = .ok (.if_icmp .eq 5, 3) := by decide +kernel
theorem d_La_582 : decode code 582 = .ok (.iconst 0, 1) := by decide +kernel
theorem d_La_583 : decode code 583 = .ok (.ireturn, 1) := by decide +kernel
theorem d_La_584 : decode code 584 = .ok (.iinc 3 5, 3) := by decide +kernel
theorem d_La_587 : decode code 587 = .ok (.goto (-569), 3) := by decide +kernel
theorem d_La_590 : decode code 590 = .ok (.iconst 1, 1) := by decide +kernel
theorem d_La_591 : decode code 591 = .ok (.ireturn, 1) := by decide +kernel
theorem wl_32 : (Jvm.Cond.initialized "ForcedChart") ∈ TB := tb_1 32 (by decide +kernel) (by decide +kernel)
theorem wl_39 : (Jvm.Cond.initialized "ForcedChartModel") ∈ TB := tb_1 39 (by decide +kernel) (by decide +kernel)
theorem wl_270 : (Jvm.Cond.methodLink "ForcedChartLaw" (13 : Nat) ({ cls := "ForcedChart", name := "step", desc := "(IZ)I" } : Jvm.MethodName)) ∈ TB := tb_1 270 (by decide +kernel) (by decide +kernel)
theorem wl_271 : (Jvm.Cond.instanceMethod ({ cls := "ForcedChart", name := "step", desc := "(IZ)I" } : Jvm.MethodName)) ∈ TB := tb_1 271 (by decide +kernel) (by decide +kernel)
theorem wl_272 : (Jvm.Cond.selects "ForcedChart" ({ cls := "ForcedChart", name := "step", desc := "(IZ)I" } : Jvm.MethodName) ({ cls := "ForcedChart", name := "step", desc := "(IZ)I" } : Jvm.MethodName)) ∈ TB := tb_1 272 (by decide +kernel) (by decide +kernel)
theorem wl_278 : (Jvm.Cond.methodLink "ForcedChartLaw" (18 : Nat) ({ cls := "ForcedChart", name := "expression", desc := "(III)I" } : Jvm.MethodName)) ∈ TB := tb_1 278 (by decide +kernel) (by decide +kernel)
theorem wl_279 : (Jvm.Cond.instanceMethod ({ cls := "ForcedChart", name := "expression", desc := "(III)I" } : Jvm.MethodName)) ∈ TB := tb_1 279 (by decide +kernel) (by decide +kernel)
theorem wl_280 : (Jvm.Cond.selects "ForcedChart" ({ cls := "ForcedChart", name := "expression", desc := "(III)I" } : Jvm.MethodName) ({ cls := "ForcedChart", name := "expression", desc := "(III)I" } : Jvm.MethodName)) ∈ TB := tb_1 280 (by decide +kernel) (by decide +kernel)
theorem wl_316 : (Jvm.Cond.methodLink "ForcedChartLaw" (23 : Nat) ({ cls := "ForcedChart", name := "transition", desc := "(III)I" } : Jvm.MethodName)) ∈ TB := tb_1 316 (by decide +kernel) (by decide +kernel)
theorem wl_317 : (Jvm.Cond.instanceMethod ({ cls := "ForcedChart", name := "transition", desc := "(III)I" } : Jvm.MethodName)) ∈ TB := tb_1 317 (by decide +kernel) (by decide +kernel)
theorem wl_318 : (Jvm.Cond.selects "ForcedChart" ({ cls := "ForcedChart", name := "transition", desc := "(III)I" } : Jvm.MethodName) ({ cls := "ForcedChart", name := "transition", desc := "(III)I" } : Jvm.MethodName)) ∈ TB := tb_1 318 (by decide +kernel) (by decide +kernel)
theorem wl_329 : (Jvm.Cond.methodLink "ForcedChartLaw" (27 : Nat) ({ cls := "ForcedChart", name := "order", desc := "(III)I" } : Jvm.MethodName)) ∈ TB := tb_1 329 (by decide +kernel) (by decide +kernel)
theorem wl_330 : (Jvm.Cond.instanceMethod ({ cls := "ForcedChart", name := "order", desc := "(III)I" } : Jvm.MethodName)) ∈ TB := tb_1 330 (by decide +kernel) (by decide +kernel)
theorem wl_331 : (Jvm.Cond.selects "ForcedChart" ({ cls := "ForcedChart", name := "order", desc := "(III)I" } : Jvm.MethodName) ({ cls := "ForcedChart", name := "order", desc := "(III)I" } : Jvm.MethodName)) ∈ TB := tb_1 331 (by decide +kernel) (by decide +kernel)
theorem wl_338 : (Jvm.Cond.methodLink "ForcedChartLaw" (31 : Nat) ({ cls := "ForcedChart", name := "action", desc := "(IIII)I" } : Jvm.MethodName)) ∈ TB := tb_1 338 (by decide +kernel) (by decide +kernel)
theorem wl_339 : (Jvm.Cond.instanceMethod ({ cls := "ForcedChart", name := "action", desc := "(IIII)I" } : Jvm.MethodName)) ∈ TB := tb_1 339 (by decide +kernel) (by decide +kernel)
theorem wl_340 : (Jvm.Cond.selects "ForcedChart" ({ cls := "ForcedChart", name := "action", desc := "(IIII)I" } : Jvm.MethodName) ({ cls := "ForcedChart", name := "action", desc := "(IIII)I" } : Jvm.MethodName)) ∈ TB := tb_1 340 (by decide +kernel) (by decide +kernel)
theorem wl_351 : (Jvm.Cond.methodLink "ForcedChartLaw" (36 : Nat) ({ cls := "ForcedChart", name := "unreached", desc := "()I" } : Jvm.MethodName)) ∈ TB := tb_1 351 (by decide +kernel) (by decide +kernel)
theorem wl_352 : (Jvm.Cond.instanceMethod ({ cls := "ForcedChart", name := "unreached", desc := "()I" } : Jvm.MethodName)) ∈ TB := tb_1 352 (by decide +kernel) (by decide +kernel)
theorem wl_353 : (Jvm.Cond.selects "ForcedChart" ({ cls := "ForcedChart", name := "unreached", desc := "()I" } : Jvm.MethodName) ({ cls := "ForcedChart", name := "unreached", desc := "()I" } : Jvm.MethodName)) ∈ TB := tb_1 353 (by decide +kernel) (by decide +kernel)
theorem wl_383 : (Jvm.Cond.methodLink "ForcedChartLaw" (41 : Nat) ({ cls := "ForcedChart", name := "start", desc := "(Z)Z" } : Jvm.MethodName)) ∈ TB := tb_1 383 (by decide +kernel) (by decide +kernel)
theorem wl_384 : (Jvm.Cond.instanceMethod ({ cls := "ForcedChart", name := "start", desc := "(Z)Z" } : Jvm.MethodName)) ∈ TB := tb_1 384 (by decide +kernel) (by decide +kernel)
theorem wl_385 : (Jvm.Cond.selects "ForcedChart" ({ cls := "ForcedChart", name := "start", desc := "(Z)Z" } : Jvm.MethodName) ({ cls := "ForcedChart", name := "start", desc := "(Z)Z" } : Jvm.MethodName)) ∈ TB := tb_1 385 (by decide +kernel) (by decide +kernel)
theorem wl_395 : (Jvm.Cond.methodLink "ForcedChartLaw" (46 : Nat) ({ cls := "ForcedChart", name := "stop", desc := "()V" } : Jvm.MethodName)) ∈ TB := tb_1 395 (by decide +kernel) (by decide +kernel)
theorem wl_396 : (Jvm.Cond.instanceMethod ({ cls := "ForcedChart", name := "stop", desc := "()V" } : Jvm.MethodName)) ∈ TB := tb_1 396 (by decide +kernel) (by decide +kernel)
theorem wl_397 : (Jvm.Cond.selects "ForcedChart" ({ cls := "ForcedChart", name := "stop", desc := "()V" } : Jvm.MethodName) ({ cls := "ForcedChart", name := "stop", desc := "()V" } : Jvm.MethodName)) ∈ TB := tb_1 397 (by decide +kernel) (by decide +kernel)
theorem wl_399 : (Jvm.Cond.methodLink "ForcedChartLaw" (50 : Nat) ({ cls := "ForcedChart", name := "scan", desc := "(II)I" } : Jvm.MethodName)) ∈ TB := tb_1 399 (by decide +kernel) (by decide +kernel)
theorem wl_400 : (Jvm.Cond.instanceMethod ({ cls := "ForcedChart", name := "scan", desc := "(II)I" } : Jvm.MethodName)) ∈ TB := tb_1 400 (by decide +kernel) (by decide +kernel)
theorem wl_401 : (Jvm.Cond.selects "ForcedChart" ({ cls := "ForcedChart", name := "scan", desc := "(II)I" } : Jvm.MethodName) ({ cls := "ForcedChart", name := "scan", desc := "(II)I" } : Jvm.MethodName)) ∈ TB := tb_1 401 (by decide +kernel) (by decide +kernel)
theorem wl_493 : (Jvm.Cond.methodLink "ForcedChartLaw" (55 : Nat) ({ cls := "ForcedChart", name := "active", desc := "()I" } : Jvm.MethodName)) ∈ TB := tb_1 493 (by decide +kernel) (by decide +kernel)
theorem wl_494 : (Jvm.Cond.instanceMethod ({ cls := "ForcedChart", name := "active", desc := "()I" } : Jvm.MethodName)) ∈ TB := tb_1 494 (by decide +kernel) (by decide +kernel)
theorem wl_495 : (Jvm.Cond.selects "ForcedChart" ({ cls := "ForcedChart", name := "active", desc := "()I" } : Jvm.MethodName) ({ cls := "ForcedChart", name := "active", desc := "()I" } : Jvm.MethodName)) ∈ TB := tb_1 495 (by decide +kernel) (by decide +kernel)
theorem wl_497 : (Jvm.Cond.methodLink "ForcedChartLaw" (59 : Nat) ({ cls := "ForcedChart", name := "time", desc := "(I)I" } : Jvm.MethodName)) ∈ TB := tb_1 497 (by decide +kernel) (by decide +kernel)
theorem wl_498 : (Jvm.Cond.instanceMethod ({ cls := "ForcedChart", name := "time", desc := "(I)I" } : Jvm.MethodName)) ∈ TB := tb_1 498 (by decide +kernel) (by decide +kernel)
theorem wl_499 : (Jvm.Cond.selects "ForcedChart" ({ cls := "ForcedChart", name := "time", desc := "(I)I" } : Jvm.MethodName) ({ cls := "ForcedChart", name := "time", desc := "(I)I" } : Jvm.MethodName)) ∈ TB := tb_1 499 (by decide +kernel) (by decide +kernel)
theorem wl_501 : (Jvm.Cond.methodLink "ForcedChartLaw" (64 : Nat) ({ cls := "ForcedChart", name := "enabled", desc := "()I" } : Jvm.MethodName)) ∈ TB := tb_1 501 (by decide +kernel) (by decide +kernel)
theorem wl_502 : (Jvm.Cond.instanceMethod ({ cls := "ForcedChart", name := "enabled", desc := "()I" } : Jvm.MethodName)) ∈ TB := tb_1 502 (by decide +kernel) (by decide +kernel)
theorem wl_503 : (Jvm.Cond.selects "ForcedChart" ({ cls := "ForcedChart", name := "enabled", desc := "()I" } : Jvm.MethodName) ({ cls := "ForcedChart", name := "enabled", desc := "()I" } : Jvm.MethodName)) ∈ TB := tb_1 503 (by decide +kernel) (by decide +kernel)
theorem wl_505 : (Jvm.Cond.methodLink "ForcedChartLaw" (68 : Nat) ({ cls := "ForcedChart", name := "outputs", desc := "()I" } : Jvm.MethodName)) ∈ TB := tb_1 505 (by decide +kernel) (by decide +kernel)
theorem wl_506 : (Jvm.Cond.instanceMethod ({ cls := "ForcedChart", name := "outputs", desc := "()I" } : Jvm.MethodName)) ∈ TB := tb_1 506 (by decide +kernel) (by decide +kernel)
theorem wl_507 : (Jvm.Cond.selects "ForcedChart" ({ cls := "ForcedChart", name := "outputs", desc := "()I" } : Jvm.MethodName) ({ cls := "ForcedChart", name := "outputs", desc := "()I" } : Jvm.MethodName)) ∈ TB := tb_1 507 (by decide +kernel) (by decide +kernel)
theorem wl_509 : (Jvm.Cond.methodLink "ForcedChartLaw" (72 : Nat) ({ cls := "ForcedChart", name := "stored", desc := "(I)Z" } : Jvm.MethodName)) ∈ TB := tb_1 509 (by decide +kernel) (by decide +kernel)
theorem wl_510 : (Jvm.Cond.instanceMethod ({ cls := "ForcedChart", name := "stored", desc := "(I)Z" } : Jvm.MethodName)) ∈ TB := tb_1 510 (by decide +kernel) (by decide +kernel)
theorem wl_511 : (Jvm.Cond.selects "ForcedChart" ({ cls := "ForcedChart", name := "stored", desc := "(I)Z" } : Jvm.MethodName) ({ cls := "ForcedChart", name := "stored", desc := "(I)Z" } : Jvm.MethodName)) ∈ TB := tb_1 511 (by decide +kernel) (by decide +kernel)
theorem wl_517 : (Jvm.Cond.methodLink "ForcedChartLaw" (77 : Nat) ({ cls := "ForcedChart", name := "evolutions", desc := "()I" } : Jvm.MethodName)) ∈ TB := tb_1 517 (by decide +kernel) (by decide +kernel)
theorem wl_518 : (Jvm.Cond.instanceMethod ({ cls := "ForcedChart", name := "evolutions", desc := "()I" } : Jvm.MethodName)) ∈ TB := tb_1 518 (by decide +kernel) (by decide +kernel)
theorem wl_519 : (Jvm.Cond.selects "ForcedChart" ({ cls := "ForcedChart", name := "evolutions", desc := "()I" } : Jvm.MethodName) ({ cls := "ForcedChart", name := "evolutions", desc := "()I" } : Jvm.MethodName)) ∈ TB := tb_1 519 (by decide +kernel) (by decide +kernel)
theorem wl_521 : (Jvm.Cond.methodLink "ForcedChartLaw" (81 : Nat) ({ cls := "ForcedChart", name := "cleared", desc := "()I" } : Jvm.MethodName)) ∈ TB := tb_1 521 (by decide +kernel) (by decide +kernel)
theorem wl_522 : (Jvm.Cond.instanceMethod ({ cls := "ForcedChart", name := "cleared", desc := "()I" } : Jvm.MethodName)) ∈ TB := tb_1 522 (by decide +kernel) (by decide +kernel)
theorem wl_523 : (Jvm.Cond.selects "ForcedChart" ({ cls := "ForcedChart", name := "cleared", desc := "()I" } : Jvm.MethodName) ({ cls := "ForcedChart", name := "cleared", desc := "()I" } : Jvm.MethodName)) ∈ TB := tb_1 523 (by decide +kernel) (by decide +kernel)
theorem wl_525 : (Jvm.Cond.methodLink "ForcedChartLaw" (85 : Nat) ({ cls := "ForcedChart", name := "lead", desc := "()I" } : Jvm.MethodName)) ∈ TB := tb_1 525 (by decide +kernel) (by decide +kernel)
theorem wl_526 : (Jvm.Cond.instanceMethod ({ cls := "ForcedChart", name := "lead", desc := "()I" } : Jvm.MethodName)) ∈ TB := tb_1 526 (by decide +kernel) (by decide +kernel)
theorem wl_527 : (Jvm.Cond.selects "ForcedChart" ({ cls := "ForcedChart", name := "lead", desc := "()I" } : Jvm.MethodName) ({ cls := "ForcedChart", name := "lead", desc := "()I" } : Jvm.MethodName)) ∈ TB := tb_1 527 (by decide +kernel) (by decide +kernel)
theorem wl_529 : (Jvm.Cond.methodLink "ForcedChartLaw" (89 : Nat) ({ cls := "ForcedChart", name := "period", desc := "()I" } : Jvm.MethodName)) ∈ TB := tb_1 529 (by decide +kernel) (by decide +kernel)
theorem wl_530 : (Jvm.Cond.instanceMethod ({ cls := "ForcedChart", name := "period", desc := "()I" } : Jvm.MethodName)) ∈ TB := tb_1 530 (by decide +kernel) (by decide +kernel)
theorem wl_531 : (Jvm.Cond.selects "ForcedChart" ({ cls := "ForcedChart", name := "period", desc := "()I" } : Jvm.MethodName) ({ cls := "ForcedChart", name := "period", desc := "()I" } : Jvm.MethodName)) ∈ TB := tb_1 531 (by decide +kernel) (by decide +kernel)
theorem wl_670 : (Jvm.Cond.methodLink "ForcedChartLaw" (17 : Nat) ({ cls := "ForcedChartModel", name := "step", desc := "(IZ)I" } : Jvm.MethodName)) ∈ TB := tb_1 670 (by decide +kernel) (by decide +kernel)
theorem wl_671 : (Jvm.Cond.instanceMethod ({ cls := "ForcedChartModel", name := "step", desc := "(IZ)I" } : Jvm.MethodName)) ∈ TB := tb_1 671 (by decide +kernel) (by decide +kernel)
theorem wl_672 : (Jvm.Cond.selects "ForcedChartModel" ({ cls := "ForcedChartModel", name := "step", desc := "(IZ)I" } : Jvm.MethodName) ({ cls := "ForcedChartModel", name := "step", desc := "(IZ)I" } : Jvm.MethodName)) ∈ TB := tb_1 672 (by decide +kernel) (by decide +kernel)
theorem wl_674 : (Jvm.Cond.methodLink "ForcedChartLaw" (22 : Nat) ({ cls := "ForcedChartModel", name := "expression", desc := "(III)I" } : Jvm.MethodName)) ∈ TB := tb_1 674 (by decide +kernel) (by decide +kernel)
theorem wl_675 : (Jvm.Cond.instanceMethod ({ cls := "ForcedChartModel", name := "expression", desc := "(III)I" } : Jvm.MethodName)) ∈ TB := tb_1 675 (by decide +kernel) (by decide +kernel)
theorem wl_676 : (Jvm.Cond.selects "ForcedChartModel" ({ cls := "ForcedChartModel", name := "expression", desc := "(III)I" } : Jvm.MethodName) ({ cls := "ForcedChartModel", name := "expression", desc := "(III)I" } : Jvm.MethodName)) ∈ TB := tb_1 676 (by decide +kernel) (by decide +kernel)
theorem wl_691 : (Jvm.Cond.methodLink "ForcedChartLaw" (26 : Nat) ({ cls := "ForcedChartModel", name := "transition", desc := "(III)I" } : Jvm.MethodName)) ∈ TB := tb_1 691 (by decide +kernel) (by decide +kernel)
theorem wl_692 : (Jvm.Cond.instanceMethod ({ cls := "ForcedChartModel", name := "transition", desc := "(III)I" } : Jvm.MethodName)) ∈ TB := tb_1 692 (by decide +kernel) (by decide +kernel)
theorem wl_693 : (Jvm.Cond.selects "ForcedChartModel" ({ cls := "ForcedChartModel", name := "transition", desc := "(III)I" } : Jvm.MethodName) ({ cls := "ForcedChartModel", name := "transition", desc := "(III)I" } : Jvm.MethodName)) ∈ TB := tb_1 693 (by decide +kernel) (by decide +kernel)
theorem wl_699 : (Jvm.Cond.methodLink "ForcedChartLaw" (30 : Nat) ({ cls := "ForcedChartModel", name := "order", desc := "(III)I" } : Jvm.MethodName)) ∈ TB := tb_1 699 (by decide +kernel) (by decide +kernel)
theorem wl_700 : (Jvm.Cond.instanceMethod ({ cls := "ForcedChartModel", name := "order", desc := "(III)I" } : Jvm.MethodName)) ∈ TB := tb_1 700 (by decide +kernel) (by decide +kernel)
theorem wl_701 : (Jvm.Cond.selects "ForcedChartModel" ({ cls := "ForcedChartModel", name := "order", desc := "(III)I" } : Jvm.MethodName) ({ cls := "ForcedChartModel", name := "order", desc := "(III)I" } : Jvm.MethodName)) ∈ TB := tb_1 701 (by decide +kernel) (by decide +kernel)
theorem wl_703 : (Jvm.Cond.methodLink "ForcedChartLaw" (35 : Nat) ({ cls := "ForcedChartModel", name := "action", desc := "(IIII)I" } : Jvm.MethodName)) ∈ TB := tb_1 703 (by decide +kernel) (by decide +kernel)
theorem wl_704 : (Jvm.Cond.instanceMethod ({ cls := "ForcedChartModel", name := "action", desc := "(IIII)I" } : Jvm.MethodName)) ∈ TB := tb_1 704 (by decide +kernel) (by decide +kernel)
theorem wl_705 : (Jvm.Cond.selects "ForcedChartModel" ({ cls := "ForcedChartModel", name := "action", desc := "(IIII)I" } : Jvm.MethodName) ({ cls := "ForcedChartModel", name := "action", desc := "(IIII)I" } : Jvm.MethodName)) ∈ TB := tb_1 705 (by decide +kernel) (by decide +kernel)
theorem wl_707 : (Jvm.Cond.methodLink "ForcedChartLaw" (40 : Nat) ({ cls := "ForcedChartModel", name := "unreached", desc := "()I" } : Jvm.MethodName)) ∈ TB := tb_1 707 (by decide +kernel) (by decide +kernel)
theorem wl_708 : (Jvm.Cond.instanceMethod ({ cls := "ForcedChartModel", name := "unreached", desc := "()I" } : Jvm.MethodName)) ∈ TB := tb_1 708 (by decide +kernel) (by decide +kernel)
theorem wl_709 : (Jvm.Cond.selects "ForcedChartModel" ({ cls := "ForcedChartModel", name := "unreached", desc := "()I" } : Jvm.MethodName) ({ cls := "ForcedChartModel", name := "unreached", desc := "()I" } : Jvm.MethodName)) ∈ TB := tb_1 709 (by decide +kernel) (by decide +kernel)
theorem wl_718 : (Jvm.Cond.methodLink "ForcedChartLaw" (45 : Nat) ({ cls := "ForcedChartModel", name := "start", desc := "(Z)Z" } : Jvm.MethodName)) ∈ TB := tb_1 718 (by decide +kernel) (by decide +kernel)
theorem wl_719 : (Jvm.Cond.instanceMethod ({ cls := "ForcedChartModel", name := "start", desc := "(Z)Z" } : Jvm.MethodName)) ∈ TB := tb_1 719 (by decide +kernel) (by decide +kernel)
theorem wl_720 : (Jvm.Cond.selects "ForcedChartModel" ({ cls := "ForcedChartModel", name := "start", desc := "(Z)Z" } : Jvm.MethodName) ({ cls := "ForcedChartModel", name := "start", desc := "(Z)Z" } : Jvm.MethodName)) ∈ TB := tb_1 720 (by decide +kernel) (by decide +kernel)
theorem wl_726 : (Jvm.Cond.methodLink "ForcedChartLaw" (49 : Nat) ({ cls := "ForcedChartModel", name := "stop", desc := "()V" } : Jvm.MethodName)) ∈ TB := tb_1 726 (by decide +kernel) (by decide +kernel)
theorem wl_727 : (Jvm.Cond.instanceMethod ({ cls := "ForcedChartModel", name := "stop", desc := "()V" } : Jvm.MethodName)) ∈ TB := tb_1 727 (by decide +kernel) (by decide +kernel)
theorem wl_728 : (Jvm.Cond.selects "ForcedChartModel" ({ cls := "ForcedChartModel", name := "stop", desc := "()V" } : Jvm.MethodName) ({ cls := "ForcedChartModel", name := "stop", desc := "()V" } : Jvm.MethodName)) ∈ TB := tb_1 728 (by decide +kernel) (by decide +kernel)
theorem wl_730 : (Jvm.Cond.methodLink "ForcedChartLaw" (54 : Nat) ({ cls := "ForcedChartModel", name := "scan", desc := "(II)I" } : Jvm.MethodName)) ∈ TB := tb_1 730 (by decide +kernel) (by decide +kernel)
theorem wl_731 : (Jvm.Cond.instanceMethod ({ cls := "ForcedChartModel", name := "scan", desc := "(II)I" } : Jvm.MethodName)) ∈ TB := tb_1 731 (by decide +kernel) (by decide +kernel)
theorem wl_732 : (Jvm.Cond.selects "ForcedChartModel" ({ cls := "ForcedChartModel", name := "scan", desc := "(II)I" } : Jvm.MethodName) ({ cls := "ForcedChartModel", name := "scan", desc := "(II)I" } : Jvm.MethodName)) ∈ TB := tb_1 732 (by decide +kernel) (by decide +kernel)
theorem wl_786 : (Jvm.Cond.methodLink "ForcedChartLaw" (58 : Nat) ({ cls := "ForcedChartModel", name := "active", desc := "()I" } : Jvm.MethodName)) ∈ TB := tb_1 786 (by decide +kernel) (by decide +kernel)
theorem wl_787 : (Jvm.Cond.instanceMethod ({ cls := "ForcedChartModel", name := "active", desc := "()I" } : Jvm.MethodName)) ∈ TB := tb_1 787 (by decide +kernel) (by decide +kernel)
theorem wl_788 : (Jvm.Cond.selects "ForcedChartModel" ({ cls := "ForcedChartModel", name := "active", desc := "()I" } : Jvm.MethodName) ({ cls := "ForcedChartModel", name := "active", desc := "()I" } : Jvm.MethodName)) ∈ TB := tb_1 788 (by decide +kernel) (by decide +kernel)
theorem wl_790 : (Jvm.Cond.methodLink "ForcedChartLaw" (63 : Nat) ({ cls := "ForcedChartModel", name := "time", desc := "(I)I" } : Jvm.MethodName)) ∈ TB := tb_1 790 (by decide +kernel) (by decide +kernel)
theorem wl_791 : (Jvm.Cond.instanceMethod ({ cls := "ForcedChartModel", name := "time", desc := "(I)I" } : Jvm.MethodName)) ∈ TB := tb_1 791 (by decide +kernel) (by decide +kernel)
theorem wl_792 : (Jvm.Cond.selects "ForcedChartModel" ({ cls := "ForcedChartModel", name := "time", desc := "(I)I" } : Jvm.MethodName) ({ cls := "ForcedChartModel", name := "time", desc := "(I)I" } : Jvm.MethodName)) ∈ TB := tb_1 792 (by decide +kernel) (by decide +kernel)
theorem wl_794 : (Jvm.Cond.methodLink "ForcedChartLaw" (67 : Nat) ({ cls := "ForcedChartModel", name := "enabled", desc := "()I" } : Jvm.MethodName)) ∈ TB := tb_1 794 (by decide +kernel) (by decide +kernel)
theorem wl_795 : (Jvm.Cond.instanceMethod ({ cls := "ForcedChartModel", name := "enabled", desc := "()I" } : Jvm.MethodName)) ∈ TB := tb_1 795 (by decide +kernel) (by decide +kernel)
theorem wl_796 : (Jvm.Cond.selects "ForcedChartModel" ({ cls := "ForcedChartModel", name := "enabled", desc := "()I" } : Jvm.MethodName) ({ cls := "ForcedChartModel", name := "enabled", desc := "()I" } : Jvm.MethodName)) ∈ TB := tb_1 796 (by decide +kernel) (by decide +kernel)
theorem wl_798 : (Jvm.Cond.methodLink "ForcedChartLaw" (71 : Nat) ({ cls := "ForcedChartModel", name := "outputs", desc := "()I" } : Jvm.MethodName)) ∈ TB := tb_1 798 (by decide +kernel) (by decide +kernel)
theorem wl_799 : (Jvm.Cond.instanceMethod ({ cls := "ForcedChartModel", name := "outputs", desc := "()I" } : Jvm.MethodName)) ∈ TB := tb_1 799 (by decide +kernel) (by decide +kernel)
theorem wl_800 : (Jvm.Cond.selects "ForcedChartModel" ({ cls := "ForcedChartModel", name := "outputs", desc := "()I" } : Jvm.MethodName) ({ cls := "ForcedChartModel", name := "outputs", desc := "()I" } : Jvm.MethodName)) ∈ TB := tb_1 800 (by decide +kernel) (by decide +kernel)
theorem wl_802 : (Jvm.Cond.methodLink "ForcedChartLaw" (76 : Nat) ({ cls := "ForcedChartModel", name := "stored", desc := "(I)Z" } : Jvm.MethodName)) ∈ TB := tb_1 802 (by decide +kernel) (by decide +kernel)
theorem wl_803 : (Jvm.Cond.instanceMethod ({ cls := "ForcedChartModel", name := "stored", desc := "(I)Z" } : Jvm.MethodName)) ∈ TB := tb_1 803 (by decide +kernel) (by decide +kernel)
theorem wl_804 : (Jvm.Cond.selects "ForcedChartModel" ({ cls := "ForcedChartModel", name := "stored", desc := "(I)Z" } : Jvm.MethodName) ({ cls := "ForcedChartModel", name := "stored", desc := "(I)Z" } : Jvm.MethodName)) ∈ TB := tb_1 804 (by decide +kernel) (by decide +kernel)
theorem wl_806 : (Jvm.Cond.methodLink "ForcedChartLaw" (80 : Nat) ({ cls := "ForcedChartModel", name := "evolutions", desc := "()I" } : Jvm.MethodName)) ∈ TB := tb_1 806 (by decide +kernel) (by decide +kernel)
theorem wl_807 : (Jvm.Cond.instanceMethod ({ cls := "ForcedChartModel", name := "evolutions", desc := "()I" } : Jvm.MethodName)) ∈ TB := tb_1 807 (by decide +kernel) (by decide +kernel)
theorem wl_808 : (Jvm.Cond.selects "ForcedChartModel" ({ cls := "ForcedChartModel", name := "evolutions", desc := "()I" } : Jvm.MethodName) ({ cls := "ForcedChartModel", name := "evolutions", desc := "()I" } : Jvm.MethodName)) ∈ TB := tb_1 808 (by decide +kernel) (by decide +kernel)
theorem wl_810 : (Jvm.Cond.methodLink "ForcedChartLaw" (84 : Nat) ({ cls := "ForcedChartModel", name := "cleared", desc := "()I" } : Jvm.MethodName)) ∈ TB := tb_1 810 (by decide +kernel) (by decide +kernel)
theorem wl_811 : (Jvm.Cond.instanceMethod ({ cls := "ForcedChartModel", name := "cleared", desc := "()I" } : Jvm.MethodName)) ∈ TB := tb_1 811 (by decide +kernel) (by decide +kernel)
theorem wl_812 : (Jvm.Cond.selects "ForcedChartModel" ({ cls := "ForcedChartModel", name := "cleared", desc := "()I" } : Jvm.MethodName) ({ cls := "ForcedChartModel", name := "cleared", desc := "()I" } : Jvm.MethodName)) ∈ TB := tb_1 812 (by decide +kernel) (by decide +kernel)
theorem wl_814 : (Jvm.Cond.methodLink "ForcedChartLaw" (88 : Nat) ({ cls := "ForcedChartModel", name := "lead", desc := "()I" } : Jvm.MethodName)) ∈ TB := tb_1 814 (by decide +kernel) (by decide +kernel)
theorem wl_815 : (Jvm.Cond.instanceMethod ({ cls := "ForcedChartModel", name := "lead", desc := "()I" } : Jvm.MethodName)) ∈ TB := tb_1 815 (by decide +kernel) (by decide +kernel)
theorem wl_816 : (Jvm.Cond.selects "ForcedChartModel" ({ cls := "ForcedChartModel", name := "lead", desc := "()I" } : Jvm.MethodName) ({ cls := "ForcedChartModel", name := "lead", desc := "()I" } : Jvm.MethodName)) ∈ TB := tb_1 816 (by decide +kernel) (by decide +kernel)
theorem wl_818 : (Jvm.Cond.methodLink "ForcedChartLaw" (92 : Nat) ({ cls := "ForcedChartModel", name := "period", desc := "()I" } : Jvm.MethodName)) ∈ TB := tb_1 818 (by decide +kernel) (by decide +kernel)
theorem wl_819 : (Jvm.Cond.instanceMethod ({ cls := "ForcedChartModel", name := "period", desc := "()I" } : Jvm.MethodName)) ∈ TB := tb_1 819 (by decide +kernel) (by decide +kernel)
theorem wl_820 : (Jvm.Cond.selects "ForcedChartModel" ({ cls := "ForcedChartModel", name := "period", desc := "()I" } : Jvm.MethodName) ({ cls := "ForcedChartModel", name := "period", desc := "()I" } : Jvm.MethodName)) ∈ TB := tb_1 820 (by decide +kernel) (by decide +kernel)
theorem wk_Fc_action : Cond.code y_Fc_action c_Fc_action 5 (some .int) ∈ TB := tb_1 341 (by decide +kernel) (by decide +kernel)
theorem pl_Fc_action : y_Fc_action.cls ≠ "java/lang/invoke/MethodHandle" ∧ y_Fc_action.cls ≠ "java/lang/invoke/VarHandle" ∧ (parseMethodDescriptor y_Fc_action.desc).map (fun d => d.parameters.length) = some 4 := by decide +kernel
theorem wk_Fc_active : Cond.code y_Fc_active c_Fc_active 1 (some .int) ∈ TB := tb_1 496 (by decide +kernel) (by decide +kernel)
theorem pl_Fc_active : y_Fc_active.cls ≠ "java/lang/invoke/MethodHandle" ∧ y_Fc_active.cls ≠ "java/lang/invoke/VarHandle" ∧ (parseMethodDescriptor y_Fc_active.desc).map (fun d => d.parameters.length) = some 0 := by decide +kernel
theorem wk_Fc_cleared : Cond.code y_Fc_cleared c_Fc_cleared 1 (some .int) ∈ TB := tb_1 524 (by decide +kernel) (by decide +kernel)
theorem pl_Fc_cleared : y_Fc_cleared.cls ≠ "java/lang/invoke/MethodHandle" ∧ y_Fc_cleared.cls ≠ "java/lang/invoke/VarHandle" ∧ (parseMethodDescriptor y_Fc_cleared.desc).map (fun d => d.parameters.length) = some 0 := by decide +kernel
theorem wk_Fc_enabled : Cond.code y_Fc_enabled c_Fc_enabled 1 (some .int) ∈ TB := tb_1 504 (by decide +kernel) (by decide +kernel)
theorem pl_Fc_enabled : y_Fc_enabled.cls ≠ "java/lang/invoke/MethodHandle" ∧ y_Fc_enabled.cls ≠ "java/lang/invoke/VarHandle" ∧ (parseMethodDescriptor y_Fc_enabled.desc).map (fun d => d.parameters.length) = some 0 := by decide +kernel
theorem wk_Fc_evolutions : Cond.code y_Fc_evolutions c_Fc_evolutions 1 (some .int) ∈ TB := tb_1 520 (by decide +kernel) (by decide +kernel)
theorem pl_Fc_evolutions : y_Fc_evolutions.cls ≠ "java/lang/invoke/MethodHandle" ∧ y_Fc_evolutions.cls ≠ "java/lang/invoke/VarHandle" ∧ (parseMethodDescriptor y_Fc_evolutions.desc).map (fun d => d.parameters.length) = some 0 := by decide +kernel
theorem wk_Fc_expression : Cond.code y_Fc_expression c_Fc_expression 4 (some .int) ∈ TB := tb_1 281 (by decide +kernel) (by decide +kernel)
theorem pl_Fc_expression : y_Fc_expression.cls ≠ "java/lang/invoke/MethodHandle" ∧ y_Fc_expression.cls ≠ "java/lang/invoke/VarHandle" ∧ (parseMethodDescriptor y_Fc_expression.desc).map (fun d => d.parameters.length) = some 3 := by decide +kernel
theorem wk_Fc_lead : Cond.code y_Fc_lead c_Fc_lead 1 (some .int) ∈ TB := tb_1 528 (by decide +kernel) (by decide +kernel)
theorem pl_Fc_lead : y_Fc_lead.cls ≠ "java/lang/invoke/MethodHandle" ∧ y_Fc_lead.cls ≠ "java/lang/invoke/VarHandle" ∧ (parseMethodDescriptor y_Fc_lead.desc).map (fun d => d.parameters.length) = some 0 := by decide +kernel
theorem wk_Fc_order : Cond.code y_Fc_order c_Fc_order 4 (some .int) ∈ TB := tb_1 332 (by decide +kernel) (by decide +kernel)
theorem pl_Fc_order : y_Fc_order.cls ≠ "java/lang/invoke/MethodHandle" ∧ y_Fc_order.cls ≠ "java/lang/invoke/VarHandle" ∧ (parseMethodDescriptor y_Fc_order.desc).map (fun d => d.parameters.length) = some 3 := by decide +kernel
theorem wk_Fc_outputs : Cond.code y_Fc_outputs c_Fc_outputs 1 (some .int) ∈ TB := tb_1 508 (by decide +kernel) (by decide +kernel)
theorem pl_Fc_outputs : y_Fc_outputs.cls ≠ "java/lang/invoke/MethodHandle" ∧ y_Fc_outputs.cls ≠ "java/lang/invoke/VarHandle" ∧ (parseMethodDescriptor y_Fc_outputs.desc).map (fun d => d.parameters.length) = some 0 := by decide +kernel
theorem wk_Fc_period : Cond.code y_Fc_period c_Fc_period 1 (some .int) ∈ TB := tb_1 532 (by decide +kernel) (by decide +kernel)
theorem pl_Fc_period : y_Fc_period.cls ≠ "java/lang/invoke/MethodHandle" ∧ y_Fc_period.cls ≠ "java/lang/invoke/VarHandle" ∧ (parseMethodDescriptor y_Fc_period.desc).map (fun d => d.parameters.length) = some 0 := by decide +kernel
theorem wk_Fc_scan : Cond.code y_Fc_scan c_Fc_scan 5 (some .int) ∈ TB := tb_1 402 (by decide +kernel) (by decide +kernel)
theorem pl_Fc_scan : y_Fc_scan.cls ≠ "java/lang/invoke/MethodHandle" ∧ y_Fc_scan.cls ≠ "java/lang/invoke/VarHandle" ∧ (parseMethodDescriptor y_Fc_scan.desc).map (fun d => d.parameters.length) = some 2 := by decide +kernel
theorem wk_Fc_start : Cond.code y_Fc_start c_Fc_start 2 (some .boolean) ∈ TB := tb_1 386 (by decide +kernel) (by decide +kernel)
theorem pl_Fc_start : y_Fc_start.cls ≠ "java/lang/invoke/MethodHandle" ∧ y_Fc_start.cls ≠ "java/lang/invoke/VarHandle" ∧ (parseMethodDescriptor y_Fc_start.desc).map (fun d => d.parameters.length) = some 1 := by decide +kernel
theorem wk_Fc_step : Cond.code y_Fc_step c_Fc_step 3 (some .int) ∈ TB := tb_1 273 (by decide +kernel) (by decide +kernel)
theorem pl_Fc_step : y_Fc_step.cls ≠ "java/lang/invoke/MethodHandle" ∧ y_Fc_step.cls ≠ "java/lang/invoke/VarHandle" ∧ (parseMethodDescriptor y_Fc_step.desc).map (fun d => d.parameters.length) = some 2 := by decide +kernel
theorem wk_Fc_stop : Cond.code y_Fc_stop c_Fc_stop 1 none ∈ TB := tb_1 398 (by decide +kernel) (by decide +kernel)
theorem pl_Fc_stop : y_Fc_stop.cls ≠ "java/lang/invoke/MethodHandle" ∧ y_Fc_stop.cls ≠ "java/lang/invoke/VarHandle" ∧ (parseMethodDescriptor y_Fc_stop.desc).map (fun d => d.parameters.length) = some 0 := by decide +kernel
theorem wk_Fc_stored : Cond.code y_Fc_stored c_Fc_stored 2 (some .boolean) ∈ TB := tb_1 512 (by decide +kernel) (by decide +kernel)
theorem pl_Fc_stored : y_Fc_stored.cls ≠ "java/lang/invoke/MethodHandle" ∧ y_Fc_stored.cls ≠ "java/lang/invoke/VarHandle" ∧ (parseMethodDescriptor y_Fc_stored.desc).map (fun d => d.parameters.length) = some 1 := by decide +kernel
theorem wk_Fc_time : Cond.code y_Fc_time c_Fc_time 2 (some .int) ∈ TB := tb_1 500 (by decide +kernel) (by decide +kernel)
theorem pl_Fc_time : y_Fc_time.cls ≠ "java/lang/invoke/MethodHandle" ∧ y_Fc_time.cls ≠ "java/lang/invoke/VarHandle" ∧ (parseMethodDescriptor y_Fc_time.desc).map (fun d => d.parameters.length) = some 1 := by decide +kernel
theorem wk_Fc_transition : Cond.code y_Fc_transition c_Fc_transition 5 (some .int) ∈ TB := tb_1 319 (by decide +kernel) (by decide +kernel)
theorem pl_Fc_transition : y_Fc_transition.cls ≠ "java/lang/invoke/MethodHandle" ∧ y_Fc_transition.cls ≠ "java/lang/invoke/VarHandle" ∧ (parseMethodDescriptor y_Fc_transition.desc).map (fun d => d.parameters.length) = some 3 := by decide +kernel
theorem wk_Fc_unreached : Cond.code y_Fc_unreached c_Fc_unreached 3 (some .int) ∈ TB := tb_1 354 (by decide +kernel) (by decide +kernel)
theorem pl_Fc_unreached : y_Fc_unreached.cls ≠ "java/lang/invoke/MethodHandle" ∧ y_Fc_unreached.cls ≠ "java/lang/invoke/VarHandle" ∧ (parseMethodDescriptor y_Fc_unreached.desc).map (fun d => d.parameters.length) = some 0 := by decide +kernel
theorem wk_Md_action : Cond.code y_Md_action c_Md_action 5 (some .int) ∈ TB := tb_1 706 (by decide +kernel) (by decide +kernel)
theorem pl_Md_action : y_Md_action.cls ≠ "java/lang/invoke/MethodHandle" ∧ y_Md_action.cls ≠ "java/lang/invoke/VarHandle" ∧ (parseMethodDescriptor y_Md_action.desc).map (fun d => d.parameters.length) = some 4 := by decide +kernel
theorem wk_Md_active : Cond.code y_Md_active c_Md_active 1 (some .int) ∈ TB := tb_1 789 (by decide +kernel) (by decide +kernel)
theorem pl_Md_active : y_Md_active.cls ≠ "java/lang/invoke/MethodHandle" ∧ y_Md_active.cls ≠ "java/lang/invoke/VarHandle" ∧ (parseMethodDescriptor y_Md_active.desc).map (fun d => d.parameters.length) = some 0 := by decide +kernel
theorem wk_Md_cleared : Cond.code y_Md_cleared c_Md_cleared 1 (some .int) ∈ TB := tb_1 813 (by decide +kernel) (by decide +kernel)
theorem pl_Md_cleared : y_Md_cleared.cls ≠ "java/lang/invoke/MethodHandle" ∧ y_Md_cleared.cls ≠ "java/lang/invoke/VarHandle" ∧ (parseMethodDescriptor y_Md_cleared.desc).map (fun d => d.parameters.length) = some 0 := by decide +kernel
theorem wk_Md_enabled : Cond.code y_Md_enabled c_Md_enabled 3 (some .int) ∈ TB := tb_1 797 (by decide +kernel) (by decide +kernel)
theorem pl_Md_enabled : y_Md_enabled.cls ≠ "java/lang/invoke/MethodHandle" ∧ y_Md_enabled.cls ≠ "java/lang/invoke/VarHandle" ∧ (parseMethodDescriptor y_Md_enabled.desc).map (fun d => d.parameters.length) = some 0 := by decide +kernel
theorem wk_Md_evolutions : Cond.code y_Md_evolutions c_Md_evolutions 1 (some .int) ∈ TB := tb_1 809 (by decide +kernel) (by decide +kernel)
theorem pl_Md_evolutions : y_Md_evolutions.cls ≠ "java/lang/invoke/MethodHandle" ∧ y_Md_evolutions.cls ≠ "java/lang/invoke/VarHandle" ∧ (parseMethodDescriptor y_Md_evolutions.desc).map (fun d => d.parameters.length) = some 0 := by decide +kernel
theorem wk_Md_expression : Cond.code y_Md_expression c_Md_expression 5 (some .int) ∈ TB := tb_1 677 (by decide +kernel) (by decide +kernel)
theorem pl_Md_expression : y_Md_expression.cls ≠ "java/lang/invoke/MethodHandle" ∧ y_Md_expression.cls ≠ "java/lang/invoke/VarHandle" ∧ (parseMethodDescriptor y_Md_expression.desc).map (fun d => d.parameters.length) = some 3 := by decide +kernel
theorem wk_Md_lead : Cond.code y_Md_lead c_Md_lead 1 (some .int) ∈ TB := tb_1 817 (by decide +kernel) (by decide +kernel)
theorem pl_Md_lead : y_Md_lead.cls ≠ "java/lang/invoke/MethodHandle" ∧ y_Md_lead.cls ≠ "java/lang/invoke/VarHandle" ∧ (parseMethodDescriptor y_Md_lead.desc).map (fun d => d.parameters.length) = some 0 := by decide +kernel
theorem wk_Md_order : Cond.code y_Md_order c_Md_order 4 (some .int) ∈ TB := tb_1 702 (by decide +kernel) (by decide +kernel)
theorem pl_Md_order : y_Md_order.cls ≠ "java/lang/invoke/MethodHandle" ∧ y_Md_order.cls ≠ "java/lang/invoke/VarHandle" ∧ (parseMethodDescriptor y_Md_order.desc).map (fun d => d.parameters.length) = some 3 := by decide +kernel
theorem wk_Md_outputs : Cond.code y_Md_outputs c_Md_outputs 1 (some .int) ∈ TB := tb_1 801 (by decide +kernel) (by decide +kernel)
theorem pl_Md_outputs : y_Md_outputs.cls ≠ "java/lang/invoke/MethodHandle" ∧ y_Md_outputs.cls ≠ "java/lang/invoke/VarHandle" ∧ (parseMethodDescriptor y_Md_outputs.desc).map (fun d => d.parameters.length) = some 0 := by decide +kernel
theorem wk_Md_period : Cond.code y_Md_period c_Md_period 1 (some .int) ∈ TB := tb_1 821 (by decide +kernel) (by decide +kernel)
theorem pl_Md_period : y_Md_period.cls ≠ "java/lang/invoke/MethodHandle" ∧ y_Md_period.cls ≠ "java/lang/invoke/VarHandle" ∧ (parseMethodDescriptor y_Md_period.desc).map (fun d => d.parameters.length) = some 0 := by decide +kernel
theorem wk_Md_scan : Cond.code y_Md_scan c_Md_scan 5 (some .int) ∈ TB := tb_1 733 (by decide +kernel) (by decide +kernel)
theorem pl_Md_scan : y_Md_scan.cls ≠ "java/lang/invoke/MethodHandle" ∧ y_Md_scan.cls ≠ "java/lang/invoke/VarHandle" ∧ (parseMethodDescriptor y_Md_scan.desc).map (fun d => d.parameters.length) = some 2 := by decide +kernel
theorem wk_Md_start : Cond.code y_Md_start c_Md_start 2 (some .boolean) ∈ TB := tb_1 721 (by decide +kernel) (by decide +kernel)
theorem pl_Md_start : y_Md_start.cls ≠ "java/lang/invoke/MethodHandle" ∧ y_Md_start.cls ≠ "java/lang/invoke/VarHandle" ∧ (parseMethodDescriptor y_Md_start.desc).map (fun d => d.parameters.length) = some 1 := by decide +kernel
theorem wk_Md_step : Cond.code y_Md_step c_Md_step 3 (some .int) ∈ TB := tb_1 673 (by decide +kernel) (by decide +kernel)
theorem pl_Md_step : y_Md_step.cls ≠ "java/lang/invoke/MethodHandle" ∧ y_Md_step.cls ≠ "java/lang/invoke/VarHandle" ∧ (parseMethodDescriptor y_Md_step.desc).map (fun d => d.parameters.length) = some 2 := by decide +kernel
theorem wk_Md_stop : Cond.code y_Md_stop c_Md_stop 1 none ∈ TB := tb_1 729 (by decide +kernel) (by decide +kernel)
theorem pl_Md_stop : y_Md_stop.cls ≠ "java/lang/invoke/MethodHandle" ∧ y_Md_stop.cls ≠ "java/lang/invoke/VarHandle" ∧ (parseMethodDescriptor y_Md_stop.desc).map (fun d => d.parameters.length) = some 0 := by decide +kernel
theorem wk_Md_stored : Cond.code y_Md_stored c_Md_stored 2 (some .boolean) ∈ TB := tb_1 805 (by decide +kernel) (by decide +kernel)
theorem pl_Md_stored : y_Md_stored.cls ≠ "java/lang/invoke/MethodHandle" ∧ y_Md_stored.cls ≠ "java/lang/invoke/VarHandle" ∧ (parseMethodDescriptor y_Md_stored.desc).map (fun d => d.parameters.length) = some 1 := by decide +kernel
theorem wk_Md_time : Cond.code y_Md_time c_Md_time 2 (some .int) ∈ TB := tb_1 793 (by decide +kernel) (by decide +kernel)
theorem pl_Md_time : y_Md_time.cls ≠ "java/lang/invoke/MethodHandle" ∧ y_Md_time.cls ≠ "java/lang/invoke/VarHandle" ∧ (parseMethodDescriptor y_Md_time.desc).map (fun d => d.parameters.length) = some 1 := by decide +kernel
theorem wk_Md_transition : Cond.code y_Md_transition c_Md_transition 6 (some .int) ∈ TB := tb_1 694 (by decide +kernel) (by decide +kernel)
theorem pl_Md_transition : y_Md_transition.cls ≠ "java/lang/invoke/MethodHandle" ∧ y_Md_transition.cls ≠ "java/lang/invoke/VarHandle" ∧ (parseMethodDescriptor y_Md_transition.desc).map (fun d => d.parameters.length) = some 3 := by decide +kernel
theorem wk_Md_unreached : Cond.code y_Md_unreached c_Md_unreached 4 (some .int) ∈ TB := tb_1 710 (by decide +kernel) (by decide +kernel)
theorem pl_Md_unreached : y_Md_unreached.cls ≠ "java/lang/invoke/MethodHandle" ∧ y_Md_unreached.cls ≠ "java/lang/invoke/VarHandle" ∧ (parseMethodDescriptor y_Md_unreached.desc).map (fun d => d.parameters.length) = some 0 := by decide +kernel
