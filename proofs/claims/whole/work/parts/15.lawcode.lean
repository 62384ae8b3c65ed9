theorem d_law_0 : decode code 0 = .ok (.new 7, 3) := by decide +kernel
theorem d_law_3 : decode code 3 = .ok (.dup, 1) := by decide +kernel
theorem d_law_4 : decode code 4 = .ok (.invokespecial 9, 3) := by decide +kernel
theorem d_law_7 : decode code 7 = .ok (.astore_n 1, 1) := by decide +kernel
theorem d_law_8 : decode code 8 = .ok (.new 10, 3) := by decide +kernel
theorem d_law_11 : decode code 11 = .ok (.dup, 1) := by decide +kernel
theorem d_law_12 : decode code 12 = .ok (.invokespecial 12, 3) := by decide +kernel
theorem d_law_15 : decode code 15 = .ok (.astore_n 2, 1) := by decide +kernel
theorem d_law_16 : decode code 16 = .ok (.iconst 0, 1) := by decide +kernel
theorem d_law_17 : decode code 17 = .ok (.istore_n 3, 1) := by decide +kernel
theorem d_law_18 : decode code 18 = .ok (.iload_n 3, 1) := by decide +kernel
theorem d_law_19 : decode code 19 = .ok (.aload_n 0, 1) := by decide +kernel
theorem d_law_20 : decode code 20 = .ok (.arraylength, 1) := by decide +kernel
theorem d_law_21 : decode code 21 = .ok (.bipush 6, 2) := by decide +kernel
theorem d_law_23 : decode code 23 = .ok (.isub, 1) := by decide +kernel
theorem d_law_24 : decode code 24 = .ok (.if_icmp .gt 1102, 3) := by decide +kernel
theorem d_law_27 : decode code 27 = .ok (.aload_n 0, 1) := by decide +kernel
theorem d_law_28 : decode code 28 = .ok (.iload_n 3, 1) := by decide +kernel
theorem d_law_29 : decode code 29 = .ok (.iaload, 1) := by decide +kernel
theorem d_law_30 : decode code 30 = .ok (.bipush 31, 2) := by decide +kernel
theorem d_law_32 : decode code 32 = .ok (.iand, 1) := by decide +kernel
theorem d_law_33 : decode code 33 = .ok (.tableswitch 1087 0 27 #[127, 150, 183, 216, 269, 312, 355, 388, 421, 454, 487, 520, 553, 596, 639, 688, 731, 754, 787, 820, 833, 856, 919, 942, 965, 988, 1041, 1064], 127) := by decide +kernel
theorem d_law_160 : decode code 160 = .ok (.aload_n 1, 1) := by decide +kernel
theorem d_law_161 : decode code 161 = .ok (.aload_n 0, 1) := by decide +kernel
theorem d_law_162 : decode code 162 = .ok (.iload_n 3, 1) := by decide +kernel
theorem d_law_163 : decode code 163 = .ok (.iconst 1, 1) := by decide +kernel
theorem d_law_164 : decode code 164 = .ok (.iadd, 1) := by decide +kernel
theorem d_law_165 : decode code 165 = .ok (.iaload, 1) := by decide +kernel
theorem d_law_166 : decode code 166 = .ok (.invokevirtual 13, 3) := by decide +kernel
theorem d_law_169 : decode code 169 = .ok (.aload_n 2, 1) := by decide +kernel
theorem d_law_170 : decode code 170 = .ok (.aload_n 0, 1) := by decide +kernel
theorem d_law_171 : decode code 171 = .ok (.iload_n 3, 1) := by decide +kernel
theorem d_law_172 : decode code 172 = .ok (.iconst 1, 1) := by decide +kernel
theorem d_law_173 : decode code 173 = .ok (.iadd, 1) := by decide +kernel
theorem d_law_174 : decode code 174 = .ok (.iaload, 1) := by decide +kernel
theorem d_law_175 : decode code 175 = .ok (.invokevirtual 17, 3) := by decide +kernel
theorem d_law_178 : decode code 178 = .ok (.if_icmp .eq 942, 3) := by decide +kernel
theorem d_law_181 : decode code 181 = .ok (.iconst 0, 1) := by decide +kernel
theorem d_law_182 : decode code 182 = .ok (.ireturn, 1) := by decide +kernel
theorem d_law_183 : decode code 183 = .ok (.aload_n 1, 1) := by decide +kernel
theorem d_law_184 : decode code 184 = .ok (.aload_n 0, 1) := by decide +kernel
theorem d_law_185 : decode code 185 = .ok (.iload_n 3, 1) := by decide +kernel
theorem d_law_186 : decode code 186 = .ok (.iconst 1, 1) := by decide +kernel
theorem d_law_187 : decode code 187 = .ok (.iadd, 1) := by decide +kernel
theorem d_law_188 : decode code 188 = .ok (.iaload, 1) := by decide +kernel
theorem d_law_189 : decode code 189 = .ok (.aload_n 0, 1) := by decide +kernel
theorem d_law_190 : decode code 190 = .ok (.iload_n 3, 1) := by decide +kernel
theorem d_law_191 : decode code 191 = .ok (.iconst 2, 1) := by decide +kernel
theorem d_law_192 : decode code 192 = .ok (.iadd, 1) := by decide +kernel
theorem d_law_193 : decode code 193 = .ok (.iaload, 1) := by decide +kernel
theorem d_law_194 : decode code 194 = .ok (.invokevirtual 18, 3) := by decide +kernel
theorem d_law_197 : decode code 197 = .ok (.aload_n 2, 1) := by decide +kernel
theorem d_law_198 : decode code 198 = .ok (.aload_n 0, 1) := by decide +kernel
theorem d_law_199 : decode code 199 = .ok (.iload_n 3, 1) := by decide +kernel
theorem d_law_200 : decode code 200 = .ok (.iconst 1, 1) := by decide +kernel
theorem d_law_201 : decode code 201 = .ok (.iadd, 1) := by decide +kernel
theorem d_law_202 : decode code 202 = .ok (.iaload, 1) := by decide +kernel
theorem d_law_203 : decode code 203 = .ok (.aload_n 0, 1) := by decide +kernel
theorem d_law_204 : decode code 204 = .ok (.iload_n 3, 1) := by decide +kernel
theorem d_law_205 : decode code 205 = .ok (.iconst 2, 1) := by decide +kernel
theorem d_law_206 : decode code 206 = .ok (.iadd, 1) := by decide +kernel
theorem d_law_207 : decode code 207 = .ok (.iaload, 1) := by decide +kernel
theorem d_law_208 : decode code 208 = .ok (.invokevirtual 22, 3) := by decide +kernel
theorem d_law_211 : decode code 211 = .ok (.if_icmp .eq 909, 3) := by decide +kernel
theorem d_law_214 : decode code 214 = .ok (.iconst 0, 1) := by decide +kernel
theorem d_law_215 : decode code 215 = .ok (.ireturn, 1) := by decide +kernel
theorem d_law_216 : decode code 216 = .ok (.aload_n 1, 1) := by decide +kernel
theorem d_law_217 : decode code 217 = .ok (.aload_n 0, 1) := by decide +kernel
theorem d_law_218 : decode code 218 = .ok (.iload_n 3, 1) := by decide +kernel
theorem d_law_219 : decode code 219 = .ok (.iconst 1, 1) := by decide +kernel
theorem d_law_220 : decode code 220 = .ok (.iadd, 1) := by decide +kernel
theorem d_law_221 : decode code 221 = .ok (.iaload, 1) := by decide +kernel
theorem d_law_222 : decode code 222 = .ok (.aload_n 0, 1) := by decide +kernel
theorem d_law_223 : decode code 223 = .ok (.iload_n 3, 1) := by decide +kernel
theorem d_law_224 : decode code 224 = .ok (.iconst 2, 1) := by decide +kernel
theorem d_law_225 : decode code 225 = .ok (.iadd, 1) := by decide +kernel
theorem d_law_226 : decode code 226 = .ok (.iaload, 1) := by decide +kernel
theorem d_law_227 : decode code 227 = .ok (.invokevirtual 23, 3) := by decide +kernel
theorem d_law_230 : decode code 230 = .ok (.aload_n 2, 1) := by decide +kernel
theorem d_law_231 : decode code 231 = .ok (.aload_n 0, 1) := by decide +kernel
theorem d_law_232 : decode code 232 = .ok (.iload_n 3, 1) := by decide +kernel
theorem d_law_233 : decode code 233 = .ok (.iconst 1, 1) := by decide +kernel
theorem d_law_234 : decode code 234 = .ok (.iadd, 1) := by decide +kernel
theorem d_law_235 : decode code 235 = .ok (.iaload, 1) := by decide +kernel
theorem d_law_236 : decode code 236 = .ok (.aload_n 0, 1) := by decide +kernel
theorem d_law_237 : decode code 237 = .ok (.iload_n 3, 1) := by decide +kernel
theorem d_law_238 : decode code 238 = .ok (.iconst 2, 1) := by decide +kernel
theorem d_law_239 : decode code 239 = .ok (.iadd, 1) := by decide +kernel
theorem d_law_240 : decode code 240 = .ok (.iaload, 1) := by decide +kernel
theorem d_law_241 : decode code 241 = .ok (.invokevirtual 27, 3) := by decide +kernel
theorem d_law_244 : decode code 244 = .ok (.if_icmp .eq 876, 3) := by decide +kernel
theorem d_law_247 : decode code 247 = .ok (.iconst 0, 1) := by decide +kernel
theorem d_law_248 : decode code 248 = .ok (.ireturn, 1) := by decide +kernel
theorem d_law_249 : decode code 249 = .ok (.aload_n 1, 1) := by decide +kernel
theorem d_law_250 : decode code 250 = .ok (.aload_n 0, 1) := by decide +kernel
theorem d_law_251 : decode code 251 = .ok (.iload_n 3, 1) := by decide +kernel
theorem d_law_252 : decode code 252 = .ok (.iconst 1, 1) := by decide +kernel
theorem d_law_253 : decode code 253 = .ok (.iadd, 1) := by decide +kernel
theorem d_law_254 : decode code 254 = .ok (.iaload, 1) := by decide +kernel
theorem d_law_255 : decode code 255 = .ok (.aload_n 0, 1) := by decide +kernel
theorem d_law_256 : decode code 256 = .ok (.iload_n 3, 1) := by decide +kernel
theorem d_law_257 : decode code 257 = .ok (.iconst 2, 1) := by decide +kernel
theorem d_law_258 : decode code 258 = .ok (.iadd, 1) := by decide +kernel
theorem d_law_259 : decode code 259 = .ok (.iaload, 1) := by decide +kernel
theorem d_law_260 : decode code 260 = .ok (.aload_n 0, 1) := by decide +kernel
theorem d_law_261 : decode code 261 = .ok (.iload_n 3, 1) := by decide +kernel
theorem d_law_262 : decode code 262 = .ok (.iconst 3, 1) := by decide +kernel
theorem d_law_263 : decode code 263 = .ok (.iadd, 1) := by decide +kernel
theorem d_law_264 : decode code 264 = .ok (.iaload, 1) := by decide +kernel
theorem d_law_265 : decode code 265 = .ok (.aload_n 0, 1) := by decide +kernel
theorem d_law_266 : decode code 266 = .ok (.iload_n 3, 1) := by decide +kernel
theorem d_law_267 : decode code 267 = .ok (.iconst 4, 1) := by decide +kernel
theorem d_law_268 : decode code 268 = .ok (.iadd, 1) := by decide +kernel
theorem d_law_269 : decode code 269 = .ok (.iaload, 1) := by decide +kernel
theorem d_law_270 : decode code 270 = .ok (.invokevirtual 28, 3) := by decide +kernel
theorem d_law_273 : decode code 273 = .ok (.aload_n 2, 1) := by decide +kernel
theorem d_law_274 : decode code 274 = .ok (.aload_n 0, 1) := by decide +kernel
theorem d_law_275 : decode code 275 = .ok (.iload_n 3, 1) := by decide +kernel
theorem d_law_276 : decode code 276 = .ok (.iconst 1, 1) := by decide +kernel
theorem d_law_277 : decode code 277 = .ok (.iadd, 1) := by decide +kernel
theorem d_law_278 : decode code 278 = .ok (.iaload, 1) := by decide +kernel
theorem d_law_279 : decode code 279 = .ok (.aload_n 0, 1) := by decide +kernel
theorem d_law_280 : decode code 280 = .ok (.iload_n 3, 1) := by decide +kernel
theorem d_law_281 : decode code 281 = .ok (.iconst 2, 1) := by decide +kernel
theorem d_law_282 : decode code 282 = .ok (.iadd, 1) := by decide +kernel
theorem d_law_283 : decode code 283 = .ok (.iaload, 1) := by decide +kernel
theorem d_law_284 : decode code 284 = .ok (.aload_n 0, 1) := by decide +kernel
theorem d_law_285 : decode code 285 = .ok (.iload_n 3, 1) := by decide +kernel
theorem d_law_286 : decode code 286 = .ok (.iconst 3, 1) := by decide +kernel
theorem d_law_287 : decode code 287 = .ok (.iadd, 1) := by decide +kernel
theorem d_law_288 : decode code 288 = .ok (.iaload, 1) := by decide +kernel
theorem d_law_289 : decode code 289 = .ok (.aload_n 0, 1) := by decide +kernel
theorem d_law_290 : decode code 290 = .ok (.iload_n 3, 1) := by decide +kernel
theorem d_law_291 : decode code 291 = .ok (.iconst 4, 1) := by decide +kernel
theorem d_law_292 : decode code 292 = .ok (.iadd, 1) := by decide +kernel
theorem d_law_293 : decode code 293 = .ok (.iaload, 1) := by decide +kernel
theorem d_law_294 : decode code 294 = .ok (.invokevirtual 32, 3) := by decide +kernel
theorem d_law_297 : decode code 297 = .ok (.if_icmp .eq 823, 3) := by decide +kernel
theorem d_law_300 : decode code 300 = .ok (.iconst 0, 1) := by decide +kernel
theorem d_law_301 : decode code 301 = .ok (.ireturn, 1) := by decide +kernel
theorem d_law_302 : decode code 302 = .ok (.aload_n 1, 1) := by decide +kernel
theorem d_law_303 : decode code 303 = .ok (.aload_n 0, 1) := by decide +kernel
theorem d_law_304 : decode code 304 = .ok (.iload_n 3, 1) := by decide +kernel
theorem d_law_305 : decode code 305 = .ok (.iconst 1, 1) := by decide +kernel
theorem d_law_306 : decode code 306 = .ok (.iadd, 1) := by decide +kernel
theorem d_law_307 : decode code 307 = .ok (.iaload, 1) := by decide +kernel
theorem d_law_308 : decode code 308 = .ok (.aload_n 0, 1) := by decide +kernel
theorem d_law_309 : decode code 309 = .ok (.iload_n 3, 1) := by decide +kernel
theorem d_law_310 : decode code 310 = .ok (.iconst 2, 1) := by decide +kernel
theorem d_law_311 : decode code 311 = .ok (.iadd, 1) := by decide +kernel
theorem d_law_312 : decode code 312 = .ok (.iaload, 1) := by decide +kernel
theorem d_law_313 : decode code 313 = .ok (.aload_n 0, 1) := by decide +kernel
theorem d_law_314 : decode code 314 = .ok (.iload_n 3, 1) := by decide +kernel
theorem d_law_315 : decode code 315 = .ok (.iconst 3, 1) := by decide +kernel
theorem d_law_316 : decode code 316 = .ok (.iadd, 1) := by decide +kernel
theorem d_law_317 : decode code 317 = .ok (.iaload, 1) := by decide +kernel
theorem d_law_318 : decode code 318 = .ok (.invokevirtual 33, 3) := by decide +kernel
theorem d_law_321 : decode code 321 = .ok (.aload_n 2, 1) := by decide +kernel
theorem d_law_322 : decode code 322 = .ok (.aload_n 0, 1) := by decide +kernel
theorem d_law_323 : decode code 323 = .ok (.iload_n 3, 1) := by decide +kernel
theorem d_law_324 : decode code 324 = .ok (.iconst 1, 1) := by decide +kernel
theorem d_law_325 : decode code 325 = .ok (.iadd, 1) := by decide +kernel
theorem d_law_326 : decode code 326 = .ok (.iaload, 1) := by decide +kernel
theorem d_law_327 : decode code 327 = .ok (.aload_n 0, 1) := by decide +kernel
theorem d_law_328 : decode code 328 = .ok (.iload_n 3, 1) := by decide +kernel
theorem d_law_329 : decode code 329 = .ok (.iconst 2, 1) := by decide +kernel
theorem d_law_330 : decode code 330 = .ok (.iadd, 1) := by decide +kernel
theorem d_law_331 : decode code 331 = .ok (.iaload, 1) := by decide +kernel
theorem d_law_332 : decode code 332 = .ok (.aload_n 0, 1) := by decide +kernel
theorem d_law_333 : decode code 333 = .ok (.iload_n 3, 1) := by decide +kernel
theorem d_law_334 : decode code 334 = .ok (.iconst 3, 1) := by decide +kernel
theorem d_law_335 : decode code 335 = .ok (.iadd, 1) := by decide +kernel
theorem d_law_336 : decode code 336 = .ok (.iaload, 1) := by decide +kernel
theorem d_law_337 : decode code 337 = .ok (.invokevirtual 37, 3) := by decide +kernel
theorem d_law_340 : decode code 340 = .ok (.if_icmp .eq 780, 3) := by decide +kernel
theorem d_law_343 : decode code 343 = .ok (.iconst 0, 1) := by decide +kernel
theorem d_law_344 : decode code 344 = .ok (.ireturn, 1) := by decide +kernel
theorem d_law_345 : decode code 345 = .ok (.aload_n 1, 1) := by decide +kernel
theorem d_law_346 : decode code 346 = .ok (.aload_n 0, 1) := by decide +kernel
theorem d_law_347 : decode code 347 = .ok (.iload_n 3, 1) := by decide +kernel
theorem d_law_348 : decode code 348 = .ok (.iconst 1, 1) := by decide +kernel
theorem d_law_349 : decode code 349 = .ok (.iadd, 1) := by decide +kernel
theorem d_law_350 : decode code 350 = .ok (.iaload, 1) := by decide +kernel
theorem d_law_351 : decode code 351 = .ok (.aload_n 0, 1) := by decide +kernel
theorem d_law_352 : decode code 352 = .ok (.iload_n 3, 1) := by decide +kernel
theorem d_law_353 : decode code 353 = .ok (.iconst 2, 1) := by decide +kernel
theorem d_law_354 : decode code 354 = .ok (.iadd, 1) := by decide +kernel
theorem d_law_355 : decode code 355 = .ok (.iaload, 1) := by decide +kernel
theorem d_law_356 : decode code 356 = .ok (.aload_n 0, 1) := by decide +kernel
theorem d_law_357 : decode code 357 = .ok (.iload_n 3, 1) := by decide +kernel
theorem d_law_358 : decode code 358 = .ok (.iconst 3, 1) := by decide +kernel
theorem d_law_359 : decode code 359 = .ok (.iadd, 1) := by decide +kernel
theorem d_law_360 : decode code 360 = .ok (.iaload, 1) := by decide +kernel
theorem d_law_361 : decode code 361 = .ok (.invokevirtual 38, 3) := by decide +kernel
theorem d_law_364 : decode code 364 = .ok (.aload_n 2, 1) := by decide +kernel
theorem d_law_365 : decode code 365 = .ok (.aload_n 0, 1) := by decide +kernel
theorem d_law_366 : decode code 366 = .ok (.iload_n 3, 1) := by decide +kernel
theorem d_law_367 : decode code 367 = .ok (.iconst 1, 1) := by decide +kernel
theorem d_law_368 : decode code 368 = .ok (.iadd, 1) := by decide +kernel
theorem d_law_369 : decode code 369 = .ok (.iaload, 1) := by decide +kernel
theorem d_law_370 : decode code 370 = .ok (.aload_n 0, 1) := by decide +kernel
theorem d_law_371 : decode code 371 = .ok (.iload_n 3, 1) := by decide +kernel
theorem d_law_372 : decode code 372 = .ok (.iconst 2, 1) := by decide +kernel
