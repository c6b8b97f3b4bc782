/-! sumOf over each of its three rows; the law's loop; by program (wip/whole/gen40.py) -/
theorem L_175_18 : a_look 175 18 = some (.iload_n 3, 0, 0, 0) := by decide +kernel
theorem L_175_19 : a_look 175 19 = some (.aload_n 0, 0, 0, 0) := by decide +kernel
theorem L_175_20 : a_look 175 20 = some (.arraylength, 0, 0, 0) := by decide +kernel
theorem L_175_21 : a_look 175 21 = some (.bipush 7, 0, 0, 0) := by decide +kernel
theorem L_175_23 : a_look 175 23 = some (.isub, 0, 0, 0) := by decide +kernel
theorem L_175_24 : a_look 175 24 = some (.if_icmp .gt 1069, 1093, 0, 0) := by decide +kernel
theorem L_175_27 : a_look 175 27 = some (.aload_n 0, 0, 0, 0) := by decide +kernel
theorem L_175_28 : a_look 175 28 = some (.iload_n 3, 0, 0, 0) := by decide +kernel
theorem L_175_29 : a_look 175 29 = some (.iaload, 0, 0, 0) := by decide +kernel
theorem L_175_30 : a_look 175 30 = some (.bipush 31, 0, 0, 0) := by decide +kernel
theorem L_175_32 : a_look 175 32 = some (.iand, 0, 0, 0) := by decide +kernel
theorem L_175_33 : a_look 175 33 = some (.tableswitch 1054 0 30 #[139, 192, 267, 310, 343, 366, 389, 412, 455, 488, 511, 534, 557, 570, 583, 596, 609, 632, 655, 688, 721, 754, 797, 830, 853, 876, 899, 932, 985, 1008, 1041], 0, 139, 0) := by decide +kernel
theorem L_175_172 : a_look 175 172 = some (.aload_n 1, 0, 0, 0) := by decide +kernel
theorem L_175_173 : a_look 175 173 = some (.aload_n 0, 0, 0, 0) := by decide +kernel
theorem L_175_174 : a_look 175 174 = some (.iload_n 3, 0, 0, 0) := by decide +kernel
theorem L_175_175 : a_look 175 175 = some (.iconst 1, 0, 0, 0) := by decide +kernel
theorem L_175_176 : a_look 175 176 = some (.iadd, 0, 0, 0) := by decide +kernel
theorem L_175_177 : a_look 175 177 = some (.iaload, 0, 0, 0) := by decide +kernel
theorem L_175_178 : a_look 175 178 = some (.aload_n 0, 0, 0, 0) := by decide +kernel
theorem L_175_179 : a_look 175 179 = some (.iload_n 3, 0, 0, 0) := by decide +kernel
theorem L_175_180 : a_look 175 180 = some (.iconst 2, 0, 0, 0) := by decide +kernel
theorem L_175_181 : a_look 175 181 = some (.iadd, 0, 0, 0) := by decide +kernel
theorem L_175_182 : a_look 175 182 = some (.iaload, 0, 0, 0) := by decide +kernel
theorem L_175_183 : a_look 175 183 = some (.aload_n 0, 0, 0, 0) := by decide +kernel
theorem L_175_184 : a_look 175 184 = some (.iload_n 3, 0, 0, 0) := by decide +kernel
theorem L_175_185 : a_look 175 185 = some (.iconst 3, 0, 0, 0) := by decide +kernel
theorem L_175_186 : a_look 175 186 = some (.iadd, 0, 0, 0) := by decide +kernel
theorem L_175_187 : a_look 175 187 = some (.iaload, 0, 0, 0) := by decide +kernel
theorem L_175_188 : a_look 175 188 = some (.aload_n 0, 0, 0, 0) := by decide +kernel
theorem L_175_189 : a_look 175 189 = some (.iload_n 3, 0, 0, 0) := by decide +kernel
theorem L_175_190 : a_look 175 190 = some (.iconst 4, 0, 0, 0) := by decide +kernel
theorem L_175_191 : a_look 175 191 = some (.iadd, 0, 0, 0) := by decide +kernel
theorem L_175_192 : a_look 175 192 = some (.iaload, 0, 0, 0) := by decide +kernel
theorem L_175_193 : a_look 175 193 = some (.invokevirtual 13, 60, 5, 403) := by decide +kernel
theorem L_175_196 : a_look 175 196 = some (.aload_n 2, 0, 0, 0) := by decide +kernel
theorem L_175_197 : a_look 175 197 = some (.aload_n 0, 0, 0, 0) := by decide +kernel
theorem L_175_198 : a_look 175 198 = some (.iload_n 3, 0, 0, 0) := by decide +kernel
theorem L_175_199 : a_look 175 199 = some (.iconst 1, 0, 0, 0) := by decide +kernel
theorem L_175_200 : a_look 175 200 = some (.iadd, 0, 0, 0) := by decide +kernel
theorem L_175_201 : a_look 175 201 = some (.iaload, 0, 0, 0) := by decide +kernel
theorem L_175_202 : a_look 175 202 = some (.aload_n 0, 0, 0, 0) := by decide +kernel
theorem L_175_203 : a_look 175 203 = some (.iload_n 3, 0, 0, 0) := by decide +kernel
theorem L_175_204 : a_look 175 204 = some (.iconst 2, 0, 0, 0) := by decide +kernel
theorem L_175_205 : a_look 175 205 = some (.iadd, 0, 0, 0) := by decide +kernel
theorem L_175_206 : a_look 175 206 = some (.iaload, 0, 0, 0) := by decide +kernel
theorem L_175_207 : a_look 175 207 = some (.aload_n 0, 0, 0, 0) := by decide +kernel
theorem L_175_208 : a_look 175 208 = some (.iload_n 3, 0, 0, 0) := by decide +kernel
theorem L_175_209 : a_look 175 209 = some (.iconst 3, 0, 0, 0) := by decide +kernel
theorem L_175_210 : a_look 175 210 = some (.iadd, 0, 0, 0) := by decide +kernel
theorem L_175_211 : a_look 175 211 = some (.iaload, 0, 0, 0) := by decide +kernel
theorem L_175_212 : a_look 175 212 = some (.aload_n 0, 0, 0, 0) := by decide +kernel
theorem L_175_213 : a_look 175 213 = some (.iload_n 3, 0, 0, 0) := by decide +kernel
theorem L_175_214 : a_look 175 214 = some (.iconst 4, 0, 0, 0) := by decide +kernel
theorem L_175_215 : a_look 175 215 = some (.iadd, 0, 0, 0) := by decide +kernel
theorem L_175_216 : a_look 175 216 = some (.iaload, 0, 0, 0) := by decide +kernel
theorem L_175_217 : a_look 175 217 = some (.invokevirtual 17, 131, 5, 619) := by decide +kernel
theorem L_175_220 : a_look 175 220 = some (.if_icmp .eq 867, 1087, 0, 0) := by decide +kernel
theorem L_175_223 : a_look 175 223 = some (.iconst 0, 0, 0, 0) := by decide +kernel
theorem L_175_224 : a_look 175 224 = some (.ireturn, 0, 0, 0) := by decide +kernel
theorem L_175_225 : a_look 175 225 = some (.aload_n 1, 0, 0, 0) := by decide +kernel
theorem L_175_226 : a_look 175 226 = some (.aload_n 0, 0, 0, 0) := by decide +kernel
theorem L_175_227 : a_look 175 227 = some (.iload_n 3, 0, 0, 0) := by decide +kernel
theorem L_175_228 : a_look 175 228 = some (.iconst 1, 0, 0, 0) := by decide +kernel
theorem L_175_229 : a_look 175 229 = some (.iadd, 0, 0, 0) := by decide +kernel
theorem L_175_230 : a_look 175 230 = some (.iaload, 0, 0, 0) := by decide +kernel
theorem L_175_231 : a_look 175 231 = some (.aload_n 0, 0, 0, 0) := by decide +kernel
theorem L_175_232 : a_look 175 232 = some (.iload_n 3, 0, 0, 0) := by decide +kernel
theorem L_175_233 : a_look 175 233 = some (.iconst 2, 0, 0, 0) := by decide +kernel
theorem L_175_234 : a_look 175 234 = some (.iadd, 0, 0, 0) := by decide +kernel
theorem L_175_235 : a_look 175 235 = some (.iaload, 0, 0, 0) := by decide +kernel
theorem L_175_236 : a_look 175 236 = some (.aload_n 0, 0, 0, 0) := by decide +kernel
theorem L_175_237 : a_look 175 237 = some (.iload_n 3, 0, 0, 0) := by decide +kernel
theorem L_175_238 : a_look 175 238 = some (.iconst 3, 0, 0, 0) := by decide +kernel
theorem L_175_239 : a_look 175 239 = some (.iadd, 0, 0, 0) := by decide +kernel
theorem L_175_240 : a_look 175 240 = some (.iaload, 0, 0, 0) := by decide +kernel
theorem L_175_241 : a_look 175 241 = some (.aload_n 0, 0, 0, 0) := by decide +kernel
theorem L_175_242 : a_look 175 242 = some (.iload_n 3, 0, 0, 0) := by decide +kernel
theorem L_175_243 : a_look 175 243 = some (.iconst 4, 0, 0, 0) := by decide +kernel
theorem L_175_244 : a_look 175 244 = some (.iadd, 0, 0, 0) := by decide +kernel
theorem L_175_245 : a_look 175 245 = some (.iaload, 0, 0, 0) := by decide +kernel
theorem L_175_246 : a_look 175 246 = some (.aload_n 0, 0, 0, 0) := by decide +kernel
theorem L_175_247 : a_look 175 247 = some (.iload_n 3, 0, 0, 0) := by decide +kernel
theorem L_175_248 : a_look 175 248 = some (.iconst 5, 0, 0, 0) := by decide +kernel
theorem L_175_249 : a_look 175 249 = some (.iadd, 0, 0, 0) := by decide +kernel
theorem L_175_250 : a_look 175 250 = some (.iaload, 0, 0, 0) := by decide +kernel
theorem L_175_251 : a_look 175 251 = some (.aload_n 0, 0, 0, 0) := by decide +kernel
theorem L_175_252 : a_look 175 252 = some (.iload_n 3, 0, 0, 0) := by decide +kernel
theorem L_175_253 : a_look 175 253 = some (.bipush 6, 0, 0, 0) := by decide +kernel
theorem L_175_255 : a_look 175 255 = some (.iadd, 0, 0, 0) := by decide +kernel
theorem L_175_256 : a_look 175 256 = some (.iaload, 0, 0, 0) := by decide +kernel
theorem L_175_257 : a_look 175 257 = some (.invokevirtual 18, 61, 7, 714) := by decide +kernel
theorem L_175_260 : a_look 175 260 = some (.aload_n 2, 0, 0, 0) := by decide +kernel
theorem L_175_261 : a_look 175 261 = some (.aload_n 0, 0, 0, 0) := by decide +kernel
theorem L_175_262 : a_look 175 262 = some (.iload_n 3, 0, 0, 0) := by decide +kernel
theorem L_175_263 : a_look 175 263 = some (.iconst 1, 0, 0, 0) := by decide +kernel
theorem L_175_264 : a_look 175 264 = some (.iadd, 0, 0, 0) := by decide +kernel
theorem L_175_265 : a_look 175 265 = some (.iaload, 0, 0, 0) := by decide +kernel
theorem L_175_266 : a_look 175 266 = some (.aload_n 0, 0, 0, 0) := by decide +kernel
theorem L_175_267 : a_look 175 267 = some (.iload_n 3, 0, 0, 0) := by decide +kernel
theorem L_175_268 : a_look 175 268 = some (.iconst 2, 0, 0, 0) := by decide +kernel
theorem L_175_269 : a_look 175 269 = some (.iadd, 0, 0, 0) := by decide +kernel
theorem L_175_270 : a_look 175 270 = some (.iaload, 0, 0, 0) := by decide +kernel
theorem L_175_271 : a_look 175 271 = some (.aload_n 0, 0, 0, 0) := by decide +kernel
theorem L_175_272 : a_look 175 272 = some (.iload_n 3, 0, 0, 0) := by decide +kernel
theorem L_175_273 : a_look 175 273 = some (.iconst 3, 0, 0, 0) := by decide +kernel
theorem L_175_274 : a_look 175 274 = some (.iadd, 0, 0, 0) := by decide +kernel
theorem L_175_275 : a_look 175 275 = some (.iaload, 0, 0, 0) := by decide +kernel
theorem L_175_276 : a_look 175 276 = some (.aload_n 0, 0, 0, 0) := by decide +kernel
theorem L_175_277 : a_look 175 277 = some (.iload_n 3, 0, 0, 0) := by decide +kernel
theorem L_175_278 : a_look 175 278 = some (.iconst 4, 0, 0, 0) := by decide +kernel
theorem L_175_279 : a_look 175 279 = some (.iadd, 0, 0, 0) := by decide +kernel
theorem L_175_280 : a_look 175 280 = some (.iaload, 0, 0, 0) := by decide +kernel
theorem L_175_281 : a_look 175 281 = some (.aload_n 0, 0, 0, 0) := by decide +kernel
theorem L_175_282 : a_look 175 282 = some (.iload_n 3, 0, 0, 0) := by decide +kernel
theorem L_175_283 : a_look 175 283 = some (.iconst 5, 0, 0, 0) := by decide +kernel
theorem L_175_284 : a_look 175 284 = some (.iadd, 0, 0, 0) := by decide +kernel
theorem L_175_285 : a_look 175 285 = some (.iaload, 0, 0, 0) := by decide +kernel
theorem L_175_286 : a_look 175 286 = some (.aload_n 0, 0, 0, 0) := by decide +kernel
theorem L_175_287 : a_look 175 287 = some (.iload_n 3, 0, 0, 0) := by decide +kernel
theorem L_175_288 : a_look 175 288 = some (.bipush 6, 0, 0, 0) := by decide +kernel
theorem L_175_290 : a_look 175 290 = some (.iadd, 0, 0, 0) := by decide +kernel
theorem L_175_291 : a_look 175 291 = some (.iaload, 0, 0, 0) := by decide +kernel
theorem L_175_292 : a_look 175 292 = some (.invokevirtual 22, 132, 7, 918) := by decide +kernel
theorem L_175_295 : a_look 175 295 = some (.if_icmp .eq 792, 1087, 0, 0) := by decide +kernel
theorem L_175_298 : a_look 175 298 = some (.iconst 0, 0, 0, 0) := by decide +kernel
theorem L_175_299 : a_look 175 299 = some (.ireturn, 0, 0, 0) := by decide +kernel
theorem L_175_300 : a_look 175 300 = some (.aload_n 1, 0, 0, 0) := by decide +kernel
theorem L_175_301 : a_look 175 301 = some (.aload_n 0, 0, 0, 0) := by decide +kernel
theorem L_175_302 : a_look 175 302 = some (.iload_n 3, 0, 0, 0) := by decide +kernel
theorem L_175_303 : a_look 175 303 = some (.iconst 1, 0, 0, 0) := by decide +kernel
theorem L_175_304 : a_look 175 304 = some (.iadd, 0, 0, 0) := by decide +kernel
theorem L_175_305 : a_look 175 305 = some (.iaload, 0, 0, 0) := by decide +kernel
theorem L_175_306 : a_look 175 306 = some (.aload_n 0, 0, 0, 0) := by decide +kernel
theorem L_175_307 : a_look 175 307 = some (.iload_n 3, 0, 0, 0) := by decide +kernel
theorem L_175_308 : a_look 175 308 = some (.iconst 2, 0, 0, 0) := by decide +kernel
theorem L_175_309 : a_look 175 309 = some (.iadd, 0, 0, 0) := by decide +kernel
theorem L_175_310 : a_look 175 310 = some (.iaload, 0, 0, 0) := by decide +kernel
theorem L_175_311 : a_look 175 311 = some (.aload_n 0, 0, 0, 0) := by decide +kernel
theorem L_175_312 : a_look 175 312 = some (.iload_n 3, 0, 0, 0) := by decide +kernel
theorem L_175_313 : a_look 175 313 = some (.iconst 3, 0, 0, 0) := by decide +kernel
theorem L_175_314 : a_look 175 314 = some (.iadd, 0, 0, 0) := by decide +kernel
theorem L_175_315 : a_look 175 315 = some (.iaload, 0, 0, 0) := by decide +kernel
theorem L_175_316 : a_look 175 316 = some (.invokevirtual 23, 62, 4, 1211) := by decide +kernel
theorem L_175_319 : a_look 175 319 = some (.aload_n 2, 0, 0, 0) := by decide +kernel
theorem L_175_320 : a_look 175 320 = some (.aload_n 0, 0, 0, 0) := by decide +kernel
theorem L_175_321 : a_look 175 321 = some (.iload_n 3, 0, 0, 0) := by decide +kernel
theorem L_175_322 : a_look 175 322 = some (.iconst 1, 0, 0, 0) := by decide +kernel
theorem L_175_323 : a_look 175 323 = some (.iadd, 0, 0, 0) := by decide +kernel
theorem L_175_324 : a_look 175 324 = some (.iaload, 0, 0, 0) := by decide +kernel
theorem L_175_325 : a_look 175 325 = some (.aload_n 0, 0, 0, 0) := by decide +kernel
theorem L_175_326 : a_look 175 326 = some (.iload_n 3, 0, 0, 0) := by decide +kernel
theorem L_175_327 : a_look 175 327 = some (.iconst 2, 0, 0, 0) := by decide +kernel
theorem L_175_328 : a_look 175 328 = some (.iadd, 0, 0, 0) := by decide +kernel
theorem L_175_329 : a_look 175 329 = some (.iaload, 0, 0, 0) := by decide +kernel
theorem L_175_330 : a_look 175 330 = some (.aload_n 0, 0, 0, 0) := by decide +kernel
theorem L_175_331 : a_look 175 331 = some (.iload_n 3, 0, 0, 0) := by decide +kernel
theorem L_175_332 : a_look 175 332 = some (.iconst 3, 0, 0, 0) := by decide +kernel
theorem L_175_333 : a_look 175 333 = some (.iadd, 0, 0, 0) := by decide +kernel
theorem L_175_334 : a_look 175 334 = some (.iaload, 0, 0, 0) := by decide +kernel
theorem L_175_335 : a_look 175 335 = some (.invokevirtual 27, 133, 4, 1303) := by decide +kernel
theorem L_175_338 : a_look 175 338 = some (.if_icmp .eq 749, 1087, 0, 0) := by decide +kernel
theorem L_175_341 : a_look 175 341 = some (.iconst 0, 0, 0, 0) := by decide +kernel
theorem L_175_342 : a_look 175 342 = some (.ireturn, 0, 0, 0) := by decide +kernel
theorem L_175_343 : a_look 175 343 = some (.aload_n 1, 0, 0, 0) := by decide +kernel
theorem L_175_344 : a_look 175 344 = some (.aload_n 0, 0, 0, 0) := by decide +kernel
theorem L_175_345 : a_look 175 345 = some (.iload_n 3, 0, 0, 0) := by decide +kernel
theorem L_175_346 : a_look 175 346 = some (.iconst 1, 0, 0, 0) := by decide +kernel
theorem L_175_347 : a_look 175 347 = some (.iadd, 0, 0, 0) := by decide +kernel
theorem L_175_348 : a_look 175 348 = some (.iaload, 0, 0, 0) := by decide +kernel
theorem L_175_349 : a_look 175 349 = some (.aload_n 0, 0, 0, 0) := by decide +kernel
theorem L_175_350 : a_look 175 350 = some (.iload_n 3, 0, 0, 0) := by decide +kernel
theorem L_175_351 : a_look 175 351 = some (.iconst 2, 0, 0, 0) := by decide +kernel
theorem L_175_352 : a_look 175 352 = some (.iadd, 0, 0, 0) := by decide +kernel
theorem L_175_353 : a_look 175 353 = some (.iaload, 0, 0, 0) := by decide +kernel
theorem L_175_354 : a_look 175 354 = some (.invokevirtual 28, 63, 3, 1314) := by decide +kernel
theorem L_175_357 : a_look 175 357 = some (.aload_n 2, 0, 0, 0) := by decide +kernel
theorem L_175_358 : a_look 175 358 = some (.aload_n 0, 0, 0, 0) := by decide +kernel
theorem L_175_359 : a_look 175 359 = some (.iload_n 3, 0, 0, 0) := by decide +kernel
theorem L_175_360 : a_look 175 360 = some (.iconst 1, 0, 0, 0) := by decide +kernel
theorem L_175_361 : a_look 175 361 = some (.iadd, 0, 0, 0) := by decide +kernel
theorem L_175_362 : a_look 175 362 = some (.iaload, 0, 0, 0) := by decide +kernel
theorem L_175_363 : a_look 175 363 = some (.aload_n 0, 0, 0, 0) := by decide +kernel
theorem L_175_364 : a_look 175 364 = some (.iload_n 3, 0, 0, 0) := by decide +kernel
theorem L_175_365 : a_look 175 365 = some (.iconst 2, 0, 0, 0) := by decide +kernel
theorem L_175_366 : a_look 175 366 = some (.iadd, 0, 0, 0) := by decide +kernel
theorem L_175_367 : a_look 175 367 = some (.iaload, 0, 0, 0) := by decide +kernel
theorem L_175_368 : a_look 175 368 = some (.invokevirtual 32, 134, 3, 1322) := by decide +kernel
theorem L_175_371 : a_look 175 371 = some (.if_icmp .eq 716, 1087, 0, 0) := by decide +kernel
theorem L_175_374 : a_look 175 374 = some (.iconst 0, 0, 0, 0) := by decide +kernel
theorem L_175_375 : a_look 175 375 = some (.ireturn, 0, 0, 0) := by decide +kernel
theorem L_175_376 : a_look 175 376 = some (.aload_n 1, 0, 0, 0) := by decide +kernel
theorem L_175_377 : a_look 175 377 = some (.aload_n 0, 0, 0, 0) := by decide +kernel
theorem L_175_378 : a_look 175 378 = some (.iload_n 3, 0, 0, 0) := by decide +kernel
theorem L_175_379 : a_look 175 379 = some (.iconst 1, 0, 0, 0) := by decide +kernel
theorem L_175_380 : a_look 175 380 = some (.iadd, 0, 0, 0) := by decide +kernel
theorem L_175_381 : a_look 175 381 = some (.iaload, 0, 0, 0) := by decide +kernel
theorem L_175_382 : a_look 175 382 = some (.invokevirtual 33, 64, 2, 1402) := by decide +kernel
theorem L_175_385 : a_look 175 385 = some (.aload_n 2, 0, 0, 0) := by decide +kernel
theorem L_175_386 : a_look 175 386 = some (.aload_n 0, 0, 0, 0) := by decide +kernel
theorem L_175_387 : a_look 175 387 = some (.iload_n 3, 0, 0, 0) := by decide +kernel
theorem L_175_388 : a_look 175 388 = some (.iconst 1, 0, 0, 0) := by decide +kernel
theorem L_175_389 : a_look 175 389 = some (.iadd, 0, 0, 0) := by decide +kernel
theorem L_175_390 : a_look 175 390 = some (.iaload, 0, 0, 0) := by decide +kernel
theorem L_175_391 : a_look 175 391 = some (.invokevirtual 37, 136, 2, 1419) := by decide +kernel
theorem L_175_394 : a_look 175 394 = some (.if_icmp .eq 693, 1087, 0, 0) := by decide +kernel
theorem L_175_397 : a_look 175 397 = some (.iconst 0, 0, 0, 0) := by decide +kernel
theorem L_175_398 : a_look 175 398 = some (.ireturn, 0, 0, 0) := by decide +kernel
theorem L_175_399 : a_look 175 399 = some (.aload_n 1, 0, 0, 0) := by decide +kernel
theorem L_175_400 : a_look 175 400 = some (.aload_n 0, 0, 0, 0) := by decide +kernel
theorem L_175_401 : a_look 175 401 = some (.iload_n 3, 0, 0, 0) := by decide +kernel
theorem L_175_402 : a_look 175 402 = some (.iconst 1, 0, 0, 0) := by decide +kernel
theorem L_175_403 : a_look 175 403 = some (.iadd, 0, 0, 0) := by decide +kernel
theorem L_175_404 : a_look 175 404 = some (.iaload, 0, 0, 0) := by decide +kernel
theorem L_175_405 : a_look 175 405 = some (.invokevirtual 38, 65, 2, 1511) := by decide +kernel
theorem L_175_408 : a_look 175 408 = some (.aload_n 2, 0, 0, 0) := by decide +kernel
theorem L_175_409 : a_look 175 409 = some (.aload_n 0, 0, 0, 0) := by decide +kernel
theorem L_175_410 : a_look 175 410 = some (.iload_n 3, 0, 0, 0) := by decide +kernel
theorem L_175_411 : a_look 175 411 = some (.iconst 1, 0, 0, 0) := by decide +kernel
theorem L_175_412 : a_look 175 412 = some (.iadd, 0, 0, 0) := by decide +kernel
theorem L_175_413 : a_look 175 413 = some (.iaload, 0, 0, 0) := by decide +kernel
theorem L_175_414 : a_look 175 414 = some (.invokevirtual 41, 137, 2, 1515) := by decide +kernel
theorem L_175_417 : a_look 175 417 = some (.if_icmp .eq 670, 1087, 0, 0) := by decide +kernel
theorem L_175_420 : a_look 175 420 = some (.iconst 0, 0, 0, 0) := by decide +kernel
theorem L_175_421 : a_look 175 421 = some (.ireturn, 0, 0, 0) := by decide +kernel
theorem L_175_422 : a_look 175 422 = some (.aload_n 1, 0, 0, 0) := by decide +kernel
theorem L_175_423 : a_look 175 423 = some (.aload_n 0, 0, 0, 0) := by decide +kernel
theorem L_175_424 : a_look 175 424 = some (.iload_n 3, 0, 0, 0) := by decide +kernel
theorem L_175_425 : a_look 175 425 = some (.iconst 1, 0, 0, 0) := by decide +kernel
theorem L_175_426 : a_look 175 426 = some (.iadd, 0, 0, 0) := by decide +kernel
theorem L_175_427 : a_look 175 427 = some (.iaload, 0, 0, 0) := by decide +kernel
theorem L_175_428 : a_look 175 428 = some (.invokevirtual 42, 66, 2, 1519) := by decide +kernel
theorem L_175_431 : a_look 175 431 = some (.aload_n 2, 0, 0, 0) := by decide +kernel
theorem L_175_432 : a_look 175 432 = some (.aload_n 0, 0, 0, 0) := by decide +kernel
theorem L_175_433 : a_look 175 433 = some (.iload_n 3, 0, 0, 0) := by decide +kernel
theorem L_175_434 : a_look 175 434 = some (.iconst 1, 0, 0, 0) := by decide +kernel
theorem L_175_435 : a_look 175 435 = some (.iadd, 0, 0, 0) := by decide +kernel
theorem L_175_436 : a_look 175 436 = some (.iaload, 0, 0, 0) := by decide +kernel
theorem L_175_437 : a_look 175 437 = some (.invokevirtual 45, 138, 2, 1607) := by decide +kernel
theorem L_175_440 : a_look 175 440 = some (.if_icmp .eq 647, 1087, 0, 0) := by decide +kernel
theorem L_175_443 : a_look 175 443 = some (.iconst 0, 0, 0, 0) := by decide +kernel
theorem L_175_444 : a_look 175 444 = some (.ireturn, 0, 0, 0) := by decide +kernel
theorem L_175_445 : a_look 175 445 = some (.aload_n 1, 0, 0, 0) := by decide +kernel
theorem L_175_446 : a_look 175 446 = some (.aload_n 0, 0, 0, 0) := by decide +kernel
theorem L_175_447 : a_look 175 447 = some (.iload_n 3, 0, 0, 0) := by decide +kernel
theorem L_175_448 : a_look 175 448 = some (.iconst 1, 0, 0, 0) := by decide +kernel
theorem L_175_449 : a_look 175 449 = some (.iadd, 0, 0, 0) := by decide +kernel
theorem L_175_450 : a_look 175 450 = some (.iaload, 0, 0, 0) := by decide +kernel
theorem L_175_451 : a_look 175 451 = some (.aload_n 0, 0, 0, 0) := by decide +kernel
theorem L_175_452 : a_look 175 452 = some (.iload_n 3, 0, 0, 0) := by decide +kernel
theorem L_175_453 : a_look 175 453 = some (.iconst 2, 0, 0, 0) := by decide +kernel
theorem L_175_454 : a_look 175 454 = some (.iadd, 0, 0, 0) := by decide +kernel
theorem L_175_455 : a_look 175 455 = some (.iaload, 0, 0, 0) := by decide +kernel
theorem L_175_456 : a_look 175 456 = some (.aload_n 0, 0, 0, 0) := by decide +kernel
theorem L_175_457 : a_look 175 457 = some (.iload_n 3, 0, 0, 0) := by decide +kernel
theorem L_175_458 : a_look 175 458 = some (.iconst 3, 0, 0, 0) := by decide +kernel
theorem L_175_459 : a_look 175 459 = some (.iadd, 0, 0, 0) := by decide +kernel
theorem L_175_460 : a_look 175 460 = some (.iaload, 0, 0, 0) := by decide +kernel
theorem L_175_461 : a_look 175 461 = some (.invokevirtual 46, 67, 4, 1615) := by decide +kernel
theorem L_175_464 : a_look 175 464 = some (.aload_n 2, 0, 0, 0) := by decide +kernel
theorem L_175_465 : a_look 175 465 = some (.aload_n 0, 0, 0, 0) := by decide +kernel
theorem L_175_466 : a_look 175 466 = some (.iload_n 3, 0, 0, 0) := by decide +kernel
theorem L_175_467 : a_look 175 467 = some (.iconst 1, 0, 0, 0) := by decide +kernel
theorem L_175_468 : a_look 175 468 = some (.iadd, 0, 0, 0) := by decide +kernel
theorem L_175_469 : a_look 175 469 = some (.iaload, 0, 0, 0) := by decide +kernel
theorem L_175_470 : a_look 175 470 = some (.aload_n 0, 0, 0, 0) := by decide +kernel
theorem L_175_471 : a_look 175 471 = some (.iload_n 3, 0, 0, 0) := by decide +kernel
theorem L_175_472 : a_look 175 472 = some (.iconst 2, 0, 0, 0) := by decide +kernel
theorem L_175_473 : a_look 175 473 = some (.iadd, 0, 0, 0) := by decide +kernel
theorem L_175_474 : a_look 175 474 = some (.iaload, 0, 0, 0) := by decide +kernel
theorem L_175_475 : a_look 175 475 = some (.aload_n 0, 0, 0, 0) := by decide +kernel
theorem L_175_476 : a_look 175 476 = some (.iload_n 3, 0, 0, 0) := by decide +kernel
theorem L_175_477 : a_look 175 477 = some (.iconst 3, 0, 0, 0) := by decide +kernel
theorem L_175_478 : a_look 175 478 = some (.iadd, 0, 0, 0) := by decide +kernel
theorem L_175_479 : a_look 175 479 = some (.iaload, 0, 0, 0) := by decide +kernel
theorem L_175_480 : a_look 175 480 = some (.invokevirtual 49, 141, 4, 1804) := by decide +kernel
theorem L_175_483 : a_look 175 483 = some (.if_icmp .eq 604, 1087, 0, 0) := by decide +kernel
theorem L_175_486 : a_look 175 486 = some (.iconst 0, 0, 0, 0) := by decide +kernel
theorem L_175_487 : a_look 175 487 = some (.ireturn, 0, 0, 0) := by decide +kernel
theorem L_175_488 : a_look 175 488 = some (.aload_n 1, 0, 0, 0) := by decide +kernel
theorem L_175_489 : a_look 175 489 = some (.aload_n 0, 0, 0, 0) := by decide +kernel
theorem L_175_490 : a_look 175 490 = some (.iload_n 3, 0, 0, 0) := by decide +kernel
theorem L_175_491 : a_look 175 491 = some (.iconst 1, 0, 0, 0) := by decide +kernel
theorem L_175_492 : a_look 175 492 = some (.iadd, 0, 0, 0) := by decide +kernel
theorem L_175_493 : a_look 175 493 = some (.iaload, 0, 0, 0) := by decide +kernel
theorem L_175_494 : a_look 175 494 = some (.aload_n 0, 0, 0, 0) := by decide +kernel
theorem L_175_495 : a_look 175 495 = some (.iload_n 3, 0, 0, 0) := by decide +kernel
theorem L_175_496 : a_look 175 496 = some (.iconst 2, 0, 0, 0) := by decide +kernel
theorem L_175_497 : a_look 175 497 = some (.iadd, 0, 0, 0) := by decide +kernel
theorem L_175_498 : a_look 175 498 = some (.iaload, 0, 0, 0) := by decide +kernel
theorem L_175_499 : a_look 175 499 = some (.invokevirtual 50, 68, 3, 1908) := by decide +kernel
theorem L_175_502 : a_look 175 502 = some (.aload_n 2, 0, 0, 0) := by decide +kernel
theorem L_175_503 : a_look 175 503 = some (.aload_n 0, 0, 0, 0) := by decide +kernel
theorem L_175_504 : a_look 175 504 = some (.iload_n 3, 0, 0, 0) := by decide +kernel
theorem L_175_505 : a_look 175 505 = some (.iconst 1, 0, 0, 0) := by decide +kernel
theorem L_175_506 : a_look 175 506 = some (.iadd, 0, 0, 0) := by decide +kernel
theorem L_175_507 : a_look 175 507 = some (.iaload, 0, 0, 0) := by decide +kernel
theorem L_175_508 : a_look 175 508 = some (.aload_n 0, 0, 0, 0) := by decide +kernel
theorem L_175_509 : a_look 175 509 = some (.iload_n 3, 0, 0, 0) := by decide +kernel
theorem L_175_510 : a_look 175 510 = some (.iconst 2, 0, 0, 0) := by decide +kernel
theorem L_175_511 : a_look 175 511 = some (.iadd, 0, 0, 0) := by decide +kernel
theorem L_175_512 : a_look 175 512 = some (.iaload, 0, 0, 0) := by decide +kernel
theorem L_175_513 : a_look 175 513 = some (.invokevirtual 53, 142, 3, 1916) := by decide +kernel
theorem L_175_516 : a_look 175 516 = some (.if_icmp .eq 571, 1087, 0, 0) := by decide +kernel
theorem L_175_519 : a_look 175 519 = some (.iconst 0, 0, 0, 0) := by decide +kernel
theorem L_175_520 : a_look 175 520 = some (.ireturn, 0, 0, 0) := by decide +kernel
theorem L_175_521 : a_look 175 521 = some (.aload_n 1, 0, 0, 0) := by decide +kernel
theorem L_175_522 : a_look 175 522 = some (.aload_n 0, 0, 0, 0) := by decide +kernel
theorem L_175_523 : a_look 175 523 = some (.iload_n 3, 0, 0, 0) := by decide +kernel
theorem L_175_524 : a_look 175 524 = some (.iconst 1, 0, 0, 0) := by decide +kernel
theorem L_175_525 : a_look 175 525 = some (.iadd, 0, 0, 0) := by decide +kernel
theorem L_175_526 : a_look 175 526 = some (.iaload, 0, 0, 0) := by decide +kernel
theorem L_175_527 : a_look 175 527 = some (.invokevirtual 54, 69, 2, 1920) := by decide +kernel
theorem L_175_530 : a_look 175 530 = some (.aload_n 2, 0, 0, 0) := by decide +kernel
theorem L_175_531 : a_look 175 531 = some (.aload_n 0, 0, 0, 0) := by decide +kernel
theorem L_175_532 : a_look 175 532 = some (.iload_n 3, 0, 0, 0) := by decide +kernel
theorem L_175_533 : a_look 175 533 = some (.iconst 1, 0, 0, 0) := by decide +kernel
theorem L_175_534 : a_look 175 534 = some (.iadd, 0, 0, 0) := by decide +kernel
theorem L_175_535 : a_look 175 535 = some (.iaload, 0, 0, 0) := by decide +kernel
theorem L_175_536 : a_look 175 536 = some (.invokevirtual 57, 143, 2, 2009) := by decide +kernel
theorem L_175_539 : a_look 175 539 = some (.if_icmp .eq 548, 1087, 0, 0) := by decide +kernel
theorem L_175_542 : a_look 175 542 = some (.iconst 0, 0, 0, 0) := by decide +kernel
theorem L_175_543 : a_look 175 543 = some (.ireturn, 0, 0, 0) := by decide +kernel
theorem L_175_544 : a_look 175 544 = some (.aload_n 1, 0, 0, 0) := by decide +kernel
theorem L_175_545 : a_look 175 545 = some (.aload_n 0, 0, 0, 0) := by decide +kernel
theorem L_175_546 : a_look 175 546 = some (.iload_n 3, 0, 0, 0) := by decide +kernel
theorem L_175_547 : a_look 175 547 = some (.iconst 1, 0, 0, 0) := by decide +kernel
theorem L_175_548 : a_look 175 548 = some (.iadd, 0, 0, 0) := by decide +kernel
theorem L_175_549 : a_look 175 549 = some (.iaload, 0, 0, 0) := by decide +kernel
theorem L_175_550 : a_look 175 550 = some (.invokevirtual 58, 70, 2, 2017) := by decide +kernel
theorem L_175_553 : a_look 175 553 = some (.aload_n 2, 0, 0, 0) := by decide +kernel
theorem L_175_554 : a_look 175 554 = some (.aload_n 0, 0, 0, 0) := by decide +kernel
theorem L_175_555 : a_look 175 555 = some (.iload_n 3, 0, 0, 0) := by decide +kernel
theorem L_175_556 : a_look 175 556 = some (.iconst 1, 0, 0, 0) := by decide +kernel
theorem L_175_557 : a_look 175 557 = some (.iadd, 0, 0, 0) := by decide +kernel
theorem L_175_558 : a_look 175 558 = some (.iaload, 0, 0, 0) := by decide +kernel
theorem L_175_559 : a_look 175 559 = some (.invokevirtual 61, 144, 2, 2121) := by decide +kernel
theorem L_175_562 : a_look 175 562 = some (.if_icmp .eq 525, 1087, 0, 0) := by decide +kernel
theorem L_175_565 : a_look 175 565 = some (.iconst 0, 0, 0, 0) := by decide +kernel
theorem L_175_566 : a_look 175 566 = some (.ireturn, 0, 0, 0) := by decide +kernel
theorem L_175_567 : a_look 175 567 = some (.aload_n 1, 0, 0, 0) := by decide +kernel
theorem L_175_568 : a_look 175 568 = some (.aload_n 0, 0, 0, 0) := by decide +kernel
theorem L_175_569 : a_look 175 569 = some (.iload_n 3, 0, 0, 0) := by decide +kernel
theorem L_175_570 : a_look 175 570 = some (.iconst 1, 0, 0, 0) := by decide +kernel
theorem L_175_571 : a_look 175 571 = some (.iadd, 0, 0, 0) := by decide +kernel
theorem L_175_572 : a_look 175 572 = some (.iaload, 0, 0, 0) := by decide +kernel
theorem L_175_573 : a_look 175 573 = some (.invokevirtual 62, 71, 2, 2209) := by decide +kernel
theorem L_175_576 : a_look 175 576 = some (.aload_n 2, 0, 0, 0) := by decide +kernel
theorem L_175_577 : a_look 175 577 = some (.aload_n 0, 0, 0, 0) := by decide +kernel
theorem L_175_578 : a_look 175 578 = some (.iload_n 3, 0, 0, 0) := by decide +kernel
theorem L_175_579 : a_look 175 579 = some (.iconst 1, 0, 0, 0) := by decide +kernel
theorem L_175_580 : a_look 175 580 = some (.iadd, 0, 0, 0) := by decide +kernel
theorem L_175_581 : a_look 175 581 = some (.iaload, 0, 0, 0) := by decide +kernel
theorem L_175_582 : a_look 175 582 = some (.invokevirtual 65, 145, 2, 2218) := by decide +kernel
theorem L_175_585 : a_look 175 585 = some (.if_icmp .eq 502, 1087, 0, 0) := by decide +kernel
theorem L_175_588 : a_look 175 588 = some (.iconst 0, 0, 0, 0) := by decide +kernel
theorem L_175_589 : a_look 175 589 = some (.ireturn, 0, 0, 0) := by decide +kernel
theorem L_175_590 : a_look 175 590 = some (.aload_n 1, 0, 0, 0) := by decide +kernel
theorem L_175_591 : a_look 175 591 = some (.invokevirtual 66, 72, 1, 2223) := by decide +kernel
theorem L_175_594 : a_look 175 594 = some (.aload_n 2, 0, 0, 0) := by decide +kernel
theorem L_175_595 : a_look 175 595 = some (.invokevirtual 70, 146, 1, 2307) := by decide +kernel
theorem L_175_598 : a_look 175 598 = some (.if_icmp .eq 489, 1087, 0, 0) := by decide +kernel
theorem L_175_601 : a_look 175 601 = some (.iconst 0, 0, 0, 0) := by decide +kernel
theorem L_175_602 : a_look 175 602 = some (.ireturn, 0, 0, 0) := by decide +kernel
theorem L_175_603 : a_look 175 603 = some (.aload_n 1, 0, 0, 0) := by decide +kernel
theorem L_175_604 : a_look 175 604 = some (.invokevirtual 71, 73, 1, 2311) := by decide +kernel
theorem L_175_607 : a_look 175 607 = some (.aload_n 2, 0, 0, 0) := by decide +kernel
theorem L_175_608 : a_look 175 608 = some (.invokevirtual 74, 151, 1, 2500) := by decide +kernel
theorem L_175_611 : a_look 175 611 = some (.if_icmp .eq 476, 1087, 0, 0) := by decide +kernel
theorem L_175_614 : a_look 175 614 = some (.iconst 0, 0, 0, 0) := by decide +kernel
theorem L_175_615 : a_look 175 615 = some (.ireturn, 0, 0, 0) := by decide +kernel
theorem L_175_616 : a_look 175 616 = some (.aload_n 1, 0, 0, 0) := by decide +kernel
theorem L_175_617 : a_look 175 617 = some (.invokevirtual 75, 74, 1, 2600) := by decide +kernel
theorem L_175_620 : a_look 175 620 = some (.aload_n 2, 0, 0, 0) := by decide +kernel
theorem L_175_621 : a_look 175 621 = some (.invokevirtual 78, 153, 1, 2611) := by decide +kernel
theorem L_175_624 : a_look 175 624 = some (.if_icmp .eq 463, 1087, 0, 0) := by decide +kernel
theorem L_175_627 : a_look 175 627 = some (.iconst 0, 0, 0, 0) := by decide +kernel
theorem L_175_628 : a_look 175 628 = some (.ireturn, 0, 0, 0) := by decide +kernel
theorem L_175_629 : a_look 175 629 = some (.aload_n 1, 0, 0, 0) := by decide +kernel
theorem L_175_630 : a_look 175 630 = some (.invokevirtual 79, 75, 1, 2701) := by decide +kernel
theorem L_175_633 : a_look 175 633 = some (.aload_n 2, 0, 0, 0) := by decide +kernel
theorem L_175_634 : a_look 175 634 = some (.invokevirtual 82, 154, 1, 2710) := by decide +kernel
theorem L_175_637 : a_look 175 637 = some (.if_icmp .eq 450, 1087, 0, 0) := by decide +kernel
theorem L_175_640 : a_look 175 640 = some (.iconst 0, 0, 0, 0) := by decide +kernel
theorem L_175_641 : a_look 175 641 = some (.ireturn, 0, 0, 0) := by decide +kernel
theorem L_175_642 : a_look 175 642 = some (.aload_n 1, 0, 0, 0) := by decide +kernel
theorem L_175_643 : a_look 175 643 = some (.aload_n 0, 0, 0, 0) := by decide +kernel
theorem L_175_644 : a_look 175 644 = some (.iload_n 3, 0, 0, 0) := by decide +kernel
theorem L_175_645 : a_look 175 645 = some (.iconst 1, 0, 0, 0) := by decide +kernel
theorem L_175_646 : a_look 175 646 = some (.iadd, 0, 0, 0) := by decide +kernel
theorem L_175_647 : a_look 175 647 = some (.iaload, 0, 0, 0) := by decide +kernel
theorem L_175_648 : a_look 175 648 = some (.invokevirtual 83, 76, 2, 2714) := by decide +kernel
theorem L_175_651 : a_look 175 651 = some (.aload_n 2, 0, 0, 0) := by decide +kernel
theorem L_175_652 : a_look 175 652 = some (.aload_n 0, 0, 0, 0) := by decide +kernel
theorem L_175_653 : a_look 175 653 = some (.iload_n 3, 0, 0, 0) := by decide +kernel
theorem L_175_654 : a_look 175 654 = some (.iconst 1, 0, 0, 0) := by decide +kernel
theorem L_175_655 : a_look 175 655 = some (.iadd, 0, 0, 0) := by decide +kernel
theorem L_175_656 : a_look 175 656 = some (.iaload, 0, 0, 0) := by decide +kernel
theorem L_175_657 : a_look 175 657 = some (.invokevirtual 86, 155, 2, 2720) := by decide +kernel
theorem L_175_660 : a_look 175 660 = some (.if_icmp .eq 427, 1087, 0, 0) := by decide +kernel
theorem L_175_663 : a_look 175 663 = some (.iconst 0, 0, 0, 0) := by decide +kernel
theorem L_175_664 : a_look 175 664 = some (.ireturn, 0, 0, 0) := by decide +kernel
theorem L_175_665 : a_look 175 665 = some (.aload_n 1, 0, 0, 0) := by decide +kernel
theorem L_175_666 : a_look 175 666 = some (.aload_n 0, 0, 0, 0) := by decide +kernel
theorem L_175_667 : a_look 175 667 = some (.iload_n 3, 0, 0, 0) := by decide +kernel
theorem L_175_668 : a_look 175 668 = some (.iconst 1, 0, 0, 0) := by decide +kernel
theorem L_175_669 : a_look 175 669 = some (.iadd, 0, 0, 0) := by decide +kernel
theorem L_175_670 : a_look 175 670 = some (.iaload, 0, 0, 0) := by decide +kernel
theorem L_175_671 : a_look 175 671 = some (.invokevirtual 87, 77, 2, 2800) := by decide +kernel
theorem L_175_674 : a_look 175 674 = some (.aload_n 2, 0, 0, 0) := by decide +kernel
theorem L_175_675 : a_look 175 675 = some (.aload_n 0, 0, 0, 0) := by decide +kernel
theorem L_175_676 : a_look 175 676 = some (.iload_n 3, 0, 0, 0) := by decide +kernel
theorem L_175_677 : a_look 175 677 = some (.iconst 1, 0, 0, 0) := by decide +kernel
theorem L_175_678 : a_look 175 678 = some (.iadd, 0, 0, 0) := by decide +kernel
theorem L_175_679 : a_look 175 679 = some (.iaload, 0, 0, 0) := by decide +kernel
theorem L_175_680 : a_look 175 680 = some (.invokevirtual 90, 156, 2, 2804) := by decide +kernel
theorem L_175_683 : a_look 175 683 = some (.if_icmp .eq 404, 1087, 0, 0) := by decide +kernel
theorem L_175_686 : a_look 175 686 = some (.iconst 0, 0, 0, 0) := by decide +kernel
theorem L_175_687 : a_look 175 687 = some (.ireturn, 0, 0, 0) := by decide +kernel
theorem L_175_688 : a_look 175 688 = some (.aload_n 1, 0, 0, 0) := by decide +kernel
theorem L_175_689 : a_look 175 689 = some (.aload_n 0, 0, 0, 0) := by decide +kernel
theorem L_175_690 : a_look 175 690 = some (.iload_n 3, 0, 0, 0) := by decide +kernel
theorem L_175_691 : a_look 175 691 = some (.iconst 1, 0, 0, 0) := by decide +kernel
theorem L_175_692 : a_look 175 692 = some (.iadd, 0, 0, 0) := by decide +kernel
theorem L_175_693 : a_look 175 693 = some (.iaload, 0, 0, 0) := by decide +kernel
theorem L_175_694 : a_look 175 694 = some (.aload_n 0, 0, 0, 0) := by decide +kernel
theorem L_175_695 : a_look 175 695 = some (.iload_n 3, 0, 0, 0) := by decide +kernel
theorem L_175_696 : a_look 175 696 = some (.iconst 2, 0, 0, 0) := by decide +kernel
theorem L_175_697 : a_look 175 697 = some (.iadd, 0, 0, 0) := by decide +kernel
theorem L_175_698 : a_look 175 698 = some (.iaload, 0, 0, 0) := by decide +kernel
theorem L_175_699 : a_look 175 699 = some (.invokevirtual 91, 78, 3, 2808) := by decide +kernel
theorem L_175_702 : a_look 175 702 = some (.aload_n 2, 0, 0, 0) := by decide +kernel
theorem L_175_703 : a_look 175 703 = some (.aload_n 0, 0, 0, 0) := by decide +kernel
theorem L_175_704 : a_look 175 704 = some (.iload_n 3, 0, 0, 0) := by decide +kernel
theorem L_175_705 : a_look 175 705 = some (.iconst 1, 0, 0, 0) := by decide +kernel
theorem L_175_706 : a_look 175 706 = some (.iadd, 0, 0, 0) := by decide +kernel
theorem L_175_707 : a_look 175 707 = some (.iaload, 0, 0, 0) := by decide +kernel
theorem L_175_708 : a_look 175 708 = some (.aload_n 0, 0, 0, 0) := by decide +kernel
theorem L_175_709 : a_look 175 709 = some (.iload_n 3, 0, 0, 0) := by decide +kernel
theorem L_175_710 : a_look 175 710 = some (.iconst 2, 0, 0, 0) := by decide +kernel
theorem L_175_711 : a_look 175 711 = some (.iadd, 0, 0, 0) := by decide +kernel
theorem L_175_712 : a_look 175 712 = some (.iaload, 0, 0, 0) := by decide +kernel
theorem L_175_713 : a_look 175 713 = some (.invokevirtual 94, 158, 3, 2903) := by decide +kernel
theorem L_175_716 : a_look 175 716 = some (.if_icmp .eq 371, 1087, 0, 0) := by decide +kernel
theorem L_175_719 : a_look 175 719 = some (.iconst 0, 0, 0, 0) := by decide +kernel
theorem L_175_720 : a_look 175 720 = some (.ireturn, 0, 0, 0) := by decide +kernel
theorem L_175_721 : a_look 175 721 = some (.aload_n 1, 0, 0, 0) := by decide +kernel
theorem L_175_722 : a_look 175 722 = some (.aload_n 0, 0, 0, 0) := by decide +kernel
theorem L_175_723 : a_look 175 723 = some (.iload_n 3, 0, 0, 0) := by decide +kernel
theorem L_175_724 : a_look 175 724 = some (.iconst 1, 0, 0, 0) := by decide +kernel
theorem L_175_725 : a_look 175 725 = some (.iadd, 0, 0, 0) := by decide +kernel
theorem L_175_726 : a_look 175 726 = some (.iaload, 0, 0, 0) := by decide +kernel
theorem L_175_727 : a_look 175 727 = some (.aload_n 0, 0, 0, 0) := by decide +kernel
theorem L_175_728 : a_look 175 728 = some (.iload_n 3, 0, 0, 0) := by decide +kernel
theorem L_175_729 : a_look 175 729 = some (.iconst 2, 0, 0, 0) := by decide +kernel
theorem L_175_730 : a_look 175 730 = some (.iadd, 0, 0, 0) := by decide +kernel
theorem L_175_731 : a_look 175 731 = some (.iaload, 0, 0, 0) := by decide +kernel
theorem L_175_732 : a_look 175 732 = some (.invokevirtual 95, 79, 3, 2911) := by decide +kernel
theorem L_175_735 : a_look 175 735 = some (.aload_n 2, 0, 0, 0) := by decide +kernel
theorem L_175_736 : a_look 175 736 = some (.aload_n 0, 0, 0, 0) := by decide +kernel
theorem L_175_737 : a_look 175 737 = some (.iload_n 3, 0, 0, 0) := by decide +kernel
theorem L_175_738 : a_look 175 738 = some (.iconst 1, 0, 0, 0) := by decide +kernel
theorem L_175_739 : a_look 175 739 = some (.iadd, 0, 0, 0) := by decide +kernel
theorem L_175_740 : a_look 175 740 = some (.iaload, 0, 0, 0) := by decide +kernel
theorem L_175_741 : a_look 175 741 = some (.aload_n 0, 0, 0, 0) := by decide +kernel
theorem L_175_742 : a_look 175 742 = some (.iload_n 3, 0, 0, 0) := by decide +kernel
theorem L_175_743 : a_look 175 743 = some (.iconst 2, 0, 0, 0) := by decide +kernel
theorem L_175_744 : a_look 175 744 = some (.iadd, 0, 0, 0) := by decide +kernel
theorem L_175_745 : a_look 175 745 = some (.iaload, 0, 0, 0) := by decide +kernel
theorem L_175_746 : a_look 175 746 = some (.invokevirtual 98, 159, 3, 2922) := by decide +kernel
theorem L_175_749 : a_look 175 749 = some (.if_icmp .eq 338, 1087, 0, 0) := by decide +kernel
theorem L_175_752 : a_look 175 752 = some (.iconst 0, 0, 0, 0) := by decide +kernel
theorem L_175_753 : a_look 175 753 = some (.ireturn, 0, 0, 0) := by decide +kernel
theorem L_175_754 : a_look 175 754 = some (.aload_n 1, 0, 0, 0) := by decide +kernel
theorem L_175_755 : a_look 175 755 = some (.aload_n 0, 0, 0, 0) := by decide +kernel
theorem L_175_756 : a_look 175 756 = some (.iload_n 3, 0, 0, 0) := by decide +kernel
theorem L_175_757 : a_look 175 757 = some (.iconst 1, 0, 0, 0) := by decide +kernel
theorem L_175_758 : a_look 175 758 = some (.iadd, 0, 0, 0) := by decide +kernel
theorem L_175_759 : a_look 175 759 = some (.iaload, 0, 0, 0) := by decide +kernel
theorem L_175_760 : a_look 175 760 = some (.aload_n 0, 0, 0, 0) := by decide +kernel
theorem L_175_761 : a_look 175 761 = some (.iload_n 3, 0, 0, 0) := by decide +kernel
theorem L_175_762 : a_look 175 762 = some (.iconst 2, 0, 0, 0) := by decide +kernel
theorem L_175_763 : a_look 175 763 = some (.iadd, 0, 0, 0) := by decide +kernel
theorem L_175_764 : a_look 175 764 = some (.iaload, 0, 0, 0) := by decide +kernel
theorem L_175_765 : a_look 175 765 = some (.invokevirtual 99, 80, 3, 3002) := by decide +kernel
theorem L_175_768 : a_look 175 768 = some (.aload_n 2, 0, 0, 0) := by decide +kernel
theorem L_175_769 : a_look 175 769 = some (.aload_n 0, 0, 0, 0) := by decide +kernel
theorem L_175_770 : a_look 175 770 = some (.iload_n 3, 0, 0, 0) := by decide +kernel
theorem L_175_771 : a_look 175 771 = some (.iconst 1, 0, 0, 0) := by decide +kernel
theorem L_175_772 : a_look 175 772 = some (.iadd, 0, 0, 0) := by decide +kernel
theorem L_175_773 : a_look 175 773 = some (.iaload, 0, 0, 0) := by decide +kernel
theorem L_175_774 : a_look 175 774 = some (.aload_n 0, 0, 0, 0) := by decide +kernel
theorem L_175_775 : a_look 175 775 = some (.iload_n 3, 0, 0, 0) := by decide +kernel
theorem L_175_776 : a_look 175 776 = some (.iconst 2, 0, 0, 0) := by decide +kernel
theorem L_175_777 : a_look 175 777 = some (.iadd, 0, 0, 0) := by decide +kernel
theorem L_175_778 : a_look 175 778 = some (.iaload, 0, 0, 0) := by decide +kernel
theorem L_175_779 : a_look 175 779 = some (.invokevirtual 102, 161, 3, 3015) := by decide +kernel
theorem L_175_782 : a_look 175 782 = some (.if_icmp .eq 305, 1087, 0, 0) := by decide +kernel
theorem L_175_785 : a_look 175 785 = some (.iconst 0, 0, 0, 0) := by decide +kernel
theorem L_175_786 : a_look 175 786 = some (.ireturn, 0, 0, 0) := by decide +kernel
theorem L_175_787 : a_look 175 787 = some (.aload_n 1, 0, 0, 0) := by decide +kernel
theorem L_175_788 : a_look 175 788 = some (.aload_n 0, 0, 0, 0) := by decide +kernel
theorem L_175_789 : a_look 175 789 = some (.iload_n 3, 0, 0, 0) := by decide +kernel
theorem L_175_790 : a_look 175 790 = some (.iconst 1, 0, 0, 0) := by decide +kernel
theorem L_175_791 : a_look 175 791 = some (.iadd, 0, 0, 0) := by decide +kernel
theorem L_175_792 : a_look 175 792 = some (.iaload, 0, 0, 0) := by decide +kernel
theorem L_175_793 : a_look 175 793 = some (.aload_n 0, 0, 0, 0) := by decide +kernel
theorem L_175_794 : a_look 175 794 = some (.iload_n 3, 0, 0, 0) := by decide +kernel
theorem L_175_795 : a_look 175 795 = some (.iconst 2, 0, 0, 0) := by decide +kernel
theorem L_175_796 : a_look 175 796 = some (.iadd, 0, 0, 0) := by decide +kernel
theorem L_175_797 : a_look 175 797 = some (.iaload, 0, 0, 0) := by decide +kernel
theorem L_175_798 : a_look 175 798 = some (.aload_n 0, 0, 0, 0) := by decide +kernel
theorem L_175_799 : a_look 175 799 = some (.iload_n 3, 0, 0, 0) := by decide +kernel
theorem L_175_800 : a_look 175 800 = some (.iconst 3, 0, 0, 0) := by decide +kernel
theorem L_175_801 : a_look 175 801 = some (.iadd, 0, 0, 0) := by decide +kernel
theorem L_175_802 : a_look 175 802 = some (.iaload, 0, 0, 0) := by decide +kernel
theorem L_175_803 : a_look 175 803 = some (.invokevirtual 103, 81, 4, 3023) := by decide +kernel
theorem L_175_806 : a_look 175 806 = some (.aload_n 2, 0, 0, 0) := by decide +kernel
theorem L_175_807 : a_look 175 807 = some (.aload_n 0, 0, 0, 0) := by decide +kernel
theorem L_175_808 : a_look 175 808 = some (.iload_n 3, 0, 0, 0) := by decide +kernel
theorem L_175_809 : a_look 175 809 = some (.iconst 1, 0, 0, 0) := by decide +kernel
theorem L_175_810 : a_look 175 810 = some (.iadd, 0, 0, 0) := by decide +kernel
theorem L_175_811 : a_look 175 811 = some (.iaload, 0, 0, 0) := by decide +kernel
theorem L_175_812 : a_look 175 812 = some (.aload_n 0, 0, 0, 0) := by decide +kernel
theorem L_175_813 : a_look 175 813 = some (.iload_n 3, 0, 0, 0) := by decide +kernel
theorem L_175_814 : a_look 175 814 = some (.iconst 2, 0, 0, 0) := by decide +kernel
theorem L_175_815 : a_look 175 815 = some (.iadd, 0, 0, 0) := by decide +kernel
theorem L_175_816 : a_look 175 816 = some (.iaload, 0, 0, 0) := by decide +kernel
theorem L_175_817 : a_look 175 817 = some (.aload_n 0, 0, 0, 0) := by decide +kernel
theorem L_175_818 : a_look 175 818 = some (.iload_n 3, 0, 0, 0) := by decide +kernel
theorem L_175_819 : a_look 175 819 = some (.iconst 3, 0, 0, 0) := by decide +kernel
theorem L_175_820 : a_look 175 820 = some (.iadd, 0, 0, 0) := by decide +kernel
theorem L_175_821 : a_look 175 821 = some (.iaload, 0, 0, 0) := by decide +kernel
theorem L_175_822 : a_look 175 822 = some (.invokevirtual 106, 162, 4, 3105) := by decide +kernel
theorem L_175_825 : a_look 175 825 = some (.if_icmp .eq 262, 1087, 0, 0) := by decide +kernel
theorem L_175_828 : a_look 175 828 = some (.iconst 0, 0, 0, 0) := by decide +kernel
theorem L_175_829 : a_look 175 829 = some (.ireturn, 0, 0, 0) := by decide +kernel
theorem L_175_830 : a_look 175 830 = some (.aload_n 1, 0, 0, 0) := by decide +kernel
theorem L_175_831 : a_look 175 831 = some (.aload_n 0, 0, 0, 0) := by decide +kernel
theorem L_175_832 : a_look 175 832 = some (.iload_n 3, 0, 0, 0) := by decide +kernel
theorem L_175_833 : a_look 175 833 = some (.iconst 1, 0, 0, 0) := by decide +kernel
theorem L_175_834 : a_look 175 834 = some (.iadd, 0, 0, 0) := by decide +kernel
theorem L_175_835 : a_look 175 835 = some (.iaload, 0, 0, 0) := by decide +kernel
theorem L_175_836 : a_look 175 836 = some (.aload_n 0, 0, 0, 0) := by decide +kernel
theorem L_175_837 : a_look 175 837 = some (.iload_n 3, 0, 0, 0) := by decide +kernel
theorem L_175_838 : a_look 175 838 = some (.iconst 2, 0, 0, 0) := by decide +kernel
theorem L_175_839 : a_look 175 839 = some (.iadd, 0, 0, 0) := by decide +kernel
theorem L_175_840 : a_look 175 840 = some (.iaload, 0, 0, 0) := by decide +kernel
theorem L_175_841 : a_look 175 841 = some (.invokevirtual 107, 82, 3, 3109) := by decide +kernel
theorem L_175_844 : a_look 175 844 = some (.aload_n 2, 0, 0, 0) := by decide +kernel
theorem L_175_845 : a_look 175 845 = some (.aload_n 0, 0, 0, 0) := by decide +kernel
theorem L_175_846 : a_look 175 846 = some (.iload_n 3, 0, 0, 0) := by decide +kernel
theorem L_175_847 : a_look 175 847 = some (.iconst 1, 0, 0, 0) := by decide +kernel
theorem L_175_848 : a_look 175 848 = some (.iadd, 0, 0, 0) := by decide +kernel
theorem L_175_849 : a_look 175 849 = some (.iaload, 0, 0, 0) := by decide +kernel
theorem L_175_850 : a_look 175 850 = some (.aload_n 0, 0, 0, 0) := by decide +kernel
theorem L_175_851 : a_look 175 851 = some (.iload_n 3, 0, 0, 0) := by decide +kernel
theorem L_175_852 : a_look 175 852 = some (.iconst 2, 0, 0, 0) := by decide +kernel
theorem L_175_853 : a_look 175 853 = some (.iadd, 0, 0, 0) := by decide +kernel
theorem L_175_854 : a_look 175 854 = some (.iaload, 0, 0, 0) := by decide +kernel
theorem L_175_855 : a_look 175 855 = some (.invokevirtual 110, 163, 3, 3114) := by decide +kernel
theorem L_175_858 : a_look 175 858 = some (.if_icmp .eq 229, 1087, 0, 0) := by decide +kernel
theorem L_175_861 : a_look 175 861 = some (.iconst 0, 0, 0, 0) := by decide +kernel
theorem L_175_862 : a_look 175 862 = some (.ireturn, 0, 0, 0) := by decide +kernel
theorem L_175_863 : a_look 175 863 = some (.aload_n 1, 0, 0, 0) := by decide +kernel
theorem L_175_864 : a_look 175 864 = some (.aload_n 0, 0, 0, 0) := by decide +kernel
theorem L_175_865 : a_look 175 865 = some (.iload_n 3, 0, 0, 0) := by decide +kernel
theorem L_175_866 : a_look 175 866 = some (.iconst 1, 0, 0, 0) := by decide +kernel
theorem L_175_867 : a_look 175 867 = some (.iadd, 0, 0, 0) := by decide +kernel
theorem L_175_868 : a_look 175 868 = some (.iaload, 0, 0, 0) := by decide +kernel
theorem L_175_869 : a_look 175 869 = some (.invokevirtual 111, 83, 2, 3118) := by decide +kernel
theorem L_175_872 : a_look 175 872 = some (.aload_n 2, 0, 0, 0) := by decide +kernel
theorem L_175_873 : a_look 175 873 = some (.aload_n 0, 0, 0, 0) := by decide +kernel
theorem L_175_874 : a_look 175 874 = some (.iload_n 3, 0, 0, 0) := by decide +kernel
theorem L_175_875 : a_look 175 875 = some (.iconst 1, 0, 0, 0) := by decide +kernel
theorem L_175_876 : a_look 175 876 = some (.iadd, 0, 0, 0) := by decide +kernel
theorem L_175_877 : a_look 175 877 = some (.iaload, 0, 0, 0) := by decide +kernel
theorem L_175_878 : a_look 175 878 = some (.invokevirtual 114, 165, 2, 3210) := by decide +kernel
theorem L_175_881 : a_look 175 881 = some (.if_icmp .eq 206, 1087, 0, 0) := by decide +kernel
theorem L_175_884 : a_look 175 884 = some (.iconst 0, 0, 0, 0) := by decide +kernel
theorem L_175_885 : a_look 175 885 = some (.ireturn, 0, 0, 0) := by decide +kernel
theorem L_175_886 : a_look 175 886 = some (.aload_n 1, 0, 0, 0) := by decide +kernel
theorem L_175_887 : a_look 175 887 = some (.aload_n 0, 0, 0, 0) := by decide +kernel
theorem L_175_888 : a_look 175 888 = some (.iload_n 3, 0, 0, 0) := by decide +kernel
theorem L_175_889 : a_look 175 889 = some (.iconst 1, 0, 0, 0) := by decide +kernel
theorem L_175_890 : a_look 175 890 = some (.iadd, 0, 0, 0) := by decide +kernel
theorem L_175_891 : a_look 175 891 = some (.iaload, 0, 0, 0) := by decide +kernel
theorem L_175_892 : a_look 175 892 = some (.invokevirtual 115, 84, 2, 3218) := by decide +kernel
theorem L_175_895 : a_look 175 895 = some (.aload_n 2, 0, 0, 0) := by decide +kernel
theorem L_175_896 : a_look 175 896 = some (.aload_n 0, 0, 0, 0) := by decide +kernel
theorem L_175_897 : a_look 175 897 = some (.iload_n 3, 0, 0, 0) := by decide +kernel
theorem L_175_898 : a_look 175 898 = some (.iconst 1, 0, 0, 0) := by decide +kernel
theorem L_175_899 : a_look 175 899 = some (.iadd, 0, 0, 0) := by decide +kernel
theorem L_175_900 : a_look 175 900 = some (.iaload, 0, 0, 0) := by decide +kernel
theorem L_175_901 : a_look 175 901 = some (.invokevirtual 118, 166, 2, 3223) := by decide +kernel
theorem L_175_904 : a_look 175 904 = some (.if_icmp .eq 183, 1087, 0, 0) := by decide +kernel
theorem L_175_907 : a_look 175 907 = some (.iconst 0, 0, 0, 0) := by decide +kernel
theorem L_175_908 : a_look 175 908 = some (.ireturn, 0, 0, 0) := by decide +kernel
theorem L_175_909 : a_look 175 909 = some (.aload_n 1, 0, 0, 0) := by decide +kernel
theorem L_175_910 : a_look 175 910 = some (.aload_n 0, 0, 0, 0) := by decide +kernel
theorem L_175_911 : a_look 175 911 = some (.iload_n 3, 0, 0, 0) := by decide +kernel
theorem L_175_912 : a_look 175 912 = some (.iconst 1, 0, 0, 0) := by decide +kernel
theorem L_175_913 : a_look 175 913 = some (.iadd, 0, 0, 0) := by decide +kernel
theorem L_175_914 : a_look 175 914 = some (.iaload, 0, 0, 0) := by decide +kernel
theorem L_175_915 : a_look 175 915 = some (.invokevirtual 119, 85, 2, 3303) := by decide +kernel
theorem L_175_918 : a_look 175 918 = some (.aload_n 2, 0, 0, 0) := by decide +kernel
theorem L_175_919 : a_look 175 919 = some (.aload_n 0, 0, 0, 0) := by decide +kernel
theorem L_175_920 : a_look 175 920 = some (.iload_n 3, 0, 0, 0) := by decide +kernel
theorem L_175_921 : a_look 175 921 = some (.iconst 1, 0, 0, 0) := by decide +kernel
theorem L_175_922 : a_look 175 922 = some (.iadd, 0, 0, 0) := by decide +kernel
theorem L_175_923 : a_look 175 923 = some (.iaload, 0, 0, 0) := by decide +kernel
theorem L_175_924 : a_look 175 924 = some (.invokevirtual 122, 169, 2, 3320) := by decide +kernel
theorem L_175_927 : a_look 175 927 = some (.if_icmp .eq 160, 1087, 0, 0) := by decide +kernel
theorem L_175_930 : a_look 175 930 = some (.iconst 0, 0, 0, 0) := by decide +kernel
theorem L_175_931 : a_look 175 931 = some (.ireturn, 0, 0, 0) := by decide +kernel
theorem L_175_932 : a_look 175 932 = some (.aload_n 1, 0, 0, 0) := by decide +kernel
theorem L_175_933 : a_look 175 933 = some (.aload_n 0, 0, 0, 0) := by decide +kernel
theorem L_175_934 : a_look 175 934 = some (.iload_n 3, 0, 0, 0) := by decide +kernel
theorem L_175_935 : a_look 175 935 = some (.iconst 1, 0, 0, 0) := by decide +kernel
theorem L_175_936 : a_look 175 936 = some (.iadd, 0, 0, 0) := by decide +kernel
theorem L_175_937 : a_look 175 937 = some (.iaload, 0, 0, 0) := by decide +kernel
theorem L_175_938 : a_look 175 938 = some (.aload_n 0, 0, 0, 0) := by decide +kernel
theorem L_175_939 : a_look 175 939 = some (.iload_n 3, 0, 0, 0) := by decide +kernel
theorem L_175_940 : a_look 175 940 = some (.iconst 2, 0, 0, 0) := by decide +kernel
theorem L_175_941 : a_look 175 941 = some (.iadd, 0, 0, 0) := by decide +kernel
theorem L_175_942 : a_look 175 942 = some (.iaload, 0, 0, 0) := by decide +kernel
theorem L_175_943 : a_look 175 943 = some (.invokevirtual 123, 86, 3, 3408) := by decide +kernel
theorem L_175_946 : a_look 175 946 = some (.aload_n 2, 0, 0, 0) := by decide +kernel
theorem L_175_947 : a_look 175 947 = some (.aload_n 0, 0, 0, 0) := by decide +kernel
theorem L_175_948 : a_look 175 948 = some (.iload_n 3, 0, 0, 0) := by decide +kernel
theorem L_175_949 : a_look 175 949 = some (.iconst 1, 0, 0, 0) := by decide +kernel
theorem L_175_950 : a_look 175 950 = some (.iadd, 0, 0, 0) := by decide +kernel
theorem L_175_951 : a_look 175 951 = some (.iaload, 0, 0, 0) := by decide +kernel
theorem L_175_952 : a_look 175 952 = some (.aload_n 0, 0, 0, 0) := by decide +kernel
theorem L_175_953 : a_look 175 953 = some (.iload_n 3, 0, 0, 0) := by decide +kernel
theorem L_175_954 : a_look 175 954 = some (.iconst 2, 0, 0, 0) := by decide +kernel
theorem L_175_955 : a_look 175 955 = some (.iadd, 0, 0, 0) := by decide +kernel
theorem L_175_956 : a_look 175 956 = some (.iaload, 0, 0, 0) := by decide +kernel
theorem L_175_957 : a_look 175 957 = some (.invokevirtual 126, 170, 3, 3412) := by decide +kernel
theorem L_175_960 : a_look 175 960 = some (.if_icmp .eq 127, 1087, 0, 0) := by decide +kernel
theorem L_175_963 : a_look 175 963 = some (.iconst 0, 0, 0, 0) := by decide +kernel
theorem L_175_964 : a_look 175 964 = some (.ireturn, 0, 0, 0) := by decide +kernel
theorem L_175_965 : a_look 175 965 = some (.aload_n 1, 0, 0, 0) := by decide +kernel
theorem L_175_966 : a_look 175 966 = some (.aload_n 0, 0, 0, 0) := by decide +kernel
theorem L_175_967 : a_look 175 967 = some (.iload_n 3, 0, 0, 0) := by decide +kernel
theorem L_175_968 : a_look 175 968 = some (.iconst 1, 0, 0, 0) := by decide +kernel
theorem L_175_969 : a_look 175 969 = some (.iadd, 0, 0, 0) := by decide +kernel
theorem L_175_970 : a_look 175 970 = some (.iaload, 0, 0, 0) := by decide +kernel
theorem L_175_971 : a_look 175 971 = some (.aload_n 0, 0, 0, 0) := by decide +kernel
theorem L_175_972 : a_look 175 972 = some (.iload_n 3, 0, 0, 0) := by decide +kernel
theorem L_175_973 : a_look 175 973 = some (.iconst 2, 0, 0, 0) := by decide +kernel
theorem L_175_974 : a_look 175 974 = some (.iadd, 0, 0, 0) := by decide +kernel
theorem L_175_975 : a_look 175 975 = some (.iaload, 0, 0, 0) := by decide +kernel
theorem L_175_976 : a_look 175 976 = some (.aload_n 0, 0, 0, 0) := by decide +kernel
theorem L_175_977 : a_look 175 977 = some (.iload_n 3, 0, 0, 0) := by decide +kernel
theorem L_175_978 : a_look 175 978 = some (.iconst 3, 0, 0, 0) := by decide +kernel
theorem L_175_979 : a_look 175 979 = some (.iadd, 0, 0, 0) := by decide +kernel
theorem L_175_980 : a_look 175 980 = some (.iaload, 0, 0, 0) := by decide +kernel
theorem L_175_981 : a_look 175 981 = some (.aload_n 0, 0, 0, 0) := by decide +kernel
theorem L_175_982 : a_look 175 982 = some (.iload_n 3, 0, 0, 0) := by decide +kernel
theorem L_175_983 : a_look 175 983 = some (.iconst 4, 0, 0, 0) := by decide +kernel
theorem L_175_984 : a_look 175 984 = some (.iadd, 0, 0, 0) := by decide +kernel
theorem L_175_985 : a_look 175 985 = some (.iaload, 0, 0, 0) := by decide +kernel
theorem L_175_986 : a_look 175 986 = some (.invokevirtual 127, 87, 5, 3416) := by decide +kernel
theorem L_175_989 : a_look 175 989 = some (.aload_n 2, 0, 0, 0) := by decide +kernel
theorem L_175_990 : a_look 175 990 = some (.aload_n 0, 0, 0, 0) := by decide +kernel
theorem L_175_991 : a_look 175 991 = some (.iload_n 3, 0, 0, 0) := by decide +kernel
theorem L_175_992 : a_look 175 992 = some (.iconst 1, 0, 0, 0) := by decide +kernel
theorem L_175_993 : a_look 175 993 = some (.iadd, 0, 0, 0) := by decide +kernel
theorem L_175_994 : a_look 175 994 = some (.iaload, 0, 0, 0) := by decide +kernel
theorem L_175_995 : a_look 175 995 = some (.aload_n 0, 0, 0, 0) := by decide +kernel
theorem L_175_996 : a_look 175 996 = some (.iload_n 3, 0, 0, 0) := by decide +kernel
theorem L_175_997 : a_look 175 997 = some (.iconst 2, 0, 0, 0) := by decide +kernel
theorem L_175_998 : a_look 175 998 = some (.iadd, 0, 0, 0) := by decide +kernel
theorem L_175_999 : a_look 175 999 = some (.iaload, 0, 0, 0) := by decide +kernel
theorem L_175_1000 : a_look 175 1000 = some (.aload_n 0, 0, 0, 0) := by decide +kernel
theorem L_175_1001 : a_look 175 1001 = some (.iload_n 3, 0, 0, 0) := by decide +kernel
theorem L_175_1002 : a_look 175 1002 = some (.iconst 3, 0, 0, 0) := by decide +kernel
theorem L_175_1003 : a_look 175 1003 = some (.iadd, 0, 0, 0) := by decide +kernel
theorem L_175_1004 : a_look 175 1004 = some (.iaload, 0, 0, 0) := by decide +kernel
theorem L_175_1005 : a_look 175 1005 = some (.aload_n 0, 0, 0, 0) := by decide +kernel
theorem L_175_1006 : a_look 175 1006 = some (.iload_n 3, 0, 0, 0) := by decide +kernel
theorem L_175_1007 : a_look 175 1007 = some (.iconst 4, 0, 0, 0) := by decide +kernel
theorem L_175_1008 : a_look 175 1008 = some (.iadd, 0, 0, 0) := by decide +kernel
theorem L_175_1009 : a_look 175 1009 = some (.iaload, 0, 0, 0) := by decide +kernel
theorem L_175_1010 : a_look 175 1010 = some (.invokevirtual 130, 171, 5, 3422) := by decide +kernel
theorem L_175_1013 : a_look 175 1013 = some (.if_icmp .eq 74, 1087, 0, 0) := by decide +kernel
theorem L_175_1016 : a_look 175 1016 = some (.iconst 0, 0, 0, 0) := by decide +kernel
theorem L_175_1017 : a_look 175 1017 = some (.ireturn, 0, 0, 0) := by decide +kernel
theorem L_175_1018 : a_look 175 1018 = some (.aload_n 1, 0, 0, 0) := by decide +kernel
theorem L_175_1019 : a_look 175 1019 = some (.aload_n 0, 0, 0, 0) := by decide +kernel
theorem L_175_1020 : a_look 175 1020 = some (.iload_n 3, 0, 0, 0) := by decide +kernel
theorem L_175_1021 : a_look 175 1021 = some (.iconst 1, 0, 0, 0) := by decide +kernel
theorem L_175_1022 : a_look 175 1022 = some (.iadd, 0, 0, 0) := by decide +kernel
theorem L_175_1023 : a_look 175 1023 = some (.iaload, 0, 0, 0) := by decide +kernel
theorem L_175_1024 : a_look 175 1024 = some (.invokevirtual 131, 88, 2, 3502) := by decide +kernel
theorem L_175_1027 : a_look 175 1027 = some (.aload_n 2, 0, 0, 0) := by decide +kernel
theorem L_175_1028 : a_look 175 1028 = some (.aload_n 0, 0, 0, 0) := by decide +kernel
theorem L_175_1029 : a_look 175 1029 = some (.iload_n 3, 0, 0, 0) := by decide +kernel
theorem L_175_1030 : a_look 175 1030 = some (.iconst 1, 0, 0, 0) := by decide +kernel
theorem L_175_1031 : a_look 175 1031 = some (.iadd, 0, 0, 0) := by decide +kernel
theorem L_175_1032 : a_look 175 1032 = some (.iaload, 0, 0, 0) := by decide +kernel
theorem L_175_1033 : a_look 175 1033 = some (.invokevirtual 134, 172, 2, 3507) := by decide +kernel
theorem L_175_1036 : a_look 175 1036 = some (.if_icmp .eq 51, 1087, 0, 0) := by decide +kernel
theorem L_175_1039 : a_look 175 1039 = some (.iconst 0, 0, 0, 0) := by decide +kernel
theorem L_175_1040 : a_look 175 1040 = some (.ireturn, 0, 0, 0) := by decide +kernel
theorem L_175_1041 : a_look 175 1041 = some (.aload_n 1, 0, 0, 0) := by decide +kernel
theorem L_175_1042 : a_look 175 1042 = some (.aload_n 0, 0, 0, 0) := by decide +kernel
theorem L_175_1043 : a_look 175 1043 = some (.iload_n 3, 0, 0, 0) := by decide +kernel
theorem L_175_1044 : a_look 175 1044 = some (.iconst 1, 0, 0, 0) := by decide +kernel
theorem L_175_1045 : a_look 175 1045 = some (.iadd, 0, 0, 0) := by decide +kernel
theorem L_175_1046 : a_look 175 1046 = some (.iaload, 0, 0, 0) := by decide +kernel
theorem L_175_1047 : a_look 175 1047 = some (.aload_n 0, 0, 0, 0) := by decide +kernel
theorem L_175_1048 : a_look 175 1048 = some (.iload_n 3, 0, 0, 0) := by decide +kernel
theorem L_175_1049 : a_look 175 1049 = some (.iconst 2, 0, 0, 0) := by decide +kernel
theorem L_175_1050 : a_look 175 1050 = some (.iadd, 0, 0, 0) := by decide +kernel
theorem L_175_1051 : a_look 175 1051 = some (.iaload, 0, 0, 0) := by decide +kernel
theorem L_175_1052 : a_look 175 1052 = some (.invokevirtual 135, 89, 3, 3511) := by decide +kernel
theorem L_175_1055 : a_look 175 1055 = some (.aload_n 2, 0, 0, 0) := by decide +kernel
theorem L_175_1056 : a_look 175 1056 = some (.aload_n 0, 0, 0, 0) := by decide +kernel
theorem L_175_1057 : a_look 175 1057 = some (.iload_n 3, 0, 0, 0) := by decide +kernel
theorem L_175_1058 : a_look 175 1058 = some (.iconst 1, 0, 0, 0) := by decide +kernel
theorem L_175_1059 : a_look 175 1059 = some (.iadd, 0, 0, 0) := by decide +kernel
theorem L_175_1060 : a_look 175 1060 = some (.iaload, 0, 0, 0) := by decide +kernel
theorem L_175_1061 : a_look 175 1061 = some (.aload_n 0, 0, 0, 0) := by decide +kernel
theorem L_175_1062 : a_look 175 1062 = some (.iload_n 3, 0, 0, 0) := by decide +kernel
theorem L_175_1063 : a_look 175 1063 = some (.iconst 2, 0, 0, 0) := by decide +kernel
theorem L_175_1064 : a_look 175 1064 = some (.iadd, 0, 0, 0) := by decide +kernel
theorem L_175_1065 : a_look 175 1065 = some (.iaload, 0, 0, 0) := by decide +kernel
theorem L_175_1066 : a_look 175 1066 = some (.invokevirtual 138, 173, 3, 3517) := by decide +kernel
theorem L_175_1069 : a_look 175 1069 = some (.if_icmp .eq 18, 1087, 0, 0) := by decide +kernel
theorem L_175_1072 : a_look 175 1072 = some (.iconst 0, 0, 0, 0) := by decide +kernel
theorem L_175_1073 : a_look 175 1073 = some (.ireturn, 0, 0, 0) := by decide +kernel
theorem L_175_1074 : a_look 175 1074 = some (.aload_n 1, 0, 0, 0) := by decide +kernel
theorem L_175_1075 : a_look 175 1075 = some (.invokevirtual 139, 90, 1, 3605) := by decide +kernel
theorem L_175_1078 : a_look 175 1078 = some (.aload_n 2, 0, 0, 0) := by decide +kernel
theorem L_175_1079 : a_look 175 1079 = some (.invokevirtual 142, 174, 1, 3610) := by decide +kernel
theorem L_175_1082 : a_look 175 1082 = some (.if_icmp .eq 5, 1087, 0, 0) := by decide +kernel
theorem L_175_1085 : a_look 175 1085 = some (.iconst 0, 0, 0, 0) := by decide +kernel
theorem L_175_1086 : a_look 175 1086 = some (.ireturn, 0, 0, 0) := by decide +kernel
theorem L_175_1087 : a_look 175 1087 = some (.iinc 3 7, 0, 0, 0) := by decide +kernel
theorem L_175_1090 : a_look 175 1090 = some (.goto (-1072), 18, 0, 0) := by decide +kernel
theorem L_175_1093 : a_look 175 1093 = some (.iconst 1, 0, 0, 0) := by decide +kernel
theorem L_175_1094 : a_look 175 1094 = some (.ireturn, 0, 0, 0) := by decide +kernel
def H_18_23_4 (b : Nat) (x2 x3 : Int32) (m : aM) (Q : Int32 → aM → Prop) : Prop := Rg 18 4 [some (.inr (3, b)), some (.inr (23, b)), some (.inl x2), some (.inl x3)] [] m (qI Q)
/-- Devices.sumOf, the loop at 4 -/
theorem T_18_23_4 {b : Nat} {x2 x3 : Int32} {m : aM} {Q : Int32 → aM → Prop} (h :
   if x3 < (m 3 b 10) then
    (if x3 < (nI 16) then
     (a_in x3 16 = true ∧
      H_18_23_4 b (x2 + (m 23 b x3.toNatClampNeg)) (x3 + 1) m Q)
    else
     Q x2 m)
   else
    Q x2 m
  ) : H_18_23_4 b x2 x3 m Q := by
  show Rg 18 4 [some (.inr (3, b)), some (.inr (23, b)), some (.inl x2), some (.inl x3)] [] m (qI Q)
  refine r_iload_n L_18_4 rfl ?_
  refine r_aload_n L_18_5 rfl ?_
  refine r_geti L_18_6 rfl rfl ?_
  refine r_icmpn L_18_9 cc_ge (i_mono h (fun c1 h => ?_) (fun c1 h => ?_))
  · refine r_iload_n L_18_12 rfl ?_
    refine r_aload_n L_18_13 rfl ?_
    refine r_alen (N := 16) L_18_14 (by decide +kernel) rfl ?_
    refine r_icmpn L_18_15 cc_ge (i_mono h (fun c2 h => ?_) (fun c2 h => ?_))
    · refine r_iload_n L_18_18 rfl ?_
      refine r_aload_n L_18_19 rfl ?_
      refine r_iload_n L_18_20 rfl ?_
      obtain ⟨g3, h⟩ := h
      refine r_iald (N := 16) (j := x3.toNatClampNeg) L_18_21 (by decide +kernel) rfl g3 rfl ?_
      refine r_iadd L_18_22 ?_
      refine r_istore_n (ls1 := [some (.inr (3, b)), some (.inr (23, b)), some (.inl (x2 + (m 23 b x3.toNatClampNeg))), some (.inl x3)]) L_18_23 (Nat.le_of_ble_eq_true rfl) rfl ?_
      refine r_iinc (ls1 := [some (.inr (3, b)), some (.inr (23, b)), some (.inl (x2 + (m 23 b x3.toNatClampNeg))), some (.inl (x3 + 1))]) L_18_24 kI_1 rfl (Nat.le_of_ble_eq_true rfl) rfl ?_
      refine r_goto L_18_27 ?_
      exact h
    · refine r_iload_n L_18_30 rfl ?_
      exact r_iret L_18_31 RT_18 h
  · refine r_iload_n L_18_30 rfl ?_
    exact r_iret L_18_31 RT_18 h
/-- Devices.sumOf -/
theorem T_18_23 {b : Nat} {m : aM} {Q : Int32 → aM → Prop} (h :
   H_18_23_4 b 0 0 m Q
  ) : Mi 18 [.inr (3, b), .inr (23, b)] m Q := by
  refine Mi_in ML_18 (show Rg 18 0 [some (.inr (3, b)), some (.inr (23, b)), none, none] [] m (qI Q) from ?_)
  refine r_iconst L_18_0 kI_0 ?_
  refine r_istore_n (ls1 := [some (.inr (3, b)), some (.inr (23, b)), some (.inl 0), none]) L_18_1 (Nat.le_of_ble_eq_true rfl) rfl ?_
  refine r_iconst L_18_2 kI_0 ?_
  refine r_istore_n (ls1 := [some (.inr (3, b)), some (.inr (23, b)), some (.inl 0), some (.inl 0)]) L_18_3 (Nat.le_of_ble_eq_true rfl) rfl ?_
  exact h
def H_18_24_4 (b : Nat) (x2 x3 : Int32) (m : aM) (Q : Int32 → aM → Prop) : Prop := Rg 18 4 [some (.inr (3, b)), some (.inr (24, b)), some (.inl x2), some (.inl x3)] [] m (qI Q)
/-- Devices.sumOf, the loop at 4 -/
theorem T_18_24_4 {b : Nat} {x2 x3 : Int32} {m : aM} {Q : Int32 → aM → Prop} (h :
   if x3 < (m 3 b 10) then
    (if x3 < (nI 16) then
     (a_in x3 16 = true ∧
      H_18_24_4 b (x2 + (m 24 b x3.toNatClampNeg)) (x3 + 1) m Q)
    else
     Q x2 m)
   else
    Q x2 m
  ) : H_18_24_4 b x2 x3 m Q := by
  show Rg 18 4 [some (.inr (3, b)), some (.inr (24, b)), some (.inl x2), some (.inl x3)] [] m (qI Q)
  refine r_iload_n L_18_4 rfl ?_
  refine r_aload_n L_18_5 rfl ?_
  refine r_geti L_18_6 rfl rfl ?_
  refine r_icmpn L_18_9 cc_ge (i_mono h (fun c1 h => ?_) (fun c1 h => ?_))
  · refine r_iload_n L_18_12 rfl ?_
    refine r_aload_n L_18_13 rfl ?_
    refine r_alen (N := 16) L_18_14 (by decide +kernel) rfl ?_
    refine r_icmpn L_18_15 cc_ge (i_mono h (fun c2 h => ?_) (fun c2 h => ?_))
    · refine r_iload_n L_18_18 rfl ?_
      refine r_aload_n L_18_19 rfl ?_
      refine r_iload_n L_18_20 rfl ?_
      obtain ⟨g3, h⟩ := h
      refine r_iald (N := 16) (j := x3.toNatClampNeg) L_18_21 (by decide +kernel) rfl g3 rfl ?_
      refine r_iadd L_18_22 ?_
      refine r_istore_n (ls1 := [some (.inr (3, b)), some (.inr (24, b)), some (.inl (x2 + (m 24 b x3.toNatClampNeg))), some (.inl x3)]) L_18_23 (Nat.le_of_ble_eq_true rfl) rfl ?_
      refine r_iinc (ls1 := [some (.inr (3, b)), some (.inr (24, b)), some (.inl (x2 + (m 24 b x3.toNatClampNeg))), some (.inl (x3 + 1))]) L_18_24 kI_1 rfl (Nat.le_of_ble_eq_true rfl) rfl ?_
      refine r_goto L_18_27 ?_
      exact h
    · refine r_iload_n L_18_30 rfl ?_
      exact r_iret L_18_31 RT_18 h
  · refine r_iload_n L_18_30 rfl ?_
    exact r_iret L_18_31 RT_18 h
/-- Devices.sumOf -/
theorem T_18_24 {b : Nat} {m : aM} {Q : Int32 → aM → Prop} (h :
   H_18_24_4 b 0 0 m Q
  ) : Mi 18 [.inr (3, b), .inr (24, b)] m Q := by
  refine Mi_in ML_18 (show Rg 18 0 [some (.inr (3, b)), some (.inr (24, b)), none, none] [] m (qI Q) from ?_)
  refine r_iconst L_18_0 kI_0 ?_
  refine r_istore_n (ls1 := [some (.inr (3, b)), some (.inr (24, b)), some (.inl 0), none]) L_18_1 (Nat.le_of_ble_eq_true rfl) rfl ?_
  refine r_iconst L_18_2 kI_0 ?_
  refine r_istore_n (ls1 := [some (.inr (3, b)), some (.inr (24, b)), some (.inl 0), some (.inl 0)]) L_18_3 (Nat.le_of_ble_eq_true rfl) rfl ?_
  exact h
def H_18_25_4 (b : Nat) (x2 x3 : Int32) (m : aM) (Q : Int32 → aM → Prop) : Prop := Rg 18 4 [some (.inr (3, b)), some (.inr (25, b)), some (.inl x2), some (.inl x3)] [] m (qI Q)
/-- Devices.sumOf, the loop at 4 -/
theorem T_18_25_4 {b : Nat} {x2 x3 : Int32} {m : aM} {Q : Int32 → aM → Prop} (h :
   if x3 < (m 3 b 10) then
    (if x3 < (nI 16) then
     (a_in x3 16 = true ∧
      H_18_25_4 b (x2 + (m 25 b x3.toNatClampNeg)) (x3 + 1) m Q)
    else
     Q x2 m)
   else
    Q x2 m
  ) : H_18_25_4 b x2 x3 m Q := by
  show Rg 18 4 [some (.inr (3, b)), some (.inr (25, b)), some (.inl x2), some (.inl x3)] [] m (qI Q)
  refine r_iload_n L_18_4 rfl ?_
  refine r_aload_n L_18_5 rfl ?_
  refine r_geti L_18_6 rfl rfl ?_
  refine r_icmpn L_18_9 cc_ge (i_mono h (fun c1 h => ?_) (fun c1 h => ?_))
  · refine r_iload_n L_18_12 rfl ?_
    refine r_aload_n L_18_13 rfl ?_
    refine r_alen (N := 16) L_18_14 (by decide +kernel) rfl ?_
    refine r_icmpn L_18_15 cc_ge (i_mono h (fun c2 h => ?_) (fun c2 h => ?_))
    · refine r_iload_n L_18_18 rfl ?_
      refine r_aload_n L_18_19 rfl ?_
      refine r_iload_n L_18_20 rfl ?_
      obtain ⟨g3, h⟩ := h
      refine r_iald (N := 16) (j := x3.toNatClampNeg) L_18_21 (by decide +kernel) rfl g3 rfl ?_
      refine r_iadd L_18_22 ?_
      refine r_istore_n (ls1 := [some (.inr (3, b)), some (.inr (25, b)), some (.inl (x2 + (m 25 b x3.toNatClampNeg))), some (.inl x3)]) L_18_23 (Nat.le_of_ble_eq_true rfl) rfl ?_
      refine r_iinc (ls1 := [some (.inr (3, b)), some (.inr (25, b)), some (.inl (x2 + (m 25 b x3.toNatClampNeg))), some (.inl (x3 + 1))]) L_18_24 kI_1 rfl (Nat.le_of_ble_eq_true rfl) rfl ?_
      refine r_goto L_18_27 ?_
      exact h
    · refine r_iload_n L_18_30 rfl ?_
      exact r_iret L_18_31 RT_18 h
  · refine r_iload_n L_18_30 rfl ?_
    exact r_iret L_18_31 RT_18 h
/-- Devices.sumOf -/
theorem T_18_25 {b : Nat} {m : aM} {Q : Int32 → aM → Prop} (h :
   H_18_25_4 b 0 0 m Q
  ) : Mi 18 [.inr (3, b), .inr (25, b)] m Q := by
  refine Mi_in ML_18 (show Rg 18 0 [some (.inr (3, b)), some (.inr (25, b)), none, none] [] m (qI Q) from ?_)
  refine r_iconst L_18_0 kI_0 ?_
  refine r_istore_n (ls1 := [some (.inr (3, b)), some (.inr (25, b)), some (.inl 0), none]) L_18_1 (Nat.le_of_ble_eq_true rfl) rfl ?_
  refine r_iconst L_18_2 kI_0 ?_
  refine r_istore_n (ls1 := [some (.inr (3, b)), some (.inr (25, b)), some (.inl 0), some (.inl 0)]) L_18_3 (Nat.le_of_ble_eq_true rfl) rfl ?_
  exact h
def H_175_18 (x3 : Int32) (m : aM) (Q : Int32 → aM → Prop) : Prop := Rg 175 18 [some (.inr (46, 0)), some (.inr (27, 0)), some (.inr (34, 0)), some (.inl x3)] [] m (qI Q)
/-- Law.law, the loop at 18 -/
theorem T_175_18 {x3 : Int32} {m : aM} {Q : Int32 → aM → Prop} (h :
   if ((nI (a_ln m 46)) - 7) < x3 then
    Q 1 m
   else
    a_in x3 (a_ln m 46) = true ∧
     if ((m 46 0 x3.toNatClampNeg) &&& 31) = 0 then
      (a_in (x3 + 1) (a_ln m 46) = true ∧
       a_in (x3 + 2) (a_ln m 46) = true ∧
        a_in (x3 + 3) (a_ln m 46) = true ∧
         a_in (x3 + 4) (a_ln m 46) = true ∧
          Mi 60 [.inr (27, 0), .inl (m 46 0 (x3 + 1).toNatClampNeg), .inl (m 46 0 (x3 + 2).toNatClampNeg), .inl (m 46 0 (x3 + 3).toNatClampNeg), .inl (m 46 0 (x3 + 4).toNatClampNeg)] m (fun v9 m8 =>
           a_in (x3 + 1) (a_ln m8 46) = true ∧
            a_in (x3 + 2) (a_ln m8 46) = true ∧
             a_in (x3 + 3) (a_ln m8 46) = true ∧
              a_in (x3 + 4) (a_ln m8 46) = true ∧
               Mi 131 [.inr (34, 0), .inl (m8 46 0 (x3 + 1).toNatClampNeg), .inl (m8 46 0 (x3 + 2).toNatClampNeg), .inl (m8 46 0 (x3 + 3).toNatClampNeg), .inl (m8 46 0 (x3 + 4).toNatClampNeg)] m8 (fun v15 m14 =>
                if v9 = v15 then
                 H_175_18 (x3 + 7) m14 Q
                else
                 Q 0 m14)))
     else
     if ((m 46 0 x3.toNatClampNeg) &&& 31) = 1 then
      (a_in (x3 + 1) (a_ln m 46) = true ∧
       a_in (x3 + 2) (a_ln m 46) = true ∧
        a_in (x3 + 3) (a_ln m 46) = true ∧
         a_in (x3 + 4) (a_ln m 46) = true ∧
          a_in (x3 + 5) (a_ln m 46) = true ∧
           a_in (x3 + 6) (a_ln m 46) = true ∧
            Mi 61 [.inr (27, 0), .inl (m 46 0 (x3 + 1).toNatClampNeg), .inl (m 46 0 (x3 + 2).toNatClampNeg), .inl (m 46 0 (x3 + 3).toNatClampNeg), .inl (m 46 0 (x3 + 4).toNatClampNeg), .inl (m 46 0 (x3 + 5).toNatClampNeg), .inl (m 46 0 (x3 + 6).toNatClampNeg)] m (fun v25 m24 =>
             a_in (x3 + 1) (a_ln m24 46) = true ∧
              a_in (x3 + 2) (a_ln m24 46) = true ∧
               a_in (x3 + 3) (a_ln m24 46) = true ∧
                a_in (x3 + 4) (a_ln m24 46) = true ∧
                 a_in (x3 + 5) (a_ln m24 46) = true ∧
                  a_in (x3 + 6) (a_ln m24 46) = true ∧
                   Mi 132 [.inr (34, 0), .inl (m24 46 0 (x3 + 1).toNatClampNeg), .inl (m24 46 0 (x3 + 2).toNatClampNeg), .inl (m24 46 0 (x3 + 3).toNatClampNeg), .inl (m24 46 0 (x3 + 4).toNatClampNeg), .inl (m24 46 0 (x3 + 5).toNatClampNeg), .inl (m24 46 0 (x3 + 6).toNatClampNeg)] m24 (fun v33 m32 =>
                    if v25 = v33 then
                     H_175_18 (x3 + 7) m32 Q
                    else
                     Q 0 m32)))
     else
     if ((m 46 0 x3.toNatClampNeg) &&& 31) = 2 then
      (a_in (x3 + 1) (a_ln m 46) = true ∧
       a_in (x3 + 2) (a_ln m 46) = true ∧
        a_in (x3 + 3) (a_ln m 46) = true ∧
         Mi 62 [.inr (27, 0), .inl (m 46 0 (x3 + 1).toNatClampNeg), .inl (m 46 0 (x3 + 2).toNatClampNeg), .inl (m 46 0 (x3 + 3).toNatClampNeg)] m (fun v40 m39 =>
          a_in (x3 + 1) (a_ln m39 46) = true ∧
           a_in (x3 + 2) (a_ln m39 46) = true ∧
            a_in (x3 + 3) (a_ln m39 46) = true ∧
             Mi 133 [.inr (34, 0), .inl (m39 46 0 (x3 + 1).toNatClampNeg), .inl (m39 46 0 (x3 + 2).toNatClampNeg), .inl (m39 46 0 (x3 + 3).toNatClampNeg)] m39 (fun v45 m44 =>
              if v40 = v45 then
               H_175_18 (x3 + 7) m44 Q
              else
               Q 0 m44)))
     else
     if ((m 46 0 x3.toNatClampNeg) &&& 31) = 3 then
      (a_in (x3 + 1) (a_ln m 46) = true ∧
       a_in (x3 + 2) (a_ln m 46) = true ∧
        Mi 63 [.inr (27, 0), .inl (m 46 0 (x3 + 1).toNatClampNeg), .inl (m 46 0 (x3 + 2).toNatClampNeg)] m (fun v51 m50 =>
         a_in (x3 + 1) (a_ln m50 46) = true ∧
          a_in (x3 + 2) (a_ln m50 46) = true ∧
           Mi 134 [.inr (34, 0), .inl (m50 46 0 (x3 + 1).toNatClampNeg), .inl (m50 46 0 (x3 + 2).toNatClampNeg)] m50 (fun v55 m54 =>
            if v51 = v55 then
             H_175_18 (x3 + 7) m54 Q
            else
             Q 0 m54)))
     else
     if ((m 46 0 x3.toNatClampNeg) &&& 31) = 4 then
      (a_in (x3 + 1) (a_ln m 46) = true ∧
       Mi 64 [.inr (27, 0), .inl (m 46 0 (x3 + 1).toNatClampNeg)] m (fun v60 m59 =>
        a_in (x3 + 1) (a_ln m59 46) = true ∧
         Mi 136 [.inr (34, 0), .inl (m59 46 0 (x3 + 1).toNatClampNeg)] m59 (fun v63 m62 =>
          if v60 = v63 then
           H_175_18 (x3 + 7) m62 Q
          else
           Q 0 m62)))
     else
     if ((m 46 0 x3.toNatClampNeg) &&& 31) = 5 then
      (a_in (x3 + 1) (a_ln m 46) = true ∧
       Mi 65 [.inr (27, 0), .inl (m 46 0 (x3 + 1).toNatClampNeg)] m (fun v68 m67 =>
        a_in (x3 + 1) (a_ln m67 46) = true ∧
         Mi 137 [.inr (34, 0), .inl (m67 46 0 (x3 + 1).toNatClampNeg)] m67 (fun v71 m70 =>
          if v68 = v71 then
           H_175_18 (x3 + 7) m70 Q
          else
           Q 0 m70)))
     else
     if ((m 46 0 x3.toNatClampNeg) &&& 31) = 6 then
      (a_in (x3 + 1) (a_ln m 46) = true ∧
       Mi 66 [.inr (27, 0), .inl (m 46 0 (x3 + 1).toNatClampNeg)] m (fun v76 m75 =>
        a_in (x3 + 1) (a_ln m75 46) = true ∧
         Mi 138 [.inr (34, 0), .inl (m75 46 0 (x3 + 1).toNatClampNeg)] m75 (fun v79 m78 =>
          if v76 = v79 then
           H_175_18 (x3 + 7) m78 Q
          else
           Q 0 m78)))
     else
     if ((m 46 0 x3.toNatClampNeg) &&& 31) = 7 then
      (a_in (x3 + 1) (a_ln m 46) = true ∧
       a_in (x3 + 2) (a_ln m 46) = true ∧
        a_in (x3 + 3) (a_ln m 46) = true ∧
         Mi 67 [.inr (27, 0), .inl (m 46 0 (x3 + 1).toNatClampNeg), .inl (m 46 0 (x3 + 2).toNatClampNeg), .inl (m 46 0 (x3 + 3).toNatClampNeg)] m (fun v86 m85 =>
          a_in (x3 + 1) (a_ln m85 46) = true ∧
           a_in (x3 + 2) (a_ln m85 46) = true ∧
            a_in (x3 + 3) (a_ln m85 46) = true ∧
             Mi 141 [.inr (34, 0), .inl (m85 46 0 (x3 + 1).toNatClampNeg), .inl (m85 46 0 (x3 + 2).toNatClampNeg), .inl (m85 46 0 (x3 + 3).toNatClampNeg)] m85 (fun v91 m90 =>
              if v86 = v91 then
               H_175_18 (x3 + 7) m90 Q
              else
               Q 0 m90)))
     else
     if ((m 46 0 x3.toNatClampNeg) &&& 31) = 8 then
      (a_in (x3 + 1) (a_ln m 46) = true ∧
       a_in (x3 + 2) (a_ln m 46) = true ∧
        Mi 68 [.inr (27, 0), .inl (m 46 0 (x3 + 1).toNatClampNeg), .inl (m 46 0 (x3 + 2).toNatClampNeg)] m (fun v97 m96 =>
         a_in (x3 + 1) (a_ln m96 46) = true ∧
          a_in (x3 + 2) (a_ln m96 46) = true ∧
           Mi 142 [.inr (34, 0), .inl (m96 46 0 (x3 + 1).toNatClampNeg), .inl (m96 46 0 (x3 + 2).toNatClampNeg)] m96 (fun v101 m100 =>
            if v97 = v101 then
             H_175_18 (x3 + 7) m100 Q
            else
             Q 0 m100)))
     else
     if ((m 46 0 x3.toNatClampNeg) &&& 31) = 9 then
      (a_in (x3 + 1) (a_ln m 46) = true ∧
       Mi 69 [.inr (27, 0), .inl (m 46 0 (x3 + 1).toNatClampNeg)] m (fun v106 m105 =>
        a_in (x3 + 1) (a_ln m105 46) = true ∧
         Mi 143 [.inr (34, 0), .inl (m105 46 0 (x3 + 1).toNatClampNeg)] m105 (fun v109 m108 =>
          if v106 = v109 then
           H_175_18 (x3 + 7) m108 Q
          else
           Q 0 m108)))
     else
     if ((m 46 0 x3.toNatClampNeg) &&& 31) = 10 then
      (a_in (x3 + 1) (a_ln m 46) = true ∧
       Mi 70 [.inr (27, 0), .inl (m 46 0 (x3 + 1).toNatClampNeg)] m (fun v114 m113 =>
        a_in (x3 + 1) (a_ln m113 46) = true ∧
         Mi 144 [.inr (34, 0), .inl (m113 46 0 (x3 + 1).toNatClampNeg)] m113 (fun v117 m116 =>
          if v114 = v117 then
           H_175_18 (x3 + 7) m116 Q
          else
           Q 0 m116)))
     else
     if ((m 46 0 x3.toNatClampNeg) &&& 31) = 11 then
      (a_in (x3 + 1) (a_ln m 46) = true ∧
       Mi 71 [.inr (27, 0), .inl (m 46 0 (x3 + 1).toNatClampNeg)] m (fun v122 m121 =>
        a_in (x3 + 1) (a_ln m121 46) = true ∧
         Mi 145 [.inr (34, 0), .inl (m121 46 0 (x3 + 1).toNatClampNeg)] m121 (fun v125 m124 =>
          if v122 = v125 then
           H_175_18 (x3 + 7) m124 Q
          else
           Q 0 m124)))
     else
     if ((m 46 0 x3.toNatClampNeg) &&& 31) = 12 then
      (Mi 72 [.inr (27, 0)] m (fun v129 m128 =>
       Mi 146 [.inr (34, 0)] m128 (fun v131 m130 =>
        if v129 = v131 then
         H_175_18 (x3 + 7) m130 Q
        else
         Q 0 m130)))
     else
     if ((m 46 0 x3.toNatClampNeg) &&& 31) = 13 then
      (Mi 73 [.inr (27, 0)] m (fun v135 m134 =>
       Mi 151 [.inr (34, 0)] m134 (fun v137 m136 =>
        if v135 = v137 then
         H_175_18 (x3 + 7) m136 Q
        else
         Q 0 m136)))
     else
     if ((m 46 0 x3.toNatClampNeg) &&& 31) = 14 then
      (Mi 74 [.inr (27, 0)] m (fun v141 m140 =>
       Mi 153 [.inr (34, 0)] m140 (fun v143 m142 =>
        if v141 = v143 then
         H_175_18 (x3 + 7) m142 Q
        else
         Q 0 m142)))
     else
     if ((m 46 0 x3.toNatClampNeg) &&& 31) = 15 then
      (Mi 75 [.inr (27, 0)] m (fun v147 m146 =>
       Mi 154 [.inr (34, 0)] m146 (fun v149 m148 =>
        if v147 = v149 then
         H_175_18 (x3 + 7) m148 Q
        else
         Q 0 m148)))
     else
     if ((m 46 0 x3.toNatClampNeg) &&& 31) = 16 then
      (a_in (x3 + 1) (a_ln m 46) = true ∧
       Mi 76 [.inr (27, 0), .inl (m 46 0 (x3 + 1).toNatClampNeg)] m (fun v154 m153 =>
        a_in (x3 + 1) (a_ln m153 46) = true ∧
         Mi 155 [.inr (34, 0), .inl (m153 46 0 (x3 + 1).toNatClampNeg)] m153 (fun v157 m156 =>
          if v154 = v157 then
           H_175_18 (x3 + 7) m156 Q
          else
           Q 0 m156)))
     else
     if ((m 46 0 x3.toNatClampNeg) &&& 31) = 17 then
      (a_in (x3 + 1) (a_ln m 46) = true ∧
       Mi 77 [.inr (27, 0), .inl (m 46 0 (x3 + 1).toNatClampNeg)] m (fun v162 m161 =>
        a_in (x3 + 1) (a_ln m161 46) = true ∧
         Mi 156 [.inr (34, 0), .inl (m161 46 0 (x3 + 1).toNatClampNeg)] m161 (fun v165 m164 =>
          if v162 = v165 then
           H_175_18 (x3 + 7) m164 Q
          else
           Q 0 m164)))
     else
     if ((m 46 0 x3.toNatClampNeg) &&& 31) = 18 then
      (a_in (x3 + 1) (a_ln m 46) = true ∧
       a_in (x3 + 2) (a_ln m 46) = true ∧
        Mi 78 [.inr (27, 0), .inl (m 46 0 (x3 + 1).toNatClampNeg), .inl (m 46 0 (x3 + 2).toNatClampNeg)] m (fun v171 m170 =>
         a_in (x3 + 1) (a_ln m170 46) = true ∧
          a_in (x3 + 2) (a_ln m170 46) = true ∧
           Mi 158 [.inr (34, 0), .inl (m170 46 0 (x3 + 1).toNatClampNeg), .inl (m170 46 0 (x3 + 2).toNatClampNeg)] m170 (fun v175 m174 =>
            if v171 = v175 then
             H_175_18 (x3 + 7) m174 Q
            else
             Q 0 m174)))
     else
     if ((m 46 0 x3.toNatClampNeg) &&& 31) = 19 then
      (a_in (x3 + 1) (a_ln m 46) = true ∧
       a_in (x3 + 2) (a_ln m 46) = true ∧
        Mi 79 [.inr (27, 0), .inl (m 46 0 (x3 + 1).toNatClampNeg), .inl (m 46 0 (x3 + 2).toNatClampNeg)] m (fun v181 m180 =>
         a_in (x3 + 1) (a_ln m180 46) = true ∧
          a_in (x3 + 2) (a_ln m180 46) = true ∧
           Mi 159 [.inr (34, 0), .inl (m180 46 0 (x3 + 1).toNatClampNeg), .inl (m180 46 0 (x3 + 2).toNatClampNeg)] m180 (fun v185 m184 =>
            if v181 = v185 then
             H_175_18 (x3 + 7) m184 Q
            else
             Q 0 m184)))
     else
     if ((m 46 0 x3.toNatClampNeg) &&& 31) = 20 then
      (a_in (x3 + 1) (a_ln m 46) = true ∧
       a_in (x3 + 2) (a_ln m 46) = true ∧
        Mi 80 [.inr (27, 0), .inl (m 46 0 (x3 + 1).toNatClampNeg), .inl (m 46 0 (x3 + 2).toNatClampNeg)] m (fun v191 m190 =>
         a_in (x3 + 1) (a_ln m190 46) = true ∧
          a_in (x3 + 2) (a_ln m190 46) = true ∧
           Mi 161 [.inr (34, 0), .inl (m190 46 0 (x3 + 1).toNatClampNeg), .inl (m190 46 0 (x3 + 2).toNatClampNeg)] m190 (fun v195 m194 =>
            if v191 = v195 then
             H_175_18 (x3 + 7) m194 Q
            else
             Q 0 m194)))
     else
     if ((m 46 0 x3.toNatClampNeg) &&& 31) = 21 then
      (a_in (x3 + 1) (a_ln m 46) = true ∧
       a_in (x3 + 2) (a_ln m 46) = true ∧
        a_in (x3 + 3) (a_ln m 46) = true ∧
         Mi 81 [.inr (27, 0), .inl (m 46 0 (x3 + 1).toNatClampNeg), .inl (m 46 0 (x3 + 2).toNatClampNeg), .inl (m 46 0 (x3 + 3).toNatClampNeg)] m (fun v202 m201 =>
          a_in (x3 + 1) (a_ln m201 46) = true ∧
           a_in (x3 + 2) (a_ln m201 46) = true ∧
            a_in (x3 + 3) (a_ln m201 46) = true ∧
             Mi 162 [.inr (34, 0), .inl (m201 46 0 (x3 + 1).toNatClampNeg), .inl (m201 46 0 (x3 + 2).toNatClampNeg), .inl (m201 46 0 (x3 + 3).toNatClampNeg)] m201 (fun v207 m206 =>
              if v202 = v207 then
               H_175_18 (x3 + 7) m206 Q
              else
               Q 0 m206)))
     else
     if ((m 46 0 x3.toNatClampNeg) &&& 31) = 22 then
      (a_in (x3 + 1) (a_ln m 46) = true ∧
       a_in (x3 + 2) (a_ln m 46) = true ∧
        Mi 82 [.inr (27, 0), .inl (m 46 0 (x3 + 1).toNatClampNeg), .inl (m 46 0 (x3 + 2).toNatClampNeg)] m (fun v213 m212 =>
         a_in (x3 + 1) (a_ln m212 46) = true ∧
          a_in (x3 + 2) (a_ln m212 46) = true ∧
           Mi 163 [.inr (34, 0), .inl (m212 46 0 (x3 + 1).toNatClampNeg), .inl (m212 46 0 (x3 + 2).toNatClampNeg)] m212 (fun v217 m216 =>
            if v213 = v217 then
             H_175_18 (x3 + 7) m216 Q
            else
             Q 0 m216)))
     else
     if ((m 46 0 x3.toNatClampNeg) &&& 31) = 23 then
      (a_in (x3 + 1) (a_ln m 46) = true ∧
       Mi 83 [.inr (27, 0), .inl (m 46 0 (x3 + 1).toNatClampNeg)] m (fun v222 m221 =>
        a_in (x3 + 1) (a_ln m221 46) = true ∧
         Mi 165 [.inr (34, 0), .inl (m221 46 0 (x3 + 1).toNatClampNeg)] m221 (fun v225 m224 =>
          if v222 = v225 then
           H_175_18 (x3 + 7) m224 Q
          else
           Q 0 m224)))
     else
     if ((m 46 0 x3.toNatClampNeg) &&& 31) = 24 then
      (a_in (x3 + 1) (a_ln m 46) = true ∧
       Mi 84 [.inr (27, 0), .inl (m 46 0 (x3 + 1).toNatClampNeg)] m (fun v230 m229 =>
        a_in (x3 + 1) (a_ln m229 46) = true ∧
         Mi 166 [.inr (34, 0), .inl (m229 46 0 (x3 + 1).toNatClampNeg)] m229 (fun v233 m232 =>
          if v230 = v233 then
           H_175_18 (x3 + 7) m232 Q
          else
           Q 0 m232)))
     else
     if ((m 46 0 x3.toNatClampNeg) &&& 31) = 25 then
      (a_in (x3 + 1) (a_ln m 46) = true ∧
       Mi 85 [.inr (27, 0), .inl (m 46 0 (x3 + 1).toNatClampNeg)] m (fun v238 m237 =>
        a_in (x3 + 1) (a_ln m237 46) = true ∧
         Mi 169 [.inr (34, 0), .inl (m237 46 0 (x3 + 1).toNatClampNeg)] m237 (fun v241 m240 =>
          if v238 = v241 then
           H_175_18 (x3 + 7) m240 Q
          else
           Q 0 m240)))
     else
     if ((m 46 0 x3.toNatClampNeg) &&& 31) = 26 then
      (a_in (x3 + 1) (a_ln m 46) = true ∧
       a_in (x3 + 2) (a_ln m 46) = true ∧
        Mi 86 [.inr (27, 0), .inl (m 46 0 (x3 + 1).toNatClampNeg), .inl (m 46 0 (x3 + 2).toNatClampNeg)] m (fun v247 m246 =>
         a_in (x3 + 1) (a_ln m246 46) = true ∧
          a_in (x3 + 2) (a_ln m246 46) = true ∧
           Mi 170 [.inr (34, 0), .inl (m246 46 0 (x3 + 1).toNatClampNeg), .inl (m246 46 0 (x3 + 2).toNatClampNeg)] m246 (fun v251 m250 =>
            if v247 = v251 then
             H_175_18 (x3 + 7) m250 Q
            else
             Q 0 m250)))
     else
     if ((m 46 0 x3.toNatClampNeg) &&& 31) = 27 then
      (a_in (x3 + 1) (a_ln m 46) = true ∧
       a_in (x3 + 2) (a_ln m 46) = true ∧
        a_in (x3 + 3) (a_ln m 46) = true ∧
         a_in (x3 + 4) (a_ln m 46) = true ∧
          Mi 87 [.inr (27, 0), .inl (m 46 0 (x3 + 1).toNatClampNeg), .inl (m 46 0 (x3 + 2).toNatClampNeg), .inl (m 46 0 (x3 + 3).toNatClampNeg), .inl (m 46 0 (x3 + 4).toNatClampNeg)] m (fun v259 m258 =>
           a_in (x3 + 1) (a_ln m258 46) = true ∧
            a_in (x3 + 2) (a_ln m258 46) = true ∧
             a_in (x3 + 3) (a_ln m258 46) = true ∧
              a_in (x3 + 4) (a_ln m258 46) = true ∧
               Mi 171 [.inr (34, 0), .inl (m258 46 0 (x3 + 1).toNatClampNeg), .inl (m258 46 0 (x3 + 2).toNatClampNeg), .inl (m258 46 0 (x3 + 3).toNatClampNeg), .inl (m258 46 0 (x3 + 4).toNatClampNeg)] m258 (fun v265 m264 =>
                if v259 = v265 then
                 H_175_18 (x3 + 7) m264 Q
                else
                 Q 0 m264)))
     else
     if ((m 46 0 x3.toNatClampNeg) &&& 31) = 28 then
      (a_in (x3 + 1) (a_ln m 46) = true ∧
       Mi 88 [.inr (27, 0), .inl (m 46 0 (x3 + 1).toNatClampNeg)] m (fun v270 m269 =>
        a_in (x3 + 1) (a_ln m269 46) = true ∧
         Mi 172 [.inr (34, 0), .inl (m269 46 0 (x3 + 1).toNatClampNeg)] m269 (fun v273 m272 =>
          if v270 = v273 then
           H_175_18 (x3 + 7) m272 Q
          else
           Q 0 m272)))
     else
     if ((m 46 0 x3.toNatClampNeg) &&& 31) = 29 then
      (a_in (x3 + 1) (a_ln m 46) = true ∧
       a_in (x3 + 2) (a_ln m 46) = true ∧
        Mi 89 [.inr (27, 0), .inl (m 46 0 (x3 + 1).toNatClampNeg), .inl (m 46 0 (x3 + 2).toNatClampNeg)] m (fun v279 m278 =>
         a_in (x3 + 1) (a_ln m278 46) = true ∧
          a_in (x3 + 2) (a_ln m278 46) = true ∧
           Mi 173 [.inr (34, 0), .inl (m278 46 0 (x3 + 1).toNatClampNeg), .inl (m278 46 0 (x3 + 2).toNatClampNeg)] m278 (fun v283 m282 =>
            if v279 = v283 then
             H_175_18 (x3 + 7) m282 Q
            else
             Q 0 m282)))
     else
     if ((m 46 0 x3.toNatClampNeg) &&& 31) = 30 then
      (Mi 90 [.inr (27, 0)] m (fun v287 m286 =>
       Mi 174 [.inr (34, 0)] m286 (fun v289 m288 =>
        if v287 = v289 then
         H_175_18 (x3 + 7) m288 Q
        else
         Q 0 m288)))
     else
      H_175_18 (x3 + 7) m Q
  ) : H_175_18 x3 m Q := by
  show Rg 175 18 [some (.inr (46, 0)), some (.inr (27, 0)), some (.inr (34, 0)), some (.inl x3)] [] m (qI Q)
  refine r_iload_n L_175_18 rfl ?_
  refine r_aload_n L_175_19 rfl ?_
  refine r_alen (N := a_ln m 46) L_175_20 (by decide +kernel) rfl ?_
  refine r_bipush L_175_21 kB_7 ?_
  refine r_isub L_175_23 ?_
  refine r_icmp L_175_24 rfl (i_mono h (fun c1 h => ?_) (fun c1 h => ?_))
  · refine r_iconst L_175_1093 kI_1 ?_
    exact r_zret L_175_1094 RT_175 (Or.inr rfl) h
  · refine r_aload_n L_175_27 rfl ?_
    refine r_iload_n L_175_28 rfl ?_
    obtain ⟨g2, h⟩ := h
    refine r_iald (N := a_ln m 46) (j := x3.toNatClampNeg) L_175_29 (by decide +kernel) rfl g2 rfl ?_
    refine r_bipush L_175_30 kB_31 ?_
    refine r_iand L_175_32 ?_
    refine r_tsw2 L_175_33 (by decide) (by decide) ?_
    refine sw_t (tgt := 172) kT_0 (by decide) (i_mono h (fun c3 h => ?_) (fun c3 h => ?_))
    · refine r_aload_n L_175_172 rfl ?_
      refine r_aload_n L_175_173 rfl ?_
      refine r_iload_n L_175_174 rfl ?_
      refine r_iconst L_175_175 kI_1 ?_
      refine r_iadd L_175_176 ?_
      obtain ⟨g4, h⟩ := h
      refine r_iald (N := a_ln m 46) (j := (x3 + 1).toNatClampNeg) L_175_177 (by decide +kernel) rfl g4 rfl ?_
      refine r_aload_n L_175_178 rfl ?_
      refine r_iload_n L_175_179 rfl ?_
      refine r_iconst L_175_180 kI_2 ?_
      refine r_iadd L_175_181 ?_
      obtain ⟨g5, h⟩ := h
      refine r_iald (N := a_ln m 46) (j := (x3 + 2).toNatClampNeg) L_175_182 (by decide +kernel) rfl g5 rfl ?_
      refine r_aload_n L_175_183 rfl ?_
      refine r_iload_n L_175_184 rfl ?_
      refine r_iconst L_175_185 kI_3 ?_
      refine r_iadd L_175_186 ?_
      obtain ⟨g6, h⟩ := h
      refine r_iald (N := a_ln m 46) (j := (x3 + 3).toNatClampNeg) L_175_187 (by decide +kernel) rfl g6 rfl ?_
      refine r_aload_n L_175_188 rfl ?_
      refine r_iload_n L_175_189 rfl ?_
      refine r_iconst L_175_190 kI_4 ?_
      refine r_iadd L_175_191 ?_
      obtain ⟨g7, h⟩ := h
      refine r_iald (N := a_ln m 46) (j := (x3 + 4).toNatClampNeg) L_175_192 (by decide +kernel) rfl g7 rfl ?_
      refine r_cv L_175_193 rfl (Mi_mono h fun v9 m8 h => ?_)
      refine r_aload_n L_175_196 rfl ?_
      refine r_aload_n L_175_197 rfl ?_
      refine r_iload_n L_175_198 rfl ?_
      refine r_iconst L_175_199 kI_1 ?_
      refine r_iadd L_175_200 ?_
      obtain ⟨g10, h⟩ := h
      refine r_iald (N := a_ln m8 46) (j := (x3 + 1).toNatClampNeg) L_175_201 (by decide +kernel) rfl g10 rfl ?_
      refine r_aload_n L_175_202 rfl ?_
      refine r_iload_n L_175_203 rfl ?_
      refine r_iconst L_175_204 kI_2 ?_
      refine r_iadd L_175_205 ?_
      obtain ⟨g11, h⟩ := h
      refine r_iald (N := a_ln m8 46) (j := (x3 + 2).toNatClampNeg) L_175_206 (by decide +kernel) rfl g11 rfl ?_
      refine r_aload_n L_175_207 rfl ?_
      refine r_iload_n L_175_208 rfl ?_
      refine r_iconst L_175_209 kI_3 ?_
      refine r_iadd L_175_210 ?_
      obtain ⟨g12, h⟩ := h
      refine r_iald (N := a_ln m8 46) (j := (x3 + 3).toNatClampNeg) L_175_211 (by decide +kernel) rfl g12 rfl ?_
      refine r_aload_n L_175_212 rfl ?_
      refine r_iload_n L_175_213 rfl ?_
      refine r_iconst L_175_214 kI_4 ?_
      refine r_iadd L_175_215 ?_
      obtain ⟨g13, h⟩ := h
      refine r_iald (N := a_ln m8 46) (j := (x3 + 4).toNatClampNeg) L_175_216 (by decide +kernel) rfl g13 rfl ?_
      refine r_cv L_175_217 rfl (Mi_mono h fun v15 m14 h => ?_)
      refine r_icmp L_175_220 rfl (i_mono h (fun c16 h => ?_) (fun c16 h => ?_))
      · refine r_iinc (ls1 := [some (.inr (46, 0)), some (.inr (27, 0)), some (.inr (34, 0)), some (.inl (x3 + 7))]) L_175_1087 kI_7 rfl (Nat.le_of_ble_eq_true rfl) rfl ?_
        refine r_goto L_175_1090 ?_
        exact h
      · refine r_iconst L_175_223 kI_0 ?_
        exact r_zret L_175_224 RT_175 (Or.inl rfl) h
    · skip
      refine sw_t (tgt := 225) kT_1 (by decide) (i_mono h (fun c17 h => ?_) (fun c17 h => ?_))
      · refine r_aload_n L_175_225 rfl ?_
        refine r_aload_n L_175_226 rfl ?_
        refine r_iload_n L_175_227 rfl ?_
        refine r_iconst L_175_228 kI_1 ?_
        refine r_iadd L_175_229 ?_
        obtain ⟨g18, h⟩ := h
        refine r_iald (N := a_ln m 46) (j := (x3 + 1).toNatClampNeg) L_175_230 (by decide +kernel) rfl g18 rfl ?_
        refine r_aload_n L_175_231 rfl ?_
        refine r_iload_n L_175_232 rfl ?_
        refine r_iconst L_175_233 kI_2 ?_
        refine r_iadd L_175_234 ?_
        obtain ⟨g19, h⟩ := h
        refine r_iald (N := a_ln m 46) (j := (x3 + 2).toNatClampNeg) L_175_235 (by decide +kernel) rfl g19 rfl ?_
        refine r_aload_n L_175_236 rfl ?_
        refine r_iload_n L_175_237 rfl ?_
        refine r_iconst L_175_238 kI_3 ?_
        refine r_iadd L_175_239 ?_
        obtain ⟨g20, h⟩ := h
        refine r_iald (N := a_ln m 46) (j := (x3 + 3).toNatClampNeg) L_175_240 (by decide +kernel) rfl g20 rfl ?_
        refine r_aload_n L_175_241 rfl ?_
        refine r_iload_n L_175_242 rfl ?_
        refine r_iconst L_175_243 kI_4 ?_
        refine r_iadd L_175_244 ?_
        obtain ⟨g21, h⟩ := h
        refine r_iald (N := a_ln m 46) (j := (x3 + 4).toNatClampNeg) L_175_245 (by decide +kernel) rfl g21 rfl ?_
        refine r_aload_n L_175_246 rfl ?_
        refine r_iload_n L_175_247 rfl ?_
        refine r_iconst L_175_248 kI_5 ?_
        refine r_iadd L_175_249 ?_
        obtain ⟨g22, h⟩ := h
        refine r_iald (N := a_ln m 46) (j := (x3 + 5).toNatClampNeg) L_175_250 (by decide +kernel) rfl g22 rfl ?_
        refine r_aload_n L_175_251 rfl ?_
        refine r_iload_n L_175_252 rfl ?_
        refine r_bipush L_175_253 kB_6 ?_
        refine r_iadd L_175_255 ?_
        obtain ⟨g23, h⟩ := h
        refine r_iald (N := a_ln m 46) (j := (x3 + 6).toNatClampNeg) L_175_256 (by decide +kernel) rfl g23 rfl ?_
        refine r_cv L_175_257 rfl (Mi_mono h fun v25 m24 h => ?_)
        refine r_aload_n L_175_260 rfl ?_
        refine r_aload_n L_175_261 rfl ?_
        refine r_iload_n L_175_262 rfl ?_
        refine r_iconst L_175_263 kI_1 ?_
        refine r_iadd L_175_264 ?_
        obtain ⟨g26, h⟩ := h
        refine r_iald (N := a_ln m24 46) (j := (x3 + 1).toNatClampNeg) L_175_265 (by decide +kernel) rfl g26 rfl ?_
        refine r_aload_n L_175_266 rfl ?_
        refine r_iload_n L_175_267 rfl ?_
        refine r_iconst L_175_268 kI_2 ?_
        refine r_iadd L_175_269 ?_
        obtain ⟨g27, h⟩ := h
        refine r_iald (N := a_ln m24 46) (j := (x3 + 2).toNatClampNeg) L_175_270 (by decide +kernel) rfl g27 rfl ?_
        refine r_aload_n L_175_271 rfl ?_
        refine r_iload_n L_175_272 rfl ?_
        refine r_iconst L_175_273 kI_3 ?_
        refine r_iadd L_175_274 ?_
        obtain ⟨g28, h⟩ := h
        refine r_iald (N := a_ln m24 46) (j := (x3 + 3).toNatClampNeg) L_175_275 (by decide +kernel) rfl g28 rfl ?_
        refine r_aload_n L_175_276 rfl ?_
        refine r_iload_n L_175_277 rfl ?_
        refine r_iconst L_175_278 kI_4 ?_
        refine r_iadd L_175_279 ?_
        obtain ⟨g29, h⟩ := h
        refine r_iald (N := a_ln m24 46) (j := (x3 + 4).toNatClampNeg) L_175_280 (by decide +kernel) rfl g29 rfl ?_
        refine r_aload_n L_175_281 rfl ?_
        refine r_iload_n L_175_282 rfl ?_
        refine r_iconst L_175_283 kI_5 ?_
        refine r_iadd L_175_284 ?_
        obtain ⟨g30, h⟩ := h
        refine r_iald (N := a_ln m24 46) (j := (x3 + 5).toNatClampNeg) L_175_285 (by decide +kernel) rfl g30 rfl ?_
        refine r_aload_n L_175_286 rfl ?_
        refine r_iload_n L_175_287 rfl ?_
        refine r_bipush L_175_288 kB_6 ?_
        refine r_iadd L_175_290 ?_
        obtain ⟨g31, h⟩ := h
        refine r_iald (N := a_ln m24 46) (j := (x3 + 6).toNatClampNeg) L_175_291 (by decide +kernel) rfl g31 rfl ?_
        refine r_cv L_175_292 rfl (Mi_mono h fun v33 m32 h => ?_)
        refine r_icmp L_175_295 rfl (i_mono h (fun c34 h => ?_) (fun c34 h => ?_))
        · refine r_iinc (ls1 := [some (.inr (46, 0)), some (.inr (27, 0)), some (.inr (34, 0)), some (.inl (x3 + 7))]) L_175_1087 kI_7 rfl (Nat.le_of_ble_eq_true rfl) rfl ?_
          refine r_goto L_175_1090 ?_
          exact h
        · refine r_iconst L_175_298 kI_0 ?_
          exact r_zret L_175_299 RT_175 (Or.inl rfl) h
      · skip
        refine sw_t (tgt := 300) kT_2 (by decide) (i_mono h (fun c35 h => ?_) (fun c35 h => ?_))
        · refine r_aload_n L_175_300 rfl ?_
          refine r_aload_n L_175_301 rfl ?_
          refine r_iload_n L_175_302 rfl ?_
          refine r_iconst L_175_303 kI_1 ?_
          refine r_iadd L_175_304 ?_
          obtain ⟨g36, h⟩ := h
          refine r_iald (N := a_ln m 46) (j := (x3 + 1).toNatClampNeg) L_175_305 (by decide +kernel) rfl g36 rfl ?_
          refine r_aload_n L_175_306 rfl ?_
          refine r_iload_n L_175_307 rfl ?_
          refine r_iconst L_175_308 kI_2 ?_
          refine r_iadd L_175_309 ?_
          obtain ⟨g37, h⟩ := h
          refine r_iald (N := a_ln m 46) (j := (x3 + 2).toNatClampNeg) L_175_310 (by decide +kernel) rfl g37 rfl ?_
          refine r_aload_n L_175_311 rfl ?_
          refine r_iload_n L_175_312 rfl ?_
          refine r_iconst L_175_313 kI_3 ?_
          refine r_iadd L_175_314 ?_
          obtain ⟨g38, h⟩ := h
          refine r_iald (N := a_ln m 46) (j := (x3 + 3).toNatClampNeg) L_175_315 (by decide +kernel) rfl g38 rfl ?_
          refine r_cv L_175_316 rfl (Mi_mono h fun v40 m39 h => ?_)
          refine r_aload_n L_175_319 rfl ?_
          refine r_aload_n L_175_320 rfl ?_
          refine r_iload_n L_175_321 rfl ?_
          refine r_iconst L_175_322 kI_1 ?_
          refine r_iadd L_175_323 ?_
          obtain ⟨g41, h⟩ := h
          refine r_iald (N := a_ln m39 46) (j := (x3 + 1).toNatClampNeg) L_175_324 (by decide +kernel) rfl g41 rfl ?_
          refine r_aload_n L_175_325 rfl ?_
          refine r_iload_n L_175_326 rfl ?_
          refine r_iconst L_175_327 kI_2 ?_
          refine r_iadd L_175_328 ?_
          obtain ⟨g42, h⟩ := h
          refine r_iald (N := a_ln m39 46) (j := (x3 + 2).toNatClampNeg) L_175_329 (by decide +kernel) rfl g42 rfl ?_
          refine r_aload_n L_175_330 rfl ?_
          refine r_iload_n L_175_331 rfl ?_
          refine r_iconst L_175_332 kI_3 ?_
          refine r_iadd L_175_333 ?_
          obtain ⟨g43, h⟩ := h
          refine r_iald (N := a_ln m39 46) (j := (x3 + 3).toNatClampNeg) L_175_334 (by decide +kernel) rfl g43 rfl ?_
          refine r_cv L_175_335 rfl (Mi_mono h fun v45 m44 h => ?_)
          refine r_icmp L_175_338 rfl (i_mono h (fun c46 h => ?_) (fun c46 h => ?_))
          · refine r_iinc (ls1 := [some (.inr (46, 0)), some (.inr (27, 0)), some (.inr (34, 0)), some (.inl (x3 + 7))]) L_175_1087 kI_7 rfl (Nat.le_of_ble_eq_true rfl) rfl ?_
            refine r_goto L_175_1090 ?_
            exact h
          · refine r_iconst L_175_341 kI_0 ?_
            exact r_zret L_175_342 RT_175 (Or.inl rfl) h
        · skip
          refine sw_t (tgt := 343) kT_3 (by decide) (i_mono h (fun c47 h => ?_) (fun c47 h => ?_))
          · refine r_aload_n L_175_343 rfl ?_
            refine r_aload_n L_175_344 rfl ?_
            refine r_iload_n L_175_345 rfl ?_
            refine r_iconst L_175_346 kI_1 ?_
            refine r_iadd L_175_347 ?_
            obtain ⟨g48, h⟩ := h
            refine r_iald (N := a_ln m 46) (j := (x3 + 1).toNatClampNeg) L_175_348 (by decide +kernel) rfl g48 rfl ?_
            refine r_aload_n L_175_349 rfl ?_
            refine r_iload_n L_175_350 rfl ?_
            refine r_iconst L_175_351 kI_2 ?_
            refine r_iadd L_175_352 ?_
            obtain ⟨g49, h⟩ := h
            refine r_iald (N := a_ln m 46) (j := (x3 + 2).toNatClampNeg) L_175_353 (by decide +kernel) rfl g49 rfl ?_
            refine r_cv L_175_354 rfl (Mi_mono h fun v51 m50 h => ?_)
            refine r_aload_n L_175_357 rfl ?_
            refine r_aload_n L_175_358 rfl ?_
            refine r_iload_n L_175_359 rfl ?_
            refine r_iconst L_175_360 kI_1 ?_
            refine r_iadd L_175_361 ?_
            obtain ⟨g52, h⟩ := h
            refine r_iald (N := a_ln m50 46) (j := (x3 + 1).toNatClampNeg) L_175_362 (by decide +kernel) rfl g52 rfl ?_
            refine r_aload_n L_175_363 rfl ?_
            refine r_iload_n L_175_364 rfl ?_
            refine r_iconst L_175_365 kI_2 ?_
            refine r_iadd L_175_366 ?_
            obtain ⟨g53, h⟩ := h
            refine r_iald (N := a_ln m50 46) (j := (x3 + 2).toNatClampNeg) L_175_367 (by decide +kernel) rfl g53 rfl ?_
            refine r_cv L_175_368 rfl (Mi_mono h fun v55 m54 h => ?_)
            refine r_icmp L_175_371 rfl (i_mono h (fun c56 h => ?_) (fun c56 h => ?_))
            · refine r_iinc (ls1 := [some (.inr (46, 0)), some (.inr (27, 0)), some (.inr (34, 0)), some (.inl (x3 + 7))]) L_175_1087 kI_7 rfl (Nat.le_of_ble_eq_true rfl) rfl ?_
              refine r_goto L_175_1090 ?_
              exact h
            · refine r_iconst L_175_374 kI_0 ?_
              exact r_zret L_175_375 RT_175 (Or.inl rfl) h
          · skip
            refine sw_t (tgt := 376) kT_4 (by decide) (i_mono h (fun c57 h => ?_) (fun c57 h => ?_))
            · refine r_aload_n L_175_376 rfl ?_
              refine r_aload_n L_175_377 rfl ?_
              refine r_iload_n L_175_378 rfl ?_
              refine r_iconst L_175_379 kI_1 ?_
              refine r_iadd L_175_380 ?_
              obtain ⟨g58, h⟩ := h
              refine r_iald (N := a_ln m 46) (j := (x3 + 1).toNatClampNeg) L_175_381 (by decide +kernel) rfl g58 rfl ?_
              refine r_cv L_175_382 rfl (Mi_mono h fun v60 m59 h => ?_)
              refine r_aload_n L_175_385 rfl ?_
              refine r_aload_n L_175_386 rfl ?_
              refine r_iload_n L_175_387 rfl ?_
              refine r_iconst L_175_388 kI_1 ?_
              refine r_iadd L_175_389 ?_
              obtain ⟨g61, h⟩ := h
              refine r_iald (N := a_ln m59 46) (j := (x3 + 1).toNatClampNeg) L_175_390 (by decide +kernel) rfl g61 rfl ?_
              refine r_cv L_175_391 rfl (Mi_mono h fun v63 m62 h => ?_)
              refine r_icmp L_175_394 rfl (i_mono h (fun c64 h => ?_) (fun c64 h => ?_))
              · refine r_iinc (ls1 := [some (.inr (46, 0)), some (.inr (27, 0)), some (.inr (34, 0)), some (.inl (x3 + 7))]) L_175_1087 kI_7 rfl (Nat.le_of_ble_eq_true rfl) rfl ?_
                refine r_goto L_175_1090 ?_
                exact h
              · refine r_iconst L_175_397 kI_0 ?_
                exact r_zret L_175_398 RT_175 (Or.inl rfl) h
            · skip
              refine sw_t (tgt := 399) kT_5 (by decide) (i_mono h (fun c65 h => ?_) (fun c65 h => ?_))
              · refine r_aload_n L_175_399 rfl ?_
                refine r_aload_n L_175_400 rfl ?_
                refine r_iload_n L_175_401 rfl ?_
                refine r_iconst L_175_402 kI_1 ?_
                refine r_iadd L_175_403 ?_
                obtain ⟨g66, h⟩ := h
                refine r_iald (N := a_ln m 46) (j := (x3 + 1).toNatClampNeg) L_175_404 (by decide +kernel) rfl g66 rfl ?_
                refine r_cv L_175_405 rfl (Mi_mono h fun v68 m67 h => ?_)
                refine r_aload_n L_175_408 rfl ?_
                refine r_aload_n L_175_409 rfl ?_
                refine r_iload_n L_175_410 rfl ?_
                refine r_iconst L_175_411 kI_1 ?_
                refine r_iadd L_175_412 ?_
                obtain ⟨g69, h⟩ := h
                refine r_iald (N := a_ln m67 46) (j := (x3 + 1).toNatClampNeg) L_175_413 (by decide +kernel) rfl g69 rfl ?_
                refine r_cv L_175_414 rfl (Mi_mono h fun v71 m70 h => ?_)
                refine r_icmp L_175_417 rfl (i_mono h (fun c72 h => ?_) (fun c72 h => ?_))
                · refine r_iinc (ls1 := [some (.inr (46, 0)), some (.inr (27, 0)), some (.inr (34, 0)), some (.inl (x3 + 7))]) L_175_1087 kI_7 rfl (Nat.le_of_ble_eq_true rfl) rfl ?_
                  refine r_goto L_175_1090 ?_
                  exact h
                · refine r_iconst L_175_420 kI_0 ?_
                  exact r_zret L_175_421 RT_175 (Or.inl rfl) h
              · skip
                refine sw_t (tgt := 422) kT_6 (by decide) (i_mono h (fun c73 h => ?_) (fun c73 h => ?_))
                · refine r_aload_n L_175_422 rfl ?_
                  refine r_aload_n L_175_423 rfl ?_
                  refine r_iload_n L_175_424 rfl ?_
                  refine r_iconst L_175_425 kI_1 ?_
                  refine r_iadd L_175_426 ?_
                  obtain ⟨g74, h⟩ := h
                  refine r_iald (N := a_ln m 46) (j := (x3 + 1).toNatClampNeg) L_175_427 (by decide +kernel) rfl g74 rfl ?_
                  refine r_cv L_175_428 rfl (Mi_mono h fun v76 m75 h => ?_)
                  refine r_aload_n L_175_431 rfl ?_
                  refine r_aload_n L_175_432 rfl ?_
                  refine r_iload_n L_175_433 rfl ?_
                  refine r_iconst L_175_434 kI_1 ?_
                  refine r_iadd L_175_435 ?_
                  obtain ⟨g77, h⟩ := h
                  refine r_iald (N := a_ln m75 46) (j := (x3 + 1).toNatClampNeg) L_175_436 (by decide +kernel) rfl g77 rfl ?_
                  refine r_cv L_175_437 rfl (Mi_mono h fun v79 m78 h => ?_)
                  refine r_icmp L_175_440 rfl (i_mono h (fun c80 h => ?_) (fun c80 h => ?_))
                  · refine r_iinc (ls1 := [some (.inr (46, 0)), some (.inr (27, 0)), some (.inr (34, 0)), some (.inl (x3 + 7))]) L_175_1087 kI_7 rfl (Nat.le_of_ble_eq_true rfl) rfl ?_
                    refine r_goto L_175_1090 ?_
                    exact h
                  · refine r_iconst L_175_443 kI_0 ?_
                    exact r_zret L_175_444 RT_175 (Or.inl rfl) h
                · skip
                  refine sw_t (tgt := 445) kT_7 (by decide) (i_mono h (fun c81 h => ?_) (fun c81 h => ?_))
                  · refine r_aload_n L_175_445 rfl ?_
                    refine r_aload_n L_175_446 rfl ?_
                    refine r_iload_n L_175_447 rfl ?_
                    refine r_iconst L_175_448 kI_1 ?_
                    refine r_iadd L_175_449 ?_
                    obtain ⟨g82, h⟩ := h
                    refine r_iald (N := a_ln m 46) (j := (x3 + 1).toNatClampNeg) L_175_450 (by decide +kernel) rfl g82 rfl ?_
                    refine r_aload_n L_175_451 rfl ?_
                    refine r_iload_n L_175_452 rfl ?_
                    refine r_iconst L_175_453 kI_2 ?_
                    refine r_iadd L_175_454 ?_
                    obtain ⟨g83, h⟩ := h
                    refine r_iald (N := a_ln m 46) (j := (x3 + 2).toNatClampNeg) L_175_455 (by decide +kernel) rfl g83 rfl ?_
                    refine r_aload_n L_175_456 rfl ?_
                    refine r_iload_n L_175_457 rfl ?_
                    refine r_iconst L_175_458 kI_3 ?_
                    refine r_iadd L_175_459 ?_
                    obtain ⟨g84, h⟩ := h
                    refine r_iald (N := a_ln m 46) (j := (x3 + 3).toNatClampNeg) L_175_460 (by decide +kernel) rfl g84 rfl ?_
                    refine r_cv L_175_461 rfl (Mi_mono h fun v86 m85 h => ?_)
                    refine r_aload_n L_175_464 rfl ?_
                    refine r_aload_n L_175_465 rfl ?_
                    refine r_iload_n L_175_466 rfl ?_
                    refine r_iconst L_175_467 kI_1 ?_
                    refine r_iadd L_175_468 ?_
                    obtain ⟨g87, h⟩ := h
                    refine r_iald (N := a_ln m85 46) (j := (x3 + 1).toNatClampNeg) L_175_469 (by decide +kernel) rfl g87 rfl ?_
                    refine r_aload_n L_175_470 rfl ?_
                    refine r_iload_n L_175_471 rfl ?_
                    refine r_iconst L_175_472 kI_2 ?_
                    refine r_iadd L_175_473 ?_
                    obtain ⟨g88, h⟩ := h
                    refine r_iald (N := a_ln m85 46) (j := (x3 + 2).toNatClampNeg) L_175_474 (by decide +kernel) rfl g88 rfl ?_
                    refine r_aload_n L_175_475 rfl ?_
                    refine r_iload_n L_175_476 rfl ?_
                    refine r_iconst L_175_477 kI_3 ?_
                    refine r_iadd L_175_478 ?_
                    obtain ⟨g89, h⟩ := h
                    refine r_iald (N := a_ln m85 46) (j := (x3 + 3).toNatClampNeg) L_175_479 (by decide +kernel) rfl g89 rfl ?_
                    refine r_cv L_175_480 rfl (Mi_mono h fun v91 m90 h => ?_)
                    refine r_icmp L_175_483 rfl (i_mono h (fun c92 h => ?_) (fun c92 h => ?_))
                    · refine r_iinc (ls1 := [some (.inr (46, 0)), some (.inr (27, 0)), some (.inr (34, 0)), some (.inl (x3 + 7))]) L_175_1087 kI_7 rfl (Nat.le_of_ble_eq_true rfl) rfl ?_
                      refine r_goto L_175_1090 ?_
                      exact h
                    · refine r_iconst L_175_486 kI_0 ?_
                      exact r_zret L_175_487 RT_175 (Or.inl rfl) h
                  · skip
                    refine sw_t (tgt := 488) kT_8 (by decide) (i_mono h (fun c93 h => ?_) (fun c93 h => ?_))
                    · refine r_aload_n L_175_488 rfl ?_
                      refine r_aload_n L_175_489 rfl ?_
                      refine r_iload_n L_175_490 rfl ?_
                      refine r_iconst L_175_491 kI_1 ?_
                      refine r_iadd L_175_492 ?_
                      obtain ⟨g94, h⟩ := h
                      refine r_iald (N := a_ln m 46) (j := (x3 + 1).toNatClampNeg) L_175_493 (by decide +kernel) rfl g94 rfl ?_
                      refine r_aload_n L_175_494 rfl ?_
                      refine r_iload_n L_175_495 rfl ?_
                      refine r_iconst L_175_496 kI_2 ?_
                      refine r_iadd L_175_497 ?_
                      obtain ⟨g95, h⟩ := h
                      refine r_iald (N := a_ln m 46) (j := (x3 + 2).toNatClampNeg) L_175_498 (by decide +kernel) rfl g95 rfl ?_
                      refine r_cv L_175_499 rfl (Mi_mono h fun v97 m96 h => ?_)
                      refine r_aload_n L_175_502 rfl ?_
                      refine r_aload_n L_175_503 rfl ?_
                      refine r_iload_n L_175_504 rfl ?_
                      refine r_iconst L_175_505 kI_1 ?_
                      refine r_iadd L_175_506 ?_
                      obtain ⟨g98, h⟩ := h
                      refine r_iald (N := a_ln m96 46) (j := (x3 + 1).toNatClampNeg) L_175_507 (by decide +kernel) rfl g98 rfl ?_
                      refine r_aload_n L_175_508 rfl ?_
                      refine r_iload_n L_175_509 rfl ?_
                      refine r_iconst L_175_510 kI_2 ?_
                      refine r_iadd L_175_511 ?_
                      obtain ⟨g99, h⟩ := h
                      refine r_iald (N := a_ln m96 46) (j := (x3 + 2).toNatClampNeg) L_175_512 (by decide +kernel) rfl g99 rfl ?_
                      refine r_cv L_175_513 rfl (Mi_mono h fun v101 m100 h => ?_)
                      refine r_icmp L_175_516 rfl (i_mono h (fun c102 h => ?_) (fun c102 h => ?_))
                      · refine r_iinc (ls1 := [some (.inr (46, 0)), some (.inr (27, 0)), some (.inr (34, 0)), some (.inl (x3 + 7))]) L_175_1087 kI_7 rfl (Nat.le_of_ble_eq_true rfl) rfl ?_
                        refine r_goto L_175_1090 ?_
                        exact h
                      · refine r_iconst L_175_519 kI_0 ?_
                        exact r_zret L_175_520 RT_175 (Or.inl rfl) h
                    · skip
                      refine sw_t (tgt := 521) kT_9 (by decide) (i_mono h (fun c103 h => ?_) (fun c103 h => ?_))
                      · refine r_aload_n L_175_521 rfl ?_
                        refine r_aload_n L_175_522 rfl ?_
                        refine r_iload_n L_175_523 rfl ?_
                        refine r_iconst L_175_524 kI_1 ?_
                        refine r_iadd L_175_525 ?_
                        obtain ⟨g104, h⟩ := h
                        refine r_iald (N := a_ln m 46) (j := (x3 + 1).toNatClampNeg) L_175_526 (by decide +kernel) rfl g104 rfl ?_
                        refine r_cv L_175_527 rfl (Mi_mono h fun v106 m105 h => ?_)
                        refine r_aload_n L_175_530 rfl ?_
                        refine r_aload_n L_175_531 rfl ?_
                        refine r_iload_n L_175_532 rfl ?_
                        refine r_iconst L_175_533 kI_1 ?_
                        refine r_iadd L_175_534 ?_
                        obtain ⟨g107, h⟩ := h
                        refine r_iald (N := a_ln m105 46) (j := (x3 + 1).toNatClampNeg) L_175_535 (by decide +kernel) rfl g107 rfl ?_
                        refine r_cv L_175_536 rfl (Mi_mono h fun v109 m108 h => ?_)
                        refine r_icmp L_175_539 rfl (i_mono h (fun c110 h => ?_) (fun c110 h => ?_))
                        · refine r_iinc (ls1 := [some (.inr (46, 0)), some (.inr (27, 0)), some (.inr (34, 0)), some (.inl (x3 + 7))]) L_175_1087 kI_7 rfl (Nat.le_of_ble_eq_true rfl) rfl ?_
                          refine r_goto L_175_1090 ?_
                          exact h
                        · refine r_iconst L_175_542 kI_0 ?_
                          exact r_zret L_175_543 RT_175 (Or.inl rfl) h
                      · skip
                        refine sw_t (tgt := 544) kT_10 (by decide) (i_mono h (fun c111 h => ?_) (fun c111 h => ?_))
                        · refine r_aload_n L_175_544 rfl ?_
                          refine r_aload_n L_175_545 rfl ?_
                          refine r_iload_n L_175_546 rfl ?_
                          refine r_iconst L_175_547 kI_1 ?_
                          refine r_iadd L_175_548 ?_
                          obtain ⟨g112, h⟩ := h
                          refine r_iald (N := a_ln m 46) (j := (x3 + 1).toNatClampNeg) L_175_549 (by decide +kernel) rfl g112 rfl ?_
                          refine r_cv L_175_550 rfl (Mi_mono h fun v114 m113 h => ?_)
                          refine r_aload_n L_175_553 rfl ?_
                          refine r_aload_n L_175_554 rfl ?_
                          refine r_iload_n L_175_555 rfl ?_
                          refine r_iconst L_175_556 kI_1 ?_
                          refine r_iadd L_175_557 ?_
                          obtain ⟨g115, h⟩ := h
                          refine r_iald (N := a_ln m113 46) (j := (x3 + 1).toNatClampNeg) L_175_558 (by decide +kernel) rfl g115 rfl ?_
                          refine r_cv L_175_559 rfl (Mi_mono h fun v117 m116 h => ?_)
                          refine r_icmp L_175_562 rfl (i_mono h (fun c118 h => ?_) (fun c118 h => ?_))
                          · refine r_iinc (ls1 := [some (.inr (46, 0)), some (.inr (27, 0)), some (.inr (34, 0)), some (.inl (x3 + 7))]) L_175_1087 kI_7 rfl (Nat.le_of_ble_eq_true rfl) rfl ?_
                            refine r_goto L_175_1090 ?_
                            exact h
                          · refine r_iconst L_175_565 kI_0 ?_
                            exact r_zret L_175_566 RT_175 (Or.inl rfl) h
                        · skip
                          refine sw_t (tgt := 567) kT_11 (by decide) (i_mono h (fun c119 h => ?_) (fun c119 h => ?_))
                          · refine r_aload_n L_175_567 rfl ?_
                            refine r_aload_n L_175_568 rfl ?_
                            refine r_iload_n L_175_569 rfl ?_
                            refine r_iconst L_175_570 kI_1 ?_
                            refine r_iadd L_175_571 ?_
                            obtain ⟨g120, h⟩ := h
                            refine r_iald (N := a_ln m 46) (j := (x3 + 1).toNatClampNeg) L_175_572 (by decide +kernel) rfl g120 rfl ?_
                            refine r_cv L_175_573 rfl (Mi_mono h fun v122 m121 h => ?_)
                            refine r_aload_n L_175_576 rfl ?_
                            refine r_aload_n L_175_577 rfl ?_
                            refine r_iload_n L_175_578 rfl ?_
                            refine r_iconst L_175_579 kI_1 ?_
                            refine r_iadd L_175_580 ?_
                            obtain ⟨g123, h⟩ := h
                            refine r_iald (N := a_ln m121 46) (j := (x3 + 1).toNatClampNeg) L_175_581 (by decide +kernel) rfl g123 rfl ?_
                            refine r_cv L_175_582 rfl (Mi_mono h fun v125 m124 h => ?_)
                            refine r_icmp L_175_585 rfl (i_mono h (fun c126 h => ?_) (fun c126 h => ?_))
                            · refine r_iinc (ls1 := [some (.inr (46, 0)), some (.inr (27, 0)), some (.inr (34, 0)), some (.inl (x3 + 7))]) L_175_1087 kI_7 rfl (Nat.le_of_ble_eq_true rfl) rfl ?_
                              refine r_goto L_175_1090 ?_
                              exact h
                            · refine r_iconst L_175_588 kI_0 ?_
                              exact r_zret L_175_589 RT_175 (Or.inl rfl) h
                          · skip
                            refine sw_t (tgt := 590) kT_12 (by decide) (i_mono h (fun c127 h => ?_) (fun c127 h => ?_))
                            · refine r_aload_n L_175_590 rfl ?_
                              refine r_cv L_175_591 rfl (Mi_mono h fun v129 m128 h => ?_)
                              refine r_aload_n L_175_594 rfl ?_
                              refine r_cv L_175_595 rfl (Mi_mono h fun v131 m130 h => ?_)
                              refine r_icmp L_175_598 rfl (i_mono h (fun c132 h => ?_) (fun c132 h => ?_))
                              · refine r_iinc (ls1 := [some (.inr (46, 0)), some (.inr (27, 0)), some (.inr (34, 0)), some (.inl (x3 + 7))]) L_175_1087 kI_7 rfl (Nat.le_of_ble_eq_true rfl) rfl ?_
                                refine r_goto L_175_1090 ?_
                                exact h
                              · refine r_iconst L_175_601 kI_0 ?_
                                exact r_zret L_175_602 RT_175 (Or.inl rfl) h
                            · skip
                              refine sw_t (tgt := 603) kT_13 (by decide) (i_mono h (fun c133 h => ?_) (fun c133 h => ?_))
                              · refine r_aload_n L_175_603 rfl ?_
                                refine r_cv L_175_604 rfl (Mi_mono h fun v135 m134 h => ?_)
                                refine r_aload_n L_175_607 rfl ?_
                                refine r_cv L_175_608 rfl (Mi_mono h fun v137 m136 h => ?_)
                                refine r_icmp L_175_611 rfl (i_mono h (fun c138 h => ?_) (fun c138 h => ?_))
                                · refine r_iinc (ls1 := [some (.inr (46, 0)), some (.inr (27, 0)), some (.inr (34, 0)), some (.inl (x3 + 7))]) L_175_1087 kI_7 rfl (Nat.le_of_ble_eq_true rfl) rfl ?_
                                  refine r_goto L_175_1090 ?_
                                  exact h
                                · refine r_iconst L_175_614 kI_0 ?_
                                  exact r_zret L_175_615 RT_175 (Or.inl rfl) h
                              · skip
                                refine sw_t (tgt := 616) kT_14 (by decide) (i_mono h (fun c139 h => ?_) (fun c139 h => ?_))
                                · refine r_aload_n L_175_616 rfl ?_
                                  refine r_cv L_175_617 rfl (Mi_mono h fun v141 m140 h => ?_)
                                  refine r_aload_n L_175_620 rfl ?_
                                  refine r_cv L_175_621 rfl (Mi_mono h fun v143 m142 h => ?_)
                                  refine r_icmp L_175_624 rfl (i_mono h (fun c144 h => ?_) (fun c144 h => ?_))
                                  · refine r_iinc (ls1 := [some (.inr (46, 0)), some (.inr (27, 0)), some (.inr (34, 0)), some (.inl (x3 + 7))]) L_175_1087 kI_7 rfl (Nat.le_of_ble_eq_true rfl) rfl ?_
                                    refine r_goto L_175_1090 ?_
                                    exact h
                                  · refine r_iconst L_175_627 kI_0 ?_
                                    exact r_zret L_175_628 RT_175 (Or.inl rfl) h
                                · skip
                                  refine sw_t (tgt := 629) kT_15 (by decide) (i_mono h (fun c145 h => ?_) (fun c145 h => ?_))
                                  · refine r_aload_n L_175_629 rfl ?_
                                    refine r_cv L_175_630 rfl (Mi_mono h fun v147 m146 h => ?_)
                                    refine r_aload_n L_175_633 rfl ?_
                                    refine r_cv L_175_634 rfl (Mi_mono h fun v149 m148 h => ?_)
                                    refine r_icmp L_175_637 rfl (i_mono h (fun c150 h => ?_) (fun c150 h => ?_))
                                    · refine r_iinc (ls1 := [some (.inr (46, 0)), some (.inr (27, 0)), some (.inr (34, 0)), some (.inl (x3 + 7))]) L_175_1087 kI_7 rfl (Nat.le_of_ble_eq_true rfl) rfl ?_
                                      refine r_goto L_175_1090 ?_
                                      exact h
                                    · refine r_iconst L_175_640 kI_0 ?_
                                      exact r_zret L_175_641 RT_175 (Or.inl rfl) h
                                  · skip
                                    refine sw_t (tgt := 642) kT_16 (by decide) (i_mono h (fun c151 h => ?_) (fun c151 h => ?_))
                                    · refine r_aload_n L_175_642 rfl ?_
                                      refine r_aload_n L_175_643 rfl ?_
                                      refine r_iload_n L_175_644 rfl ?_
                                      refine r_iconst L_175_645 kI_1 ?_
                                      refine r_iadd L_175_646 ?_
                                      obtain ⟨g152, h⟩ := h
                                      refine r_iald (N := a_ln m 46) (j := (x3 + 1).toNatClampNeg) L_175_647 (by decide +kernel) rfl g152 rfl ?_
                                      refine r_cv L_175_648 rfl (Mi_mono h fun v154 m153 h => ?_)
                                      refine r_aload_n L_175_651 rfl ?_
                                      refine r_aload_n L_175_652 rfl ?_
                                      refine r_iload_n L_175_653 rfl ?_
                                      refine r_iconst L_175_654 kI_1 ?_
                                      refine r_iadd L_175_655 ?_
                                      obtain ⟨g155, h⟩ := h
                                      refine r_iald (N := a_ln m153 46) (j := (x3 + 1).toNatClampNeg) L_175_656 (by decide +kernel) rfl g155 rfl ?_
                                      refine r_cv L_175_657 rfl (Mi_mono h fun v157 m156 h => ?_)
                                      refine r_icmp L_175_660 rfl (i_mono h (fun c158 h => ?_) (fun c158 h => ?_))
                                      · refine r_iinc (ls1 := [some (.inr (46, 0)), some (.inr (27, 0)), some (.inr (34, 0)), some (.inl (x3 + 7))]) L_175_1087 kI_7 rfl (Nat.le_of_ble_eq_true rfl) rfl ?_
                                        refine r_goto L_175_1090 ?_
                                        exact h
                                      · refine r_iconst L_175_663 kI_0 ?_
                                        exact r_zret L_175_664 RT_175 (Or.inl rfl) h
                                    · skip
                                      refine sw_t (tgt := 665) kT_17 (by decide) (i_mono h (fun c159 h => ?_) (fun c159 h => ?_))
                                      · refine r_aload_n L_175_665 rfl ?_
                                        refine r_aload_n L_175_666 rfl ?_
                                        refine r_iload_n L_175_667 rfl ?_
                                        refine r_iconst L_175_668 kI_1 ?_
                                        refine r_iadd L_175_669 ?_
                                        obtain ⟨g160, h⟩ := h
                                        refine r_iald (N := a_ln m 46) (j := (x3 + 1).toNatClampNeg) L_175_670 (by decide +kernel) rfl g160 rfl ?_
                                        refine r_cv L_175_671 rfl (Mi_mono h fun v162 m161 h => ?_)
                                        refine r_aload_n L_175_674 rfl ?_
                                        refine r_aload_n L_175_675 rfl ?_
                                        refine r_iload_n L_175_676 rfl ?_
                                        refine r_iconst L_175_677 kI_1 ?_
                                        refine r_iadd L_175_678 ?_
                                        obtain ⟨g163, h⟩ := h
                                        refine r_iald (N := a_ln m161 46) (j := (x3 + 1).toNatClampNeg) L_175_679 (by decide +kernel) rfl g163 rfl ?_
                                        refine r_cv L_175_680 rfl (Mi_mono h fun v165 m164 h => ?_)
                                        refine r_icmp L_175_683 rfl (i_mono h (fun c166 h => ?_) (fun c166 h => ?_))
                                        · refine r_iinc (ls1 := [some (.inr (46, 0)), some (.inr (27, 0)), some (.inr (34, 0)), some (.inl (x3 + 7))]) L_175_1087 kI_7 rfl (Nat.le_of_ble_eq_true rfl) rfl ?_
                                          refine r_goto L_175_1090 ?_
                                          exact h
                                        · refine r_iconst L_175_686 kI_0 ?_
                                          exact r_zret L_175_687 RT_175 (Or.inl rfl) h
                                      · skip
                                        refine sw_t (tgt := 688) kT_18 (by decide) (i_mono h (fun c167 h => ?_) (fun c167 h => ?_))
                                        · refine r_aload_n L_175_688 rfl ?_
                                          refine r_aload_n L_175_689 rfl ?_
                                          refine r_iload_n L_175_690 rfl ?_
                                          refine r_iconst L_175_691 kI_1 ?_
                                          refine r_iadd L_175_692 ?_
                                          obtain ⟨g168, h⟩ := h
                                          refine r_iald (N := a_ln m 46) (j := (x3 + 1).toNatClampNeg) L_175_693 (by decide +kernel) rfl g168 rfl ?_
                                          refine r_aload_n L_175_694 rfl ?_
                                          refine r_iload_n L_175_695 rfl ?_
                                          refine r_iconst L_175_696 kI_2 ?_
                                          refine r_iadd L_175_697 ?_
                                          obtain ⟨g169, h⟩ := h
                                          refine r_iald (N := a_ln m 46) (j := (x3 + 2).toNatClampNeg) L_175_698 (by decide +kernel) rfl g169 rfl ?_
                                          refine r_cv L_175_699 rfl (Mi_mono h fun v171 m170 h => ?_)
                                          refine r_aload_n L_175_702 rfl ?_
                                          refine r_aload_n L_175_703 rfl ?_
                                          refine r_iload_n L_175_704 rfl ?_
                                          refine r_iconst L_175_705 kI_1 ?_
                                          refine r_iadd L_175_706 ?_
                                          obtain ⟨g172, h⟩ := h
                                          refine r_iald (N := a_ln m170 46) (j := (x3 + 1).toNatClampNeg) L_175_707 (by decide +kernel) rfl g172 rfl ?_
                                          refine r_aload_n L_175_708 rfl ?_
                                          refine r_iload_n L_175_709 rfl ?_
                                          refine r_iconst L_175_710 kI_2 ?_
                                          refine r_iadd L_175_711 ?_
                                          obtain ⟨g173, h⟩ := h
                                          refine r_iald (N := a_ln m170 46) (j := (x3 + 2).toNatClampNeg) L_175_712 (by decide +kernel) rfl g173 rfl ?_
                                          refine r_cv L_175_713 rfl (Mi_mono h fun v175 m174 h => ?_)
                                          refine r_icmp L_175_716 rfl (i_mono h (fun c176 h => ?_) (fun c176 h => ?_))
                                          · refine r_iinc (ls1 := [some (.inr (46, 0)), some (.inr (27, 0)), some (.inr (34, 0)), some (.inl (x3 + 7))]) L_175_1087 kI_7 rfl (Nat.le_of_ble_eq_true rfl) rfl ?_
                                            refine r_goto L_175_1090 ?_
                                            exact h
                                          · refine r_iconst L_175_719 kI_0 ?_
                                            exact r_zret L_175_720 RT_175 (Or.inl rfl) h
                                        · skip
                                          refine sw_t (tgt := 721) kT_19 (by decide) (i_mono h (fun c177 h => ?_) (fun c177 h => ?_))
                                          · refine r_aload_n L_175_721 rfl ?_
                                            refine r_aload_n L_175_722 rfl ?_
                                            refine r_iload_n L_175_723 rfl ?_
                                            refine r_iconst L_175_724 kI_1 ?_
                                            refine r_iadd L_175_725 ?_
                                            obtain ⟨g178, h⟩ := h
                                            refine r_iald (N := a_ln m 46) (j := (x3 + 1).toNatClampNeg) L_175_726 (by decide +kernel) rfl g178 rfl ?_
                                            refine r_aload_n L_175_727 rfl ?_
                                            refine r_iload_n L_175_728 rfl ?_
                                            refine r_iconst L_175_729 kI_2 ?_
                                            refine r_iadd L_175_730 ?_
                                            obtain ⟨g179, h⟩ := h
                                            refine r_iald (N := a_ln m 46) (j := (x3 + 2).toNatClampNeg) L_175_731 (by decide +kernel) rfl g179 rfl ?_
                                            refine r_cv L_175_732 rfl (Mi_mono h fun v181 m180 h => ?_)
                                            refine r_aload_n L_175_735 rfl ?_
                                            refine r_aload_n L_175_736 rfl ?_
                                            refine r_iload_n L_175_737 rfl ?_
                                            refine r_iconst L_175_738 kI_1 ?_
                                            refine r_iadd L_175_739 ?_
                                            obtain ⟨g182, h⟩ := h
                                            refine r_iald (N := a_ln m180 46) (j := (x3 + 1).toNatClampNeg) L_175_740 (by decide +kernel) rfl g182 rfl ?_
                                            refine r_aload_n L_175_741 rfl ?_
                                            refine r_iload_n L_175_742 rfl ?_
                                            refine r_iconst L_175_743 kI_2 ?_
                                            refine r_iadd L_175_744 ?_
                                            obtain ⟨g183, h⟩ := h
                                            refine r_iald (N := a_ln m180 46) (j := (x3 + 2).toNatClampNeg) L_175_745 (by decide +kernel) rfl g183 rfl ?_
                                            refine r_cv L_175_746 rfl (Mi_mono h fun v185 m184 h => ?_)
                                            refine r_icmp L_175_749 rfl (i_mono h (fun c186 h => ?_) (fun c186 h => ?_))
                                            · refine r_iinc (ls1 := [some (.inr (46, 0)), some (.inr (27, 0)), some (.inr (34, 0)), some (.inl (x3 + 7))]) L_175_1087 kI_7 rfl (Nat.le_of_ble_eq_true rfl) rfl ?_
                                              refine r_goto L_175_1090 ?_
                                              exact h
                                            · refine r_iconst L_175_752 kI_0 ?_
                                              exact r_zret L_175_753 RT_175 (Or.inl rfl) h
                                          · skip
                                            refine sw_t (tgt := 754) kT_20 (by decide) (i_mono h (fun c187 h => ?_) (fun c187 h => ?_))
                                            · refine r_aload_n L_175_754 rfl ?_
                                              refine r_aload_n L_175_755 rfl ?_
                                              refine r_iload_n L_175_756 rfl ?_
                                              refine r_iconst L_175_757 kI_1 ?_
                                              refine r_iadd L_175_758 ?_
                                              obtain ⟨g188, h⟩ := h
                                              refine r_iald (N := a_ln m 46) (j := (x3 + 1).toNatClampNeg) L_175_759 (by decide +kernel) rfl g188 rfl ?_
                                              refine r_aload_n L_175_760 rfl ?_
                                              refine r_iload_n L_175_761 rfl ?_
                                              refine r_iconst L_175_762 kI_2 ?_
                                              refine r_iadd L_175_763 ?_
                                              obtain ⟨g189, h⟩ := h
                                              refine r_iald (N := a_ln m 46) (j := (x3 + 2).toNatClampNeg) L_175_764 (by decide +kernel) rfl g189 rfl ?_
                                              refine r_cv L_175_765 rfl (Mi_mono h fun v191 m190 h => ?_)
                                              refine r_aload_n L_175_768 rfl ?_
                                              refine r_aload_n L_175_769 rfl ?_
                                              refine r_iload_n L_175_770 rfl ?_
                                              refine r_iconst L_175_771 kI_1 ?_
                                              refine r_iadd L_175_772 ?_
                                              obtain ⟨g192, h⟩ := h
                                              refine r_iald (N := a_ln m190 46) (j := (x3 + 1).toNatClampNeg) L_175_773 (by decide +kernel) rfl g192 rfl ?_
                                              refine r_aload_n L_175_774 rfl ?_
                                              refine r_iload_n L_175_775 rfl ?_
                                              refine r_iconst L_175_776 kI_2 ?_
                                              refine r_iadd L_175_777 ?_
                                              obtain ⟨g193, h⟩ := h
                                              refine r_iald (N := a_ln m190 46) (j := (x3 + 2).toNatClampNeg) L_175_778 (by decide +kernel) rfl g193 rfl ?_
                                              refine r_cv L_175_779 rfl (Mi_mono h fun v195 m194 h => ?_)
                                              refine r_icmp L_175_782 rfl (i_mono h (fun c196 h => ?_) (fun c196 h => ?_))
                                              · refine r_iinc (ls1 := [some (.inr (46, 0)), some (.inr (27, 0)), some (.inr (34, 0)), some (.inl (x3 + 7))]) L_175_1087 kI_7 rfl (Nat.le_of_ble_eq_true rfl) rfl ?_
                                                refine r_goto L_175_1090 ?_
                                                exact h
                                              · refine r_iconst L_175_785 kI_0 ?_
                                                exact r_zret L_175_786 RT_175 (Or.inl rfl) h
                                            · skip
                                              refine sw_t (tgt := 787) kT_21 (by decide) (i_mono h (fun c197 h => ?_) (fun c197 h => ?_))
                                              · refine r_aload_n L_175_787 rfl ?_
                                                refine r_aload_n L_175_788 rfl ?_
                                                refine r_iload_n L_175_789 rfl ?_
                                                refine r_iconst L_175_790 kI_1 ?_
                                                refine r_iadd L_175_791 ?_
                                                obtain ⟨g198, h⟩ := h
                                                refine r_iald (N := a_ln m 46) (j := (x3 + 1).toNatClampNeg) L_175_792 (by decide +kernel) rfl g198 rfl ?_
                                                refine r_aload_n L_175_793 rfl ?_
                                                refine r_iload_n L_175_794 rfl ?_
                                                refine r_iconst L_175_795 kI_2 ?_
                                                refine r_iadd L_175_796 ?_
                                                obtain ⟨g199, h⟩ := h
                                                refine r_iald (N := a_ln m 46) (j := (x3 + 2).toNatClampNeg) L_175_797 (by decide +kernel) rfl g199 rfl ?_
                                                refine r_aload_n L_175_798 rfl ?_
                                                refine r_iload_n L_175_799 rfl ?_
                                                refine r_iconst L_175_800 kI_3 ?_
                                                refine r_iadd L_175_801 ?_
                                                obtain ⟨g200, h⟩ := h
                                                refine r_iald (N := a_ln m 46) (j := (x3 + 3).toNatClampNeg) L_175_802 (by decide +kernel) rfl g200 rfl ?_
                                                refine r_cv L_175_803 rfl (Mi_mono h fun v202 m201 h => ?_)
                                                refine r_aload_n L_175_806 rfl ?_
                                                refine r_aload_n L_175_807 rfl ?_
                                                refine r_iload_n L_175_808 rfl ?_
                                                refine r_iconst L_175_809 kI_1 ?_
                                                refine r_iadd L_175_810 ?_
                                                obtain ⟨g203, h⟩ := h
                                                refine r_iald (N := a_ln m201 46) (j := (x3 + 1).toNatClampNeg) L_175_811 (by decide +kernel) rfl g203 rfl ?_
                                                refine r_aload_n L_175_812 rfl ?_
                                                refine r_iload_n L_175_813 rfl ?_
                                                refine r_iconst L_175_814 kI_2 ?_
                                                refine r_iadd L_175_815 ?_
                                                obtain ⟨g204, h⟩ := h
                                                refine r_iald (N := a_ln m201 46) (j := (x3 + 2).toNatClampNeg) L_175_816 (by decide +kernel) rfl g204 rfl ?_
                                                refine r_aload_n L_175_817 rfl ?_
                                                refine r_iload_n L_175_818 rfl ?_
                                                refine r_iconst L_175_819 kI_3 ?_
                                                refine r_iadd L_175_820 ?_
                                                obtain ⟨g205, h⟩ := h
                                                refine r_iald (N := a_ln m201 46) (j := (x3 + 3).toNatClampNeg) L_175_821 (by decide +kernel) rfl g205 rfl ?_
                                                refine r_cv L_175_822 rfl (Mi_mono h fun v207 m206 h => ?_)
                                                refine r_icmp L_175_825 rfl (i_mono h (fun c208 h => ?_) (fun c208 h => ?_))
                                                · refine r_iinc (ls1 := [some (.inr (46, 0)), some (.inr (27, 0)), some (.inr (34, 0)), some (.inl (x3 + 7))]) L_175_1087 kI_7 rfl (Nat.le_of_ble_eq_true rfl) rfl ?_
                                                  refine r_goto L_175_1090 ?_
                                                  exact h
                                                · refine r_iconst L_175_828 kI_0 ?_
                                                  exact r_zret L_175_829 RT_175 (Or.inl rfl) h
                                              · skip
                                                refine sw_t (tgt := 830) kT_22 (by decide) (i_mono h (fun c209 h => ?_) (fun c209 h => ?_))
                                                · refine r_aload_n L_175_830 rfl ?_
                                                  refine r_aload_n L_175_831 rfl ?_
                                                  refine r_iload_n L_175_832 rfl ?_
                                                  refine r_iconst L_175_833 kI_1 ?_
                                                  refine r_iadd L_175_834 ?_
                                                  obtain ⟨g210, h⟩ := h
                                                  refine r_iald (N := a_ln m 46) (j := (x3 + 1).toNatClampNeg) L_175_835 (by decide +kernel) rfl g210 rfl ?_
                                                  refine r_aload_n L_175_836 rfl ?_
                                                  refine r_iload_n L_175_837 rfl ?_
                                                  refine r_iconst L_175_838 kI_2 ?_
                                                  refine r_iadd L_175_839 ?_
                                                  obtain ⟨g211, h⟩ := h
                                                  refine r_iald (N := a_ln m 46) (j := (x3 + 2).toNatClampNeg) L_175_840 (by decide +kernel) rfl g211 rfl ?_
                                                  refine r_cv L_175_841 rfl (Mi_mono h fun v213 m212 h => ?_)
                                                  refine r_aload_n L_175_844 rfl ?_
                                                  refine r_aload_n L_175_845 rfl ?_
                                                  refine r_iload_n L_175_846 rfl ?_
                                                  refine r_iconst L_175_847 kI_1 ?_
                                                  refine r_iadd L_175_848 ?_
                                                  obtain ⟨g214, h⟩ := h
                                                  refine r_iald (N := a_ln m212 46) (j := (x3 + 1).toNatClampNeg) L_175_849 (by decide +kernel) rfl g214 rfl ?_
                                                  refine r_aload_n L_175_850 rfl ?_
                                                  refine r_iload_n L_175_851 rfl ?_
                                                  refine r_iconst L_175_852 kI_2 ?_
                                                  refine r_iadd L_175_853 ?_
                                                  obtain ⟨g215, h⟩ := h
                                                  refine r_iald (N := a_ln m212 46) (j := (x3 + 2).toNatClampNeg) L_175_854 (by decide +kernel) rfl g215 rfl ?_
                                                  refine r_cv L_175_855 rfl (Mi_mono h fun v217 m216 h => ?_)
                                                  refine r_icmp L_175_858 rfl (i_mono h (fun c218 h => ?_) (fun c218 h => ?_))
                                                  · refine r_iinc (ls1 := [some (.inr (46, 0)), some (.inr (27, 0)), some (.inr (34, 0)), some (.inl (x3 + 7))]) L_175_1087 kI_7 rfl (Nat.le_of_ble_eq_true rfl) rfl ?_
                                                    refine r_goto L_175_1090 ?_
                                                    exact h
                                                  · refine r_iconst L_175_861 kI_0 ?_
                                                    exact r_zret L_175_862 RT_175 (Or.inl rfl) h
                                                · skip
                                                  refine sw_t (tgt := 863) kT_23 (by decide) (i_mono h (fun c219 h => ?_) (fun c219 h => ?_))
                                                  · refine r_aload_n L_175_863 rfl ?_
                                                    refine r_aload_n L_175_864 rfl ?_
                                                    refine r_iload_n L_175_865 rfl ?_
                                                    refine r_iconst L_175_866 kI_1 ?_
                                                    refine r_iadd L_175_867 ?_
                                                    obtain ⟨g220, h⟩ := h
                                                    refine r_iald (N := a_ln m 46) (j := (x3 + 1).toNatClampNeg) L_175_868 (by decide +kernel) rfl g220 rfl ?_
                                                    refine r_cv L_175_869 rfl (Mi_mono h fun v222 m221 h => ?_)
                                                    refine r_aload_n L_175_872 rfl ?_
                                                    refine r_aload_n L_175_873 rfl ?_
                                                    refine r_iload_n L_175_874 rfl ?_
                                                    refine r_iconst L_175_875 kI_1 ?_
                                                    refine r_iadd L_175_876 ?_
                                                    obtain ⟨g223, h⟩ := h
                                                    refine r_iald (N := a_ln m221 46) (j := (x3 + 1).toNatClampNeg) L_175_877 (by decide +kernel) rfl g223 rfl ?_
                                                    refine r_cv L_175_878 rfl (Mi_mono h fun v225 m224 h => ?_)
                                                    refine r_icmp L_175_881 rfl (i_mono h (fun c226 h => ?_) (fun c226 h => ?_))
                                                    · refine r_iinc (ls1 := [some (.inr (46, 0)), some (.inr (27, 0)), some (.inr (34, 0)), some (.inl (x3 + 7))]) L_175_1087 kI_7 rfl (Nat.le_of_ble_eq_true rfl) rfl ?_
                                                      refine r_goto L_175_1090 ?_
                                                      exact h
                                                    · refine r_iconst L_175_884 kI_0 ?_
                                                      exact r_zret L_175_885 RT_175 (Or.inl rfl) h
                                                  · skip
                                                    refine sw_t (tgt := 886) kT_24 (by decide) (i_mono h (fun c227 h => ?_) (fun c227 h => ?_))
                                                    · refine r_aload_n L_175_886 rfl ?_
                                                      refine r_aload_n L_175_887 rfl ?_
                                                      refine r_iload_n L_175_888 rfl ?_
                                                      refine r_iconst L_175_889 kI_1 ?_
                                                      refine r_iadd L_175_890 ?_
                                                      obtain ⟨g228, h⟩ := h
                                                      refine r_iald (N := a_ln m 46) (j := (x3 + 1).toNatClampNeg) L_175_891 (by decide +kernel) rfl g228 rfl ?_
                                                      refine r_cv L_175_892 rfl (Mi_mono h fun v230 m229 h => ?_)
                                                      refine r_aload_n L_175_895 rfl ?_
                                                      refine r_aload_n L_175_896 rfl ?_
                                                      refine r_iload_n L_175_897 rfl ?_
                                                      refine r_iconst L_175_898 kI_1 ?_
                                                      refine r_iadd L_175_899 ?_
                                                      obtain ⟨g231, h⟩ := h
                                                      refine r_iald (N := a_ln m229 46) (j := (x3 + 1).toNatClampNeg) L_175_900 (by decide +kernel) rfl g231 rfl ?_
                                                      refine r_cv L_175_901 rfl (Mi_mono h fun v233 m232 h => ?_)
                                                      refine r_icmp L_175_904 rfl (i_mono h (fun c234 h => ?_) (fun c234 h => ?_))
                                                      · refine r_iinc (ls1 := [some (.inr (46, 0)), some (.inr (27, 0)), some (.inr (34, 0)), some (.inl (x3 + 7))]) L_175_1087 kI_7 rfl (Nat.le_of_ble_eq_true rfl) rfl ?_
                                                        refine r_goto L_175_1090 ?_
                                                        exact h
                                                      · refine r_iconst L_175_907 kI_0 ?_
                                                        exact r_zret L_175_908 RT_175 (Or.inl rfl) h
                                                    · skip
                                                      refine sw_t (tgt := 909) kT_25 (by decide) (i_mono h (fun c235 h => ?_) (fun c235 h => ?_))
                                                      · refine r_aload_n L_175_909 rfl ?_
                                                        refine r_aload_n L_175_910 rfl ?_
                                                        refine r_iload_n L_175_911 rfl ?_
                                                        refine r_iconst L_175_912 kI_1 ?_
                                                        refine r_iadd L_175_913 ?_
                                                        obtain ⟨g236, h⟩ := h
                                                        refine r_iald (N := a_ln m 46) (j := (x3 + 1).toNatClampNeg) L_175_914 (by decide +kernel) rfl g236 rfl ?_
                                                        refine r_cv L_175_915 rfl (Mi_mono h fun v238 m237 h => ?_)
                                                        refine r_aload_n L_175_918 rfl ?_
                                                        refine r_aload_n L_175_919 rfl ?_
                                                        refine r_iload_n L_175_920 rfl ?_
                                                        refine r_iconst L_175_921 kI_1 ?_
                                                        refine r_iadd L_175_922 ?_
                                                        obtain ⟨g239, h⟩ := h
                                                        refine r_iald (N := a_ln m237 46) (j := (x3 + 1).toNatClampNeg) L_175_923 (by decide +kernel) rfl g239 rfl ?_
                                                        refine r_cv L_175_924 rfl (Mi_mono h fun v241 m240 h => ?_)
                                                        refine r_icmp L_175_927 rfl (i_mono h (fun c242 h => ?_) (fun c242 h => ?_))
                                                        · refine r_iinc (ls1 := [some (.inr (46, 0)), some (.inr (27, 0)), some (.inr (34, 0)), some (.inl (x3 + 7))]) L_175_1087 kI_7 rfl (Nat.le_of_ble_eq_true rfl) rfl ?_
                                                          refine r_goto L_175_1090 ?_
                                                          exact h
                                                        · refine r_iconst L_175_930 kI_0 ?_
                                                          exact r_zret L_175_931 RT_175 (Or.inl rfl) h
                                                      · skip
                                                        refine sw_t (tgt := 932) kT_26 (by decide) (i_mono h (fun c243 h => ?_) (fun c243 h => ?_))
                                                        · refine r_aload_n L_175_932 rfl ?_
                                                          refine r_aload_n L_175_933 rfl ?_
                                                          refine r_iload_n L_175_934 rfl ?_
                                                          refine r_iconst L_175_935 kI_1 ?_
                                                          refine r_iadd L_175_936 ?_
                                                          obtain ⟨g244, h⟩ := h
                                                          refine r_iald (N := a_ln m 46) (j := (x3 + 1).toNatClampNeg) L_175_937 (by decide +kernel) rfl g244 rfl ?_
                                                          refine r_aload_n L_175_938 rfl ?_
                                                          refine r_iload_n L_175_939 rfl ?_
                                                          refine r_iconst L_175_940 kI_2 ?_
                                                          refine r_iadd L_175_941 ?_
                                                          obtain ⟨g245, h⟩ := h
                                                          refine r_iald (N := a_ln m 46) (j := (x3 + 2).toNatClampNeg) L_175_942 (by decide +kernel) rfl g245 rfl ?_
                                                          refine r_cv L_175_943 rfl (Mi_mono h fun v247 m246 h => ?_)
                                                          refine r_aload_n L_175_946 rfl ?_
                                                          refine r_aload_n L_175_947 rfl ?_
                                                          refine r_iload_n L_175_948 rfl ?_
                                                          refine r_iconst L_175_949 kI_1 ?_
                                                          refine r_iadd L_175_950 ?_
                                                          obtain ⟨g248, h⟩ := h
                                                          refine r_iald (N := a_ln m246 46) (j := (x3 + 1).toNatClampNeg) L_175_951 (by decide +kernel) rfl g248 rfl ?_
                                                          refine r_aload_n L_175_952 rfl ?_
                                                          refine r_iload_n L_175_953 rfl ?_
                                                          refine r_iconst L_175_954 kI_2 ?_
                                                          refine r_iadd L_175_955 ?_
                                                          obtain ⟨g249, h⟩ := h
                                                          refine r_iald (N := a_ln m246 46) (j := (x3 + 2).toNatClampNeg) L_175_956 (by decide +kernel) rfl g249 rfl ?_
                                                          refine r_cv L_175_957 rfl (Mi_mono h fun v251 m250 h => ?_)
                                                          refine r_icmp L_175_960 rfl (i_mono h (fun c252 h => ?_) (fun c252 h => ?_))
                                                          · refine r_iinc (ls1 := [some (.inr (46, 0)), some (.inr (27, 0)), some (.inr (34, 0)), some (.inl (x3 + 7))]) L_175_1087 kI_7 rfl (Nat.le_of_ble_eq_true rfl) rfl ?_
                                                            refine r_goto L_175_1090 ?_
                                                            exact h
                                                          · refine r_iconst L_175_963 kI_0 ?_
                                                            exact r_zret L_175_964 RT_175 (Or.inl rfl) h
                                                        · skip
                                                          refine sw_t (tgt := 965) kT_27 (by decide) (i_mono h (fun c253 h => ?_) (fun c253 h => ?_))
                                                          · refine r_aload_n L_175_965 rfl ?_
                                                            refine r_aload_n L_175_966 rfl ?_
                                                            refine r_iload_n L_175_967 rfl ?_
                                                            refine r_iconst L_175_968 kI_1 ?_
                                                            refine r_iadd L_175_969 ?_
                                                            obtain ⟨g254, h⟩ := h
                                                            refine r_iald (N := a_ln m 46) (j := (x3 + 1).toNatClampNeg) L_175_970 (by decide +kernel) rfl g254 rfl ?_
                                                            refine r_aload_n L_175_971 rfl ?_
                                                            refine r_iload_n L_175_972 rfl ?_
                                                            refine r_iconst L_175_973 kI_2 ?_
                                                            refine r_iadd L_175_974 ?_
                                                            obtain ⟨g255, h⟩ := h
                                                            refine r_iald (N := a_ln m 46) (j := (x3 + 2).toNatClampNeg) L_175_975 (by decide +kernel) rfl g255 rfl ?_
                                                            refine r_aload_n L_175_976 rfl ?_
                                                            refine r_iload_n L_175_977 rfl ?_
                                                            refine r_iconst L_175_978 kI_3 ?_
                                                            refine r_iadd L_175_979 ?_
                                                            obtain ⟨g256, h⟩ := h
                                                            refine r_iald (N := a_ln m 46) (j := (x3 + 3).toNatClampNeg) L_175_980 (by decide +kernel) rfl g256 rfl ?_
                                                            refine r_aload_n L_175_981 rfl ?_
                                                            refine r_iload_n L_175_982 rfl ?_
                                                            refine r_iconst L_175_983 kI_4 ?_
                                                            refine r_iadd L_175_984 ?_
                                                            obtain ⟨g257, h⟩ := h
                                                            refine r_iald (N := a_ln m 46) (j := (x3 + 4).toNatClampNeg) L_175_985 (by decide +kernel) rfl g257 rfl ?_
                                                            refine r_cv L_175_986 rfl (Mi_mono h fun v259 m258 h => ?_)
                                                            refine r_aload_n L_175_989 rfl ?_
                                                            refine r_aload_n L_175_990 rfl ?_
                                                            refine r_iload_n L_175_991 rfl ?_
                                                            refine r_iconst L_175_992 kI_1 ?_
                                                            refine r_iadd L_175_993 ?_
                                                            obtain ⟨g260, h⟩ := h
                                                            refine r_iald (N := a_ln m258 46) (j := (x3 + 1).toNatClampNeg) L_175_994 (by decide +kernel) rfl g260 rfl ?_
                                                            refine r_aload_n L_175_995 rfl ?_
                                                            refine r_iload_n L_175_996 rfl ?_
                                                            refine r_iconst L_175_997 kI_2 ?_
                                                            refine r_iadd L_175_998 ?_
                                                            obtain ⟨g261, h⟩ := h
                                                            refine r_iald (N := a_ln m258 46) (j := (x3 + 2).toNatClampNeg) L_175_999 (by decide +kernel) rfl g261 rfl ?_
                                                            refine r_aload_n L_175_1000 rfl ?_
                                                            refine r_iload_n L_175_1001 rfl ?_
                                                            refine r_iconst L_175_1002 kI_3 ?_
                                                            refine r_iadd L_175_1003 ?_
                                                            obtain ⟨g262, h⟩ := h
                                                            refine r_iald (N := a_ln m258 46) (j := (x3 + 3).toNatClampNeg) L_175_1004 (by decide +kernel) rfl g262 rfl ?_
                                                            refine r_aload_n L_175_1005 rfl ?_
                                                            refine r_iload_n L_175_1006 rfl ?_
                                                            refine r_iconst L_175_1007 kI_4 ?_
                                                            refine r_iadd L_175_1008 ?_
                                                            obtain ⟨g263, h⟩ := h
                                                            refine r_iald (N := a_ln m258 46) (j := (x3 + 4).toNatClampNeg) L_175_1009 (by decide +kernel) rfl g263 rfl ?_
                                                            refine r_cv L_175_1010 rfl (Mi_mono h fun v265 m264 h => ?_)
                                                            refine r_icmp L_175_1013 rfl (i_mono h (fun c266 h => ?_) (fun c266 h => ?_))
                                                            · refine r_iinc (ls1 := [some (.inr (46, 0)), some (.inr (27, 0)), some (.inr (34, 0)), some (.inl (x3 + 7))]) L_175_1087 kI_7 rfl (Nat.le_of_ble_eq_true rfl) rfl ?_
                                                              refine r_goto L_175_1090 ?_
                                                              exact h
                                                            · refine r_iconst L_175_1016 kI_0 ?_
                                                              exact r_zret L_175_1017 RT_175 (Or.inl rfl) h
                                                          · skip
                                                            refine sw_t (tgt := 1018) kT_28 (by decide) (i_mono h (fun c267 h => ?_) (fun c267 h => ?_))
                                                            · refine r_aload_n L_175_1018 rfl ?_
                                                              refine r_aload_n L_175_1019 rfl ?_
                                                              refine r_iload_n L_175_1020 rfl ?_
                                                              refine r_iconst L_175_1021 kI_1 ?_
                                                              refine r_iadd L_175_1022 ?_
                                                              obtain ⟨g268, h⟩ := h
                                                              refine r_iald (N := a_ln m 46) (j := (x3 + 1).toNatClampNeg) L_175_1023 (by decide +kernel) rfl g268 rfl ?_
                                                              refine r_cv L_175_1024 rfl (Mi_mono h fun v270 m269 h => ?_)
                                                              refine r_aload_n L_175_1027 rfl ?_
                                                              refine r_aload_n L_175_1028 rfl ?_
                                                              refine r_iload_n L_175_1029 rfl ?_
                                                              refine r_iconst L_175_1030 kI_1 ?_
                                                              refine r_iadd L_175_1031 ?_
                                                              obtain ⟨g271, h⟩ := h
                                                              refine r_iald (N := a_ln m269 46) (j := (x3 + 1).toNatClampNeg) L_175_1032 (by decide +kernel) rfl g271 rfl ?_
                                                              refine r_cv L_175_1033 rfl (Mi_mono h fun v273 m272 h => ?_)
                                                              refine r_icmp L_175_1036 rfl (i_mono h (fun c274 h => ?_) (fun c274 h => ?_))
                                                              · refine r_iinc (ls1 := [some (.inr (46, 0)), some (.inr (27, 0)), some (.inr (34, 0)), some (.inl (x3 + 7))]) L_175_1087 kI_7 rfl (Nat.le_of_ble_eq_true rfl) rfl ?_
                                                                refine r_goto L_175_1090 ?_
                                                                exact h
                                                              · refine r_iconst L_175_1039 kI_0 ?_
                                                                exact r_zret L_175_1040 RT_175 (Or.inl rfl) h
                                                            · skip
                                                              refine sw_t (tgt := 1041) kT_29 (by decide) (i_mono h (fun c275 h => ?_) (fun c275 h => ?_))
                                                              · refine r_aload_n L_175_1041 rfl ?_
                                                                refine r_aload_n L_175_1042 rfl ?_
                                                                refine r_iload_n L_175_1043 rfl ?_
                                                                refine r_iconst L_175_1044 kI_1 ?_
                                                                refine r_iadd L_175_1045 ?_
                                                                obtain ⟨g276, h⟩ := h
                                                                refine r_iald (N := a_ln m 46) (j := (x3 + 1).toNatClampNeg) L_175_1046 (by decide +kernel) rfl g276 rfl ?_
                                                                refine r_aload_n L_175_1047 rfl ?_
                                                                refine r_iload_n L_175_1048 rfl ?_
                                                                refine r_iconst L_175_1049 kI_2 ?_
                                                                refine r_iadd L_175_1050 ?_
                                                                obtain ⟨g277, h⟩ := h
                                                                refine r_iald (N := a_ln m 46) (j := (x3 + 2).toNatClampNeg) L_175_1051 (by decide +kernel) rfl g277 rfl ?_
                                                                refine r_cv L_175_1052 rfl (Mi_mono h fun v279 m278 h => ?_)
                                                                refine r_aload_n L_175_1055 rfl ?_
                                                                refine r_aload_n L_175_1056 rfl ?_
                                                                refine r_iload_n L_175_1057 rfl ?_
                                                                refine r_iconst L_175_1058 kI_1 ?_
                                                                refine r_iadd L_175_1059 ?_
                                                                obtain ⟨g280, h⟩ := h
                                                                refine r_iald (N := a_ln m278 46) (j := (x3 + 1).toNatClampNeg) L_175_1060 (by decide +kernel) rfl g280 rfl ?_
                                                                refine r_aload_n L_175_1061 rfl ?_
                                                                refine r_iload_n L_175_1062 rfl ?_
                                                                refine r_iconst L_175_1063 kI_2 ?_
                                                                refine r_iadd L_175_1064 ?_
                                                                obtain ⟨g281, h⟩ := h
                                                                refine r_iald (N := a_ln m278 46) (j := (x3 + 2).toNatClampNeg) L_175_1065 (by decide +kernel) rfl g281 rfl ?_
                                                                refine r_cv L_175_1066 rfl (Mi_mono h fun v283 m282 h => ?_)
                                                                refine r_icmp L_175_1069 rfl (i_mono h (fun c284 h => ?_) (fun c284 h => ?_))
                                                                · refine r_iinc (ls1 := [some (.inr (46, 0)), some (.inr (27, 0)), some (.inr (34, 0)), some (.inl (x3 + 7))]) L_175_1087 kI_7 rfl (Nat.le_of_ble_eq_true rfl) rfl ?_
                                                                  refine r_goto L_175_1090 ?_
                                                                  exact h
                                                                · refine r_iconst L_175_1072 kI_0 ?_
                                                                  exact r_zret L_175_1073 RT_175 (Or.inl rfl) h
                                                              · skip
                                                                refine sw_t (tgt := 1074) kT_30 (by decide) (i_mono h (fun c285 h => ?_) (fun c285 h => ?_))
                                                                · refine r_aload_n L_175_1074 rfl ?_
                                                                  refine r_cv L_175_1075 rfl (Mi_mono h fun v287 m286 h => ?_)
                                                                  refine r_aload_n L_175_1078 rfl ?_
                                                                  refine r_cv L_175_1079 rfl (Mi_mono h fun v289 m288 h => ?_)
                                                                  refine r_icmp L_175_1082 rfl (i_mono h (fun c290 h => ?_) (fun c290 h => ?_))
                                                                  · refine r_iinc (ls1 := [some (.inr (46, 0)), some (.inr (27, 0)), some (.inr (34, 0)), some (.inl (x3 + 7))]) L_175_1087 kI_7 rfl (Nat.le_of_ble_eq_true rfl) rfl ?_
                                                                    refine r_goto L_175_1090 ?_
                                                                    exact h
                                                                  · refine r_iconst L_175_1085 kI_0 ?_
                                                                    exact r_zret L_175_1086 RT_175 (Or.inl rfl) h
                                                                · skip
                                                                  refine sw_d (tgt := 1087) (by decide) ?_
                                                                  refine r_iinc (ls1 := [some (.inr (46, 0)), some (.inr (27, 0)), some (.inr (34, 0)), some (.inl (x3 + 7))]) L_175_1087 kI_7 rfl (Nat.le_of_ble_eq_true rfl) rfl ?_
                                                                  refine r_goto L_175_1090 ?_
                                                                  exact h
