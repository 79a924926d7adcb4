/-! the law: its code, its switch, its cases -/
theorem e_L_0 : dec code 0 = some (.new 7, 3, 0, 0) := by decide +kernel
theorem e_L_3 : dec code 3 = some (.dup, 4, 0, 0) := by decide +kernel
theorem e_L_4 : dec code 4 = some (.invokespecial 9, 7, 0, 0) := by decide +kernel
theorem e_L_7 : dec code 7 = some (.astore_n 1, 8, 1, 0) := by decide +kernel
theorem e_L_8 : dec code 8 = some (.new 10, 11, 0, 0) := by decide +kernel
theorem e_L_11 : dec code 11 = some (.dup, 12, 0, 0) := by decide +kernel
theorem e_L_12 : dec code 12 = some (.invokespecial 12, 15, 0, 0) := by decide +kernel
theorem e_L_15 : dec code 15 = some (.astore_n 2, 16, 2, 0) := by decide +kernel
theorem e_L_16 : dec code 16 = some (.iconst 0, 17, 0, 0) := by decide +kernel
theorem e_L_17 : dec code 17 = some (.istore_n 3, 18, 3, 0) := by decide +kernel
theorem e_L_18 : dec code 18 = some (.iload_n 3, 19, 3, 0) := by decide +kernel
theorem e_L_19 : dec code 19 = some (.aload_n 0, 20, 0, 0) := by decide +kernel
theorem e_L_20 : dec code 20 = some (.arraylength, 21, 0, 0) := by decide +kernel
theorem e_L_21 : dec code 21 = some (.iconst 4, 22, 0, 4) := by decide +kernel
theorem e_L_22 : dec code 22 = some (.isub, 23, 0, 0) := by decide +kernel
theorem e_L_23 : dec code 23 = some (.if_icmp .gt 712, 26, 735, 0) := by decide +kernel
theorem e_L_26 : dec code 26 = some (.aload_n 0, 27, 0, 0) := by decide +kernel
theorem e_L_27 : dec code 27 = some (.iload_n 3, 28, 3, 0) := by decide +kernel
theorem e_L_28 : dec code 28 = some (.iaload, 29, 0, 0) := by decide +kernel
theorem e_L_29 : dec code 29 = some (.bipush 31, 31, 0, 31) := by decide +kernel
theorem e_L_31 : dec code 31 = some (.iand, 32, 0, 0) := by decide +kernel
theorem e_L_32 : dec code 32 = some (.tableswitch 697 0 22 #[108, 141, 184, 207, 230, 263, 296, 329, 362, 385, 408, 431, 464, 497, 510, 523, 546, 599, 612, 625, 638, 651, 674], 140, 0, 0) := by decide +kernel
theorem e_L_140 : dec code 140 = some (.aload_n 1, 141, 1, 0) := by decide +kernel
theorem e_L_141 : dec code 141 = some (.aload_n 0, 142, 0, 0) := by decide +kernel
theorem e_L_142 : dec code 142 = some (.iload_n 3, 143, 3, 0) := by decide +kernel
theorem e_L_143 : dec code 143 = some (.iconst 1, 144, 0, 1) := by decide +kernel
theorem e_L_144 : dec code 144 = some (.iadd, 145, 0, 0) := by decide +kernel
theorem e_L_145 : dec code 145 = some (.iaload, 146, 0, 0) := by decide +kernel
theorem e_L_146 : dec code 146 = some (.aload_n 0, 147, 0, 0) := by decide +kernel
theorem e_L_147 : dec code 147 = some (.iload_n 3, 148, 3, 0) := by decide +kernel
theorem e_L_148 : dec code 148 = some (.iconst 2, 149, 0, 2) := by decide +kernel
theorem e_L_149 : dec code 149 = some (.iadd, 150, 0, 0) := by decide +kernel
theorem e_L_150 : dec code 150 = some (.iaload, 151, 0, 0) := by decide +kernel
theorem e_L_151 : dec code 151 = some (.invokevirtual 13, 154, 0, 0) := by decide +kernel
theorem e_L_154 : dec code 154 = some (.aload_n 2, 155, 2, 0) := by decide +kernel
theorem e_L_155 : dec code 155 = some (.aload_n 0, 156, 0, 0) := by decide +kernel
theorem e_L_156 : dec code 156 = some (.iload_n 3, 157, 3, 0) := by decide +kernel
theorem e_L_157 : dec code 157 = some (.iconst 1, 158, 0, 1) := by decide +kernel
theorem e_L_158 : dec code 158 = some (.iadd, 159, 0, 0) := by decide +kernel
theorem e_L_159 : dec code 159 = some (.iaload, 160, 0, 0) := by decide +kernel
theorem e_L_160 : dec code 160 = some (.aload_n 0, 161, 0, 0) := by decide +kernel
theorem e_L_161 : dec code 161 = some (.iload_n 3, 162, 3, 0) := by decide +kernel
theorem e_L_162 : dec code 162 = some (.iconst 2, 163, 0, 2) := by decide +kernel
theorem e_L_163 : dec code 163 = some (.iadd, 164, 0, 0) := by decide +kernel
theorem e_L_164 : dec code 164 = some (.iaload, 165, 0, 0) := by decide +kernel
theorem e_L_165 : dec code 165 = some (.invokevirtual 17, 168, 0, 0) := by decide +kernel
theorem e_L_168 : dec code 168 = some (.if_icmp .eq 561, 171, 729, 0) := by decide +kernel
theorem e_L_171 : dec code 171 = some (.iconst 0, 172, 0, 0) := by decide +kernel
theorem e_L_172 : dec code 172 = some (.ireturn, 173, 0, 0) := by decide +kernel
theorem e_L_173 : dec code 173 = some (.aload_n 1, 174, 1, 0) := by decide +kernel
theorem e_L_174 : dec code 174 = some (.aload_n 0, 175, 0, 0) := by decide +kernel
theorem e_L_175 : dec code 175 = some (.iload_n 3, 176, 3, 0) := by decide +kernel
theorem e_L_176 : dec code 176 = some (.iconst 1, 177, 0, 1) := by decide +kernel
theorem e_L_177 : dec code 177 = some (.iadd, 178, 0, 0) := by decide +kernel
theorem e_L_178 : dec code 178 = some (.iaload, 179, 0, 0) := by decide +kernel
theorem e_L_179 : dec code 179 = some (.aload_n 0, 180, 0, 0) := by decide +kernel
theorem e_L_180 : dec code 180 = some (.iload_n 3, 181, 3, 0) := by decide +kernel
theorem e_L_181 : dec code 181 = some (.iconst 2, 182, 0, 2) := by decide +kernel
theorem e_L_182 : dec code 182 = some (.iadd, 183, 0, 0) := by decide +kernel
theorem e_L_183 : dec code 183 = some (.iaload, 184, 0, 0) := by decide +kernel
theorem e_L_184 : dec code 184 = some (.aload_n 0, 185, 0, 0) := by decide +kernel
theorem e_L_185 : dec code 185 = some (.iload_n 3, 186, 3, 0) := by decide +kernel
theorem e_L_186 : dec code 186 = some (.iconst 3, 187, 0, 3) := by decide +kernel
theorem e_L_187 : dec code 187 = some (.iadd, 188, 0, 0) := by decide +kernel
theorem e_L_188 : dec code 188 = some (.iaload, 189, 0, 0) := by decide +kernel
theorem e_L_189 : dec code 189 = some (.invokevirtual 18, 192, 0, 0) := by decide +kernel
theorem e_L_192 : dec code 192 = some (.aload_n 2, 193, 2, 0) := by decide +kernel
theorem e_L_193 : dec code 193 = some (.aload_n 0, 194, 0, 0) := by decide +kernel
theorem e_L_194 : dec code 194 = some (.iload_n 3, 195, 3, 0) := by decide +kernel
theorem e_L_195 : dec code 195 = some (.iconst 1, 196, 0, 1) := by decide +kernel
theorem e_L_196 : dec code 196 = some (.iadd, 197, 0, 0) := by decide +kernel
theorem e_L_197 : dec code 197 = some (.iaload, 198, 0, 0) := by decide +kernel
theorem e_L_198 : dec code 198 = some (.aload_n 0, 199, 0, 0) := by decide +kernel
theorem e_L_199 : dec code 199 = some (.iload_n 3, 200, 3, 0) := by decide +kernel
theorem e_L_200 : dec code 200 = some (.iconst 2, 201, 0, 2) := by decide +kernel
theorem e_L_201 : dec code 201 = some (.iadd, 202, 0, 0) := by decide +kernel
theorem e_L_202 : dec code 202 = some (.iaload, 203, 0, 0) := by decide +kernel
theorem e_L_203 : dec code 203 = some (.aload_n 0, 204, 0, 0) := by decide +kernel
theorem e_L_204 : dec code 204 = some (.iload_n 3, 205, 3, 0) := by decide +kernel
theorem e_L_205 : dec code 205 = some (.iconst 3, 206, 0, 3) := by decide +kernel
theorem e_L_206 : dec code 206 = some (.iadd, 207, 0, 0) := by decide +kernel
theorem e_L_207 : dec code 207 = some (.iaload, 208, 0, 0) := by decide +kernel
theorem e_L_208 : dec code 208 = some (.invokevirtual 22, 211, 0, 0) := by decide +kernel
theorem e_L_211 : dec code 211 = some (.if_icmp .eq 518, 214, 729, 0) := by decide +kernel
theorem e_L_214 : dec code 214 = some (.iconst 0, 215, 0, 0) := by decide +kernel
theorem e_L_215 : dec code 215 = some (.ireturn, 216, 0, 0) := by decide +kernel
theorem e_L_216 : dec code 216 = some (.aload_n 1, 217, 1, 0) := by decide +kernel
theorem e_L_217 : dec code 217 = some (.aload_n 0, 218, 0, 0) := by decide +kernel
theorem e_L_218 : dec code 218 = some (.iload_n 3, 219, 3, 0) := by decide +kernel
theorem e_L_219 : dec code 219 = some (.iconst 1, 220, 0, 1) := by decide +kernel
theorem e_L_220 : dec code 220 = some (.iadd, 221, 0, 0) := by decide +kernel
theorem e_L_221 : dec code 221 = some (.iaload, 222, 0, 0) := by decide +kernel
theorem e_L_222 : dec code 222 = some (.invokevirtual 23, 225, 0, 0) := by decide +kernel
theorem e_L_225 : dec code 225 = some (.aload_n 2, 226, 2, 0) := by decide +kernel
theorem e_L_226 : dec code 226 = some (.aload_n 0, 227, 0, 0) := by decide +kernel
theorem e_L_227 : dec code 227 = some (.iload_n 3, 228, 3, 0) := by decide +kernel
theorem e_L_228 : dec code 228 = some (.iconst 1, 229, 0, 1) := by decide +kernel
theorem e_L_229 : dec code 229 = some (.iadd, 230, 0, 0) := by decide +kernel
theorem e_L_230 : dec code 230 = some (.iaload, 231, 0, 0) := by decide +kernel
theorem e_L_231 : dec code 231 = some (.invokevirtual 27, 234, 0, 0) := by decide +kernel
theorem e_L_234 : dec code 234 = some (.if_icmp .eq 495, 237, 729, 0) := by decide +kernel
theorem e_L_237 : dec code 237 = some (.iconst 0, 238, 0, 0) := by decide +kernel
theorem e_L_238 : dec code 238 = some (.ireturn, 239, 0, 0) := by decide +kernel
theorem e_L_239 : dec code 239 = some (.aload_n 1, 240, 1, 0) := by decide +kernel
theorem e_L_240 : dec code 240 = some (.aload_n 0, 241, 0, 0) := by decide +kernel
theorem e_L_241 : dec code 241 = some (.iload_n 3, 242, 3, 0) := by decide +kernel
theorem e_L_242 : dec code 242 = some (.iconst 1, 243, 0, 1) := by decide +kernel
theorem e_L_243 : dec code 243 = some (.iadd, 244, 0, 0) := by decide +kernel
theorem e_L_244 : dec code 244 = some (.iaload, 245, 0, 0) := by decide +kernel
theorem e_L_245 : dec code 245 = some (.invokevirtual 28, 248, 0, 0) := by decide +kernel
theorem e_L_248 : dec code 248 = some (.aload_n 2, 249, 2, 0) := by decide +kernel
theorem e_L_249 : dec code 249 = some (.aload_n 0, 250, 0, 0) := by decide +kernel
theorem e_L_250 : dec code 250 = some (.iload_n 3, 251, 3, 0) := by decide +kernel
theorem e_L_251 : dec code 251 = some (.iconst 1, 252, 0, 1) := by decide +kernel
theorem e_L_252 : dec code 252 = some (.iadd, 253, 0, 0) := by decide +kernel
theorem e_L_253 : dec code 253 = some (.iaload, 254, 0, 0) := by decide +kernel
theorem e_L_254 : dec code 254 = some (.invokevirtual 31, 257, 0, 0) := by decide +kernel
theorem e_L_257 : dec code 257 = some (.if_icmp .eq 472, 260, 729, 0) := by decide +kernel
theorem e_L_260 : dec code 260 = some (.iconst 0, 261, 0, 0) := by decide +kernel
theorem e_L_261 : dec code 261 = some (.ireturn, 262, 0, 0) := by decide +kernel
theorem e_L_262 : dec code 262 = some (.aload_n 1, 263, 1, 0) := by decide +kernel
theorem e_L_263 : dec code 263 = some (.aload_n 0, 264, 0, 0) := by decide +kernel
theorem e_L_264 : dec code 264 = some (.iload_n 3, 265, 3, 0) := by decide +kernel
theorem e_L_265 : dec code 265 = some (.iconst 1, 266, 0, 1) := by decide +kernel
theorem e_L_266 : dec code 266 = some (.iadd, 267, 0, 0) := by decide +kernel
theorem e_L_267 : dec code 267 = some (.iaload, 268, 0, 0) := by decide +kernel
theorem e_L_268 : dec code 268 = some (.aload_n 0, 269, 0, 0) := by decide +kernel
theorem e_L_269 : dec code 269 = some (.iload_n 3, 270, 3, 0) := by decide +kernel
theorem e_L_270 : dec code 270 = some (.iconst 2, 271, 0, 2) := by decide +kernel
theorem e_L_271 : dec code 271 = some (.iadd, 272, 0, 0) := by decide +kernel
theorem e_L_272 : dec code 272 = some (.iaload, 273, 0, 0) := by decide +kernel
theorem e_L_273 : dec code 273 = some (.invokevirtual 32, 276, 0, 0) := by decide +kernel
theorem e_L_276 : dec code 276 = some (.aload_n 2, 277, 2, 0) := by decide +kernel
theorem e_L_277 : dec code 277 = some (.aload_n 0, 278, 0, 0) := by decide +kernel
theorem e_L_278 : dec code 278 = some (.iload_n 3, 279, 3, 0) := by decide +kernel
theorem e_L_279 : dec code 279 = some (.iconst 1, 280, 0, 1) := by decide +kernel
theorem e_L_280 : dec code 280 = some (.iadd, 281, 0, 0) := by decide +kernel
theorem e_L_281 : dec code 281 = some (.iaload, 282, 0, 0) := by decide +kernel
theorem e_L_282 : dec code 282 = some (.aload_n 0, 283, 0, 0) := by decide +kernel
theorem e_L_283 : dec code 283 = some (.iload_n 3, 284, 3, 0) := by decide +kernel
theorem e_L_284 : dec code 284 = some (.iconst 2, 285, 0, 2) := by decide +kernel
theorem e_L_285 : dec code 285 = some (.iadd, 286, 0, 0) := by decide +kernel
theorem e_L_286 : dec code 286 = some (.iaload, 287, 0, 0) := by decide +kernel
theorem e_L_287 : dec code 287 = some (.invokevirtual 35, 290, 0, 0) := by decide +kernel
theorem e_L_290 : dec code 290 = some (.if_icmp .eq 439, 293, 729, 0) := by decide +kernel
theorem e_L_293 : dec code 293 = some (.iconst 0, 294, 0, 0) := by decide +kernel
theorem e_L_294 : dec code 294 = some (.ireturn, 295, 0, 0) := by decide +kernel
theorem e_L_295 : dec code 295 = some (.aload_n 1, 296, 1, 0) := by decide +kernel
theorem e_L_296 : dec code 296 = some (.aload_n 0, 297, 0, 0) := by decide +kernel
theorem e_L_297 : dec code 297 = some (.iload_n 3, 298, 3, 0) := by decide +kernel
theorem e_L_298 : dec code 298 = some (.iconst 1, 299, 0, 1) := by decide +kernel
theorem e_L_299 : dec code 299 = some (.iadd, 300, 0, 0) := by decide +kernel
theorem e_L_300 : dec code 300 = some (.iaload, 301, 0, 0) := by decide +kernel
theorem e_L_301 : dec code 301 = some (.aload_n 0, 302, 0, 0) := by decide +kernel
theorem e_L_302 : dec code 302 = some (.iload_n 3, 303, 3, 0) := by decide +kernel
theorem e_L_303 : dec code 303 = some (.iconst 2, 304, 0, 2) := by decide +kernel
theorem e_L_304 : dec code 304 = some (.iadd, 305, 0, 0) := by decide +kernel
theorem e_L_305 : dec code 305 = some (.iaload, 306, 0, 0) := by decide +kernel
theorem e_L_306 : dec code 306 = some (.invokevirtual 36, 309, 0, 0) := by decide +kernel
theorem e_L_309 : dec code 309 = some (.aload_n 2, 310, 2, 0) := by decide +kernel
theorem e_L_310 : dec code 310 = some (.aload_n 0, 311, 0, 0) := by decide +kernel
theorem e_L_311 : dec code 311 = some (.iload_n 3, 312, 3, 0) := by decide +kernel
theorem e_L_312 : dec code 312 = some (.iconst 1, 313, 0, 1) := by decide +kernel
theorem e_L_313 : dec code 313 = some (.iadd, 314, 0, 0) := by decide +kernel
theorem e_L_314 : dec code 314 = some (.iaload, 315, 0, 0) := by decide +kernel
theorem e_L_315 : dec code 315 = some (.aload_n 0, 316, 0, 0) := by decide +kernel
theorem e_L_316 : dec code 316 = some (.iload_n 3, 317, 3, 0) := by decide +kernel
theorem e_L_317 : dec code 317 = some (.iconst 2, 318, 0, 2) := by decide +kernel
theorem e_L_318 : dec code 318 = some (.iadd, 319, 0, 0) := by decide +kernel
theorem e_L_319 : dec code 319 = some (.iaload, 320, 0, 0) := by decide +kernel
theorem e_L_320 : dec code 320 = some (.invokevirtual 39, 323, 0, 0) := by decide +kernel
theorem e_L_323 : dec code 323 = some (.if_icmp .eq 406, 326, 729, 0) := by decide +kernel
theorem e_L_326 : dec code 326 = some (.iconst 0, 327, 0, 0) := by decide +kernel
theorem e_L_327 : dec code 327 = some (.ireturn, 328, 0, 0) := by decide +kernel
theorem e_L_328 : dec code 328 = some (.aload_n 1, 329, 1, 0) := by decide +kernel
theorem e_L_329 : dec code 329 = some (.aload_n 0, 330, 0, 0) := by decide +kernel
theorem e_L_330 : dec code 330 = some (.iload_n 3, 331, 3, 0) := by decide +kernel
theorem e_L_331 : dec code 331 = some (.iconst 1, 332, 0, 1) := by decide +kernel
theorem e_L_332 : dec code 332 = some (.iadd, 333, 0, 0) := by decide +kernel
theorem e_L_333 : dec code 333 = some (.iaload, 334, 0, 0) := by decide +kernel
theorem e_L_334 : dec code 334 = some (.aload_n 0, 335, 0, 0) := by decide +kernel
theorem e_L_335 : dec code 335 = some (.iload_n 3, 336, 3, 0) := by decide +kernel
theorem e_L_336 : dec code 336 = some (.iconst 2, 337, 0, 2) := by decide +kernel
theorem e_L_337 : dec code 337 = some (.iadd, 338, 0, 0) := by decide +kernel
theorem e_L_338 : dec code 338 = some (.iaload, 339, 0, 0) := by decide +kernel
theorem e_L_339 : dec code 339 = some (.invokevirtual 40, 342, 0, 0) := by decide +kernel
theorem e_L_342 : dec code 342 = some (.aload_n 2, 343, 2, 0) := by decide +kernel
theorem e_L_343 : dec code 343 = some (.aload_n 0, 344, 0, 0) := by decide +kernel
theorem e_L_344 : dec code 344 = some (.iload_n 3, 345, 3, 0) := by decide +kernel
theorem e_L_345 : dec code 345 = some (.iconst 1, 346, 0, 1) := by decide +kernel
theorem e_L_346 : dec code 346 = some (.iadd, 347, 0, 0) := by decide +kernel
theorem e_L_347 : dec code 347 = some (.iaload, 348, 0, 0) := by decide +kernel
theorem e_L_348 : dec code 348 = some (.aload_n 0, 349, 0, 0) := by decide +kernel
theorem e_L_349 : dec code 349 = some (.iload_n 3, 350, 3, 0) := by decide +kernel
theorem e_L_350 : dec code 350 = some (.iconst 2, 351, 0, 2) := by decide +kernel
theorem e_L_351 : dec code 351 = some (.iadd, 352, 0, 0) := by decide +kernel
theorem e_L_352 : dec code 352 = some (.iaload, 353, 0, 0) := by decide +kernel
theorem e_L_353 : dec code 353 = some (.invokevirtual 43, 356, 0, 0) := by decide +kernel
theorem e_L_356 : dec code 356 = some (.if_icmp .eq 373, 359, 729, 0) := by decide +kernel
theorem e_L_359 : dec code 359 = some (.iconst 0, 360, 0, 0) := by decide +kernel
theorem e_L_360 : dec code 360 = some (.ireturn, 361, 0, 0) := by decide +kernel
theorem e_L_361 : dec code 361 = some (.aload_n 1, 362, 1, 0) := by decide +kernel
theorem e_L_362 : dec code 362 = some (.aload_n 0, 363, 0, 0) := by decide +kernel
theorem e_L_363 : dec code 363 = some (.iload_n 3, 364, 3, 0) := by decide +kernel
theorem e_L_364 : dec code 364 = some (.iconst 1, 365, 0, 1) := by decide +kernel
theorem e_L_365 : dec code 365 = some (.iadd, 366, 0, 0) := by decide +kernel
theorem e_L_366 : dec code 366 = some (.iaload, 367, 0, 0) := by decide +kernel
theorem e_L_367 : dec code 367 = some (.aload_n 0, 368, 0, 0) := by decide +kernel
theorem e_L_368 : dec code 368 = some (.iload_n 3, 369, 3, 0) := by decide +kernel
theorem e_L_369 : dec code 369 = some (.iconst 2, 370, 0, 2) := by decide +kernel
theorem e_L_370 : dec code 370 = some (.iadd, 371, 0, 0) := by decide +kernel
theorem e_L_371 : dec code 371 = some (.iaload, 372, 0, 0) := by decide +kernel
theorem e_L_372 : dec code 372 = some (.invokevirtual 44, 375, 0, 0) := by decide +kernel
theorem e_L_375 : dec code 375 = some (.aload_n 2, 376, 2, 0) := by decide +kernel
theorem e_L_376 : dec code 376 = some (.aload_n 0, 377, 0, 0) := by decide +kernel
theorem e_L_377 : dec code 377 = some (.iload_n 3, 378, 3, 0) := by decide +kernel
theorem e_L_378 : dec code 378 = some (.iconst 1, 379, 0, 1) := by decide +kernel
theorem e_L_379 : dec code 379 = some (.iadd, 380, 0, 0) := by decide +kernel
theorem e_L_380 : dec code 380 = some (.iaload, 381, 0, 0) := by decide +kernel
theorem e_L_381 : dec code 381 = some (.aload_n 0, 382, 0, 0) := by decide +kernel
theorem e_L_382 : dec code 382 = some (.iload_n 3, 383, 3, 0) := by decide +kernel
theorem e_L_383 : dec code 383 = some (.iconst 2, 384, 0, 2) := by decide +kernel
theorem e_L_384 : dec code 384 = some (.iadd, 385, 0, 0) := by decide +kernel
theorem e_L_385 : dec code 385 = some (.iaload, 386, 0, 0) := by decide +kernel
theorem e_L_386 : dec code 386 = some (.invokevirtual 47, 389, 0, 0) := by decide +kernel
theorem e_L_389 : dec code 389 = some (.if_icmp .eq 340, 392, 729, 0) := by decide +kernel
theorem e_L_392 : dec code 392 = some (.iconst 0, 393, 0, 0) := by decide +kernel
theorem e_L_393 : dec code 393 = some (.ireturn, 394, 0, 0) := by decide +kernel
theorem e_L_394 : dec code 394 = some (.aload_n 1, 395, 1, 0) := by decide +kernel
theorem e_L_395 : dec code 395 = some (.aload_n 0, 396, 0, 0) := by decide +kernel
theorem e_L_396 : dec code 396 = some (.iload_n 3, 397, 3, 0) := by decide +kernel
theorem e_L_397 : dec code 397 = some (.iconst 1, 398, 0, 1) := by decide +kernel
theorem e_L_398 : dec code 398 = some (.iadd, 399, 0, 0) := by decide +kernel
theorem e_L_399 : dec code 399 = some (.iaload, 400, 0, 0) := by decide +kernel
theorem e_L_400 : dec code 400 = some (.invokevirtual 48, 403, 0, 0) := by decide +kernel
theorem e_L_403 : dec code 403 = some (.aload_n 2, 404, 2, 0) := by decide +kernel
theorem e_L_404 : dec code 404 = some (.aload_n 0, 405, 0, 0) := by decide +kernel
theorem e_L_405 : dec code 405 = some (.iload_n 3, 406, 3, 0) := by decide +kernel
theorem e_L_406 : dec code 406 = some (.iconst 1, 407, 0, 1) := by decide +kernel
theorem e_L_407 : dec code 407 = some (.iadd, 408, 0, 0) := by decide +kernel
theorem e_L_408 : dec code 408 = some (.iaload, 409, 0, 0) := by decide +kernel
theorem e_L_409 : dec code 409 = some (.invokevirtual 51, 412, 0, 0) := by decide +kernel
theorem e_L_412 : dec code 412 = some (.if_icmp .eq 317, 415, 729, 0) := by decide +kernel
theorem e_L_415 : dec code 415 = some (.iconst 0, 416, 0, 0) := by decide +kernel
theorem e_L_416 : dec code 416 = some (.ireturn, 417, 0, 0) := by decide +kernel
theorem e_L_417 : dec code 417 = some (.aload_n 1, 418, 1, 0) := by decide +kernel
theorem e_L_418 : dec code 418 = some (.aload_n 0, 419, 0, 0) := by decide +kernel
theorem e_L_419 : dec code 419 = some (.iload_n 3, 420, 3, 0) := by decide +kernel
theorem e_L_420 : dec code 420 = some (.iconst 1, 421, 0, 1) := by decide +kernel
theorem e_L_421 : dec code 421 = some (.iadd, 422, 0, 0) := by decide +kernel
theorem e_L_422 : dec code 422 = some (.iaload, 423, 0, 0) := by decide +kernel
theorem e_L_423 : dec code 423 = some (.invokevirtual 52, 426, 0, 0) := by decide +kernel
theorem e_L_426 : dec code 426 = some (.aload_n 2, 427, 2, 0) := by decide +kernel
theorem e_L_427 : dec code 427 = some (.aload_n 0, 428, 0, 0) := by decide +kernel
theorem e_L_428 : dec code 428 = some (.iload_n 3, 429, 3, 0) := by decide +kernel
theorem e_L_429 : dec code 429 = some (.iconst 1, 430, 0, 1) := by decide +kernel
theorem e_L_430 : dec code 430 = some (.iadd, 431, 0, 0) := by decide +kernel
theorem e_L_431 : dec code 431 = some (.iaload, 432, 0, 0) := by decide +kernel
theorem e_L_432 : dec code 432 = some (.invokevirtual 55, 435, 0, 0) := by decide +kernel
theorem e_L_435 : dec code 435 = some (.if_icmp .eq 294, 438, 729, 0) := by decide +kernel
theorem e_L_438 : dec code 438 = some (.iconst 0, 439, 0, 0) := by decide +kernel
theorem e_L_439 : dec code 439 = some (.ireturn, 440, 0, 0) := by decide +kernel
theorem e_L_440 : dec code 440 = some (.aload_n 1, 441, 1, 0) := by decide +kernel
theorem e_L_441 : dec code 441 = some (.aload_n 0, 442, 0, 0) := by decide +kernel
theorem e_L_442 : dec code 442 = some (.iload_n 3, 443, 3, 0) := by decide +kernel
theorem e_L_443 : dec code 443 = some (.iconst 1, 444, 0, 1) := by decide +kernel
theorem e_L_444 : dec code 444 = some (.iadd, 445, 0, 0) := by decide +kernel
theorem e_L_445 : dec code 445 = some (.iaload, 446, 0, 0) := by decide +kernel
theorem e_L_446 : dec code 446 = some (.invokevirtual 56, 449, 0, 0) := by decide +kernel
theorem e_L_449 : dec code 449 = some (.aload_n 2, 450, 2, 0) := by decide +kernel
theorem e_L_450 : dec code 450 = some (.aload_n 0, 451, 0, 0) := by decide +kernel
theorem e_L_451 : dec code 451 = some (.iload_n 3, 452, 3, 0) := by decide +kernel
theorem e_L_452 : dec code 452 = some (.iconst 1, 453, 0, 1) := by decide +kernel
theorem e_L_453 : dec code 453 = some (.iadd, 454, 0, 0) := by decide +kernel
theorem e_L_454 : dec code 454 = some (.iaload, 455, 0, 0) := by decide +kernel
theorem e_L_455 : dec code 455 = some (.invokevirtual 59, 458, 0, 0) := by decide +kernel
theorem e_L_458 : dec code 458 = some (.if_icmp .eq 271, 461, 729, 0) := by decide +kernel
theorem e_L_461 : dec code 461 = some (.iconst 0, 462, 0, 0) := by decide +kernel
theorem e_L_462 : dec code 462 = some (.ireturn, 463, 0, 0) := by decide +kernel
theorem e_L_463 : dec code 463 = some (.aload_n 1, 464, 1, 0) := by decide +kernel
theorem e_L_464 : dec code 464 = some (.aload_n 0, 465, 0, 0) := by decide +kernel
theorem e_L_465 : dec code 465 = some (.iload_n 3, 466, 3, 0) := by decide +kernel
theorem e_L_466 : dec code 466 = some (.iconst 1, 467, 0, 1) := by decide +kernel
theorem e_L_467 : dec code 467 = some (.iadd, 468, 0, 0) := by decide +kernel
theorem e_L_468 : dec code 468 = some (.iaload, 469, 0, 0) := by decide +kernel
theorem e_L_469 : dec code 469 = some (.aload_n 0, 470, 0, 0) := by decide +kernel
theorem e_L_470 : dec code 470 = some (.iload_n 3, 471, 3, 0) := by decide +kernel
theorem e_L_471 : dec code 471 = some (.iconst 2, 472, 0, 2) := by decide +kernel
theorem e_L_472 : dec code 472 = some (.iadd, 473, 0, 0) := by decide +kernel
theorem e_L_473 : dec code 473 = some (.iaload, 474, 0, 0) := by decide +kernel
theorem e_L_474 : dec code 474 = some (.invokevirtual 60, 477, 0, 0) := by decide +kernel
theorem e_L_477 : dec code 477 = some (.aload_n 2, 478, 2, 0) := by decide +kernel
theorem e_L_478 : dec code 478 = some (.aload_n 0, 479, 0, 0) := by decide +kernel
theorem e_L_479 : dec code 479 = some (.iload_n 3, 480, 3, 0) := by decide +kernel
theorem e_L_480 : dec code 480 = some (.iconst 1, 481, 0, 1) := by decide +kernel
theorem e_L_481 : dec code 481 = some (.iadd, 482, 0, 0) := by decide +kernel
theorem e_L_482 : dec code 482 = some (.iaload, 483, 0, 0) := by decide +kernel
theorem e_L_483 : dec code 483 = some (.aload_n 0, 484, 0, 0) := by decide +kernel
theorem e_L_484 : dec code 484 = some (.iload_n 3, 485, 3, 0) := by decide +kernel
theorem e_L_485 : dec code 485 = some (.iconst 2, 486, 0, 2) := by decide +kernel
theorem e_L_486 : dec code 486 = some (.iadd, 487, 0, 0) := by decide +kernel
theorem e_L_487 : dec code 487 = some (.iaload, 488, 0, 0) := by decide +kernel
theorem e_L_488 : dec code 488 = some (.invokevirtual 63, 491, 0, 0) := by decide +kernel
theorem e_L_491 : dec code 491 = some (.if_icmp .eq 238, 494, 729, 0) := by decide +kernel
theorem e_L_494 : dec code 494 = some (.iconst 0, 495, 0, 0) := by decide +kernel
theorem e_L_495 : dec code 495 = some (.ireturn, 496, 0, 0) := by decide +kernel
theorem e_L_496 : dec code 496 = some (.aload_n 1, 497, 1, 0) := by decide +kernel
theorem e_L_497 : dec code 497 = some (.aload_n 0, 498, 0, 0) := by decide +kernel
theorem e_L_498 : dec code 498 = some (.iload_n 3, 499, 3, 0) := by decide +kernel
theorem e_L_499 : dec code 499 = some (.iconst 1, 500, 0, 1) := by decide +kernel
theorem e_L_500 : dec code 500 = some (.iadd, 501, 0, 0) := by decide +kernel
theorem e_L_501 : dec code 501 = some (.iaload, 502, 0, 0) := by decide +kernel
theorem e_L_502 : dec code 502 = some (.aload_n 0, 503, 0, 0) := by decide +kernel
theorem e_L_503 : dec code 503 = some (.iload_n 3, 504, 3, 0) := by decide +kernel
theorem e_L_504 : dec code 504 = some (.iconst 2, 505, 0, 2) := by decide +kernel
theorem e_L_505 : dec code 505 = some (.iadd, 506, 0, 0) := by decide +kernel
theorem e_L_506 : dec code 506 = some (.iaload, 507, 0, 0) := by decide +kernel
theorem e_L_507 : dec code 507 = some (.invokevirtual 64, 510, 0, 0) := by decide +kernel
theorem e_L_510 : dec code 510 = some (.aload_n 2, 511, 2, 0) := by decide +kernel
theorem e_L_511 : dec code 511 = some (.aload_n 0, 512, 0, 0) := by decide +kernel
theorem e_L_512 : dec code 512 = some (.iload_n 3, 513, 3, 0) := by decide +kernel
theorem e_L_513 : dec code 513 = some (.iconst 1, 514, 0, 1) := by decide +kernel
theorem e_L_514 : dec code 514 = some (.iadd, 515, 0, 0) := by decide +kernel
theorem e_L_515 : dec code 515 = some (.iaload, 516, 0, 0) := by decide +kernel
theorem e_L_516 : dec code 516 = some (.aload_n 0, 517, 0, 0) := by decide +kernel
theorem e_L_517 : dec code 517 = some (.iload_n 3, 518, 3, 0) := by decide +kernel
theorem e_L_518 : dec code 518 = some (.iconst 2, 519, 0, 2) := by decide +kernel
theorem e_L_519 : dec code 519 = some (.iadd, 520, 0, 0) := by decide +kernel
theorem e_L_520 : dec code 520 = some (.iaload, 521, 0, 0) := by decide +kernel
theorem e_L_521 : dec code 521 = some (.invokevirtual 67, 524, 0, 0) := by decide +kernel
theorem e_L_524 : dec code 524 = some (.if_icmp .eq 205, 527, 729, 0) := by decide +kernel
theorem e_L_527 : dec code 527 = some (.iconst 0, 528, 0, 0) := by decide +kernel
theorem e_L_528 : dec code 528 = some (.ireturn, 529, 0, 0) := by decide +kernel
theorem e_L_529 : dec code 529 = some (.aload_n 1, 530, 1, 0) := by decide +kernel
theorem e_L_530 : dec code 530 = some (.invokevirtual 68, 533, 0, 0) := by decide +kernel
theorem e_L_533 : dec code 533 = some (.aload_n 2, 534, 2, 0) := by decide +kernel
theorem e_L_534 : dec code 534 = some (.invokevirtual 72, 537, 0, 0) := by decide +kernel
theorem e_L_537 : dec code 537 = some (.if_icmp .eq 192, 540, 729, 0) := by decide +kernel
theorem e_L_540 : dec code 540 = some (.iconst 0, 541, 0, 0) := by decide +kernel
theorem e_L_541 : dec code 541 = some (.ireturn, 542, 0, 0) := by decide +kernel
theorem e_L_542 : dec code 542 = some (.aload_n 1, 543, 1, 0) := by decide +kernel
theorem e_L_543 : dec code 543 = some (.invokevirtual 73, 546, 0, 0) := by decide +kernel
theorem e_L_546 : dec code 546 = some (.aload_n 2, 547, 2, 0) := by decide +kernel
theorem e_L_547 : dec code 547 = some (.invokevirtual 76, 550, 0, 0) := by decide +kernel
theorem e_L_550 : dec code 550 = some (.if_icmp .eq 179, 553, 729, 0) := by decide +kernel
theorem e_L_553 : dec code 553 = some (.iconst 0, 554, 0, 0) := by decide +kernel
theorem e_L_554 : dec code 554 = some (.ireturn, 555, 0, 0) := by decide +kernel
theorem e_L_555 : dec code 555 = some (.aload_n 1, 556, 1, 0) := by decide +kernel
theorem e_L_556 : dec code 556 = some (.aload_n 0, 557, 0, 0) := by decide +kernel
theorem e_L_557 : dec code 557 = some (.iload_n 3, 558, 3, 0) := by decide +kernel
theorem e_L_558 : dec code 558 = some (.iconst 1, 559, 0, 1) := by decide +kernel
theorem e_L_559 : dec code 559 = some (.iadd, 560, 0, 0) := by decide +kernel
theorem e_L_560 : dec code 560 = some (.iaload, 561, 0, 0) := by decide +kernel
theorem e_L_561 : dec code 561 = some (.invokevirtual 77, 564, 0, 0) := by decide +kernel
theorem e_L_564 : dec code 564 = some (.aload_n 2, 565, 2, 0) := by decide +kernel
theorem e_L_565 : dec code 565 = some (.aload_n 0, 566, 0, 0) := by decide +kernel
theorem e_L_566 : dec code 566 = some (.iload_n 3, 567, 3, 0) := by decide +kernel
theorem e_L_567 : dec code 567 = some (.iconst 1, 568, 0, 1) := by decide +kernel
theorem e_L_568 : dec code 568 = some (.iadd, 569, 0, 0) := by decide +kernel
theorem e_L_569 : dec code 569 = some (.iaload, 570, 0, 0) := by decide +kernel
theorem e_L_570 : dec code 570 = some (.invokevirtual 80, 573, 0, 0) := by decide +kernel
theorem e_L_573 : dec code 573 = some (.if_icmp .eq 156, 576, 729, 0) := by decide +kernel
theorem e_L_576 : dec code 576 = some (.iconst 0, 577, 0, 0) := by decide +kernel
theorem e_L_577 : dec code 577 = some (.ireturn, 578, 0, 0) := by decide +kernel
theorem e_L_578 : dec code 578 = some (.aload_n 1, 579, 1, 0) := by decide +kernel
theorem e_L_579 : dec code 579 = some (.aload_n 0, 580, 0, 0) := by decide +kernel
theorem e_L_580 : dec code 580 = some (.iload_n 3, 581, 3, 0) := by decide +kernel
theorem e_L_581 : dec code 581 = some (.iconst 1, 582, 0, 1) := by decide +kernel
theorem e_L_582 : dec code 582 = some (.iadd, 583, 0, 0) := by decide +kernel
theorem e_L_583 : dec code 583 = some (.iaload, 584, 0, 0) := by decide +kernel
theorem e_L_584 : dec code 584 = some (.i2l, 585, 0, 0) := by decide +kernel
theorem e_L_585 : dec code 585 = some (.bipush 32, 587, 0, 32) := by decide +kernel
theorem e_L_587 : dec code 587 = some (.lshl, 588, 0, 0) := by decide +kernel
theorem e_L_588 : dec code 588 = some (.aload_n 0, 589, 0, 0) := by decide +kernel
theorem e_L_589 : dec code 589 = some (.iload_n 3, 590, 3, 0) := by decide +kernel
theorem e_L_590 : dec code 590 = some (.iconst 2, 591, 0, 2) := by decide +kernel
theorem e_L_591 : dec code 591 = some (.iadd, 592, 0, 0) := by decide +kernel
theorem e_L_592 : dec code 592 = some (.iaload, 593, 0, 0) := by decide +kernel
theorem e_L_593 : dec code 593 = some (.i2l, 594, 0, 0) := by decide +kernel
theorem e_L_594 : dec code 594 = some (.ldc2_w 81, 597, 0, 0) := by decide +kernel
theorem e_L_597 : dec code 597 = some (.land, 598, 0, 0) := by decide +kernel
theorem e_L_598 : dec code 598 = some (.lor, 599, 0, 0) := by decide +kernel
theorem e_L_599 : dec code 599 = some (.invokevirtual 83, 602, 0, 0) := by decide +kernel
theorem e_L_602 : dec code 602 = some (.aload_n 2, 603, 2, 0) := by decide +kernel
theorem e_L_603 : dec code 603 = some (.aload_n 0, 604, 0, 0) := by decide +kernel
theorem e_L_604 : dec code 604 = some (.iload_n 3, 605, 3, 0) := by decide +kernel
theorem e_L_605 : dec code 605 = some (.iconst 1, 606, 0, 1) := by decide +kernel
theorem e_L_606 : dec code 606 = some (.iadd, 607, 0, 0) := by decide +kernel
theorem e_L_607 : dec code 607 = some (.iaload, 608, 0, 0) := by decide +kernel
theorem e_L_608 : dec code 608 = some (.i2l, 609, 0, 0) := by decide +kernel
theorem e_L_609 : dec code 609 = some (.bipush 32, 611, 0, 32) := by decide +kernel
theorem e_L_611 : dec code 611 = some (.lshl, 612, 0, 0) := by decide +kernel
theorem e_L_612 : dec code 612 = some (.aload_n 0, 613, 0, 0) := by decide +kernel
theorem e_L_613 : dec code 613 = some (.iload_n 3, 614, 3, 0) := by decide +kernel
theorem e_L_614 : dec code 614 = some (.iconst 2, 615, 0, 2) := by decide +kernel
theorem e_L_615 : dec code 615 = some (.iadd, 616, 0, 0) := by decide +kernel
theorem e_L_616 : dec code 616 = some (.iaload, 617, 0, 0) := by decide +kernel
theorem e_L_617 : dec code 617 = some (.i2l, 618, 0, 0) := by decide +kernel
theorem e_L_618 : dec code 618 = some (.ldc2_w 81, 621, 0, 0) := by decide +kernel
theorem e_L_621 : dec code 621 = some (.land, 622, 0, 0) := by decide +kernel
theorem e_L_622 : dec code 622 = some (.lor, 623, 0, 0) := by decide +kernel
theorem e_L_623 : dec code 623 = some (.invokevirtual 87, 626, 0, 0) := by decide +kernel
theorem e_L_626 : dec code 626 = some (.if_icmp .eq 103, 629, 729, 0) := by decide +kernel
theorem e_L_629 : dec code 629 = some (.iconst 0, 630, 0, 0) := by decide +kernel
theorem e_L_630 : dec code 630 = some (.ireturn, 631, 0, 0) := by decide +kernel
theorem e_L_631 : dec code 631 = some (.aload_n 1, 632, 1, 0) := by decide +kernel
theorem e_L_632 : dec code 632 = some (.invokevirtual 88, 635, 0, 0) := by decide +kernel
theorem e_L_635 : dec code 635 = some (.aload_n 2, 636, 2, 0) := by decide +kernel
theorem e_L_636 : dec code 636 = some (.invokevirtual 91, 639, 0, 0) := by decide +kernel
theorem e_L_639 : dec code 639 = some (.if_icmp .eq 90, 642, 729, 0) := by decide +kernel
theorem e_L_642 : dec code 642 = some (.iconst 0, 643, 0, 0) := by decide +kernel
theorem e_L_643 : dec code 643 = some (.ireturn, 644, 0, 0) := by decide +kernel
theorem e_L_644 : dec code 644 = some (.aload_n 1, 645, 1, 0) := by decide +kernel
theorem e_L_645 : dec code 645 = some (.invokevirtual 92, 648, 0, 0) := by decide +kernel
theorem e_L_648 : dec code 648 = some (.aload_n 2, 649, 2, 0) := by decide +kernel
theorem e_L_649 : dec code 649 = some (.invokevirtual 95, 652, 0, 0) := by decide +kernel
theorem e_L_652 : dec code 652 = some (.if_icmp .eq 77, 655, 729, 0) := by decide +kernel
theorem e_L_655 : dec code 655 = some (.iconst 0, 656, 0, 0) := by decide +kernel
theorem e_L_656 : dec code 656 = some (.ireturn, 657, 0, 0) := by decide +kernel
theorem e_L_657 : dec code 657 = some (.aload_n 1, 658, 1, 0) := by decide +kernel
theorem e_L_658 : dec code 658 = some (.invokevirtual 96, 661, 0, 0) := by decide +kernel
theorem e_L_661 : dec code 661 = some (.aload_n 2, 662, 2, 0) := by decide +kernel
theorem e_L_662 : dec code 662 = some (.invokevirtual 99, 665, 0, 0) := by decide +kernel
theorem e_L_665 : dec code 665 = some (.if_icmp .eq 64, 668, 729, 0) := by decide +kernel
theorem e_L_668 : dec code 668 = some (.iconst 0, 669, 0, 0) := by decide +kernel
theorem e_L_669 : dec code 669 = some (.ireturn, 670, 0, 0) := by decide +kernel
theorem e_L_670 : dec code 670 = some (.aload_n 1, 671, 1, 0) := by decide +kernel
theorem e_L_671 : dec code 671 = some (.invokevirtual 100, 674, 0, 0) := by decide +kernel
theorem e_L_674 : dec code 674 = some (.aload_n 2, 675, 2, 0) := by decide +kernel
theorem e_L_675 : dec code 675 = some (.invokevirtual 103, 678, 0, 0) := by decide +kernel
theorem e_L_678 : dec code 678 = some (.if_icmp .eq 51, 681, 729, 0) := by decide +kernel
theorem e_L_681 : dec code 681 = some (.iconst 0, 682, 0, 0) := by decide +kernel
theorem e_L_682 : dec code 682 = some (.ireturn, 683, 0, 0) := by decide +kernel
theorem e_L_683 : dec code 683 = some (.aload_n 1, 684, 1, 0) := by decide +kernel
theorem e_L_684 : dec code 684 = some (.aload_n 0, 685, 0, 0) := by decide +kernel
theorem e_L_685 : dec code 685 = some (.iload_n 3, 686, 3, 0) := by decide +kernel
theorem e_L_686 : dec code 686 = some (.iconst 1, 687, 0, 1) := by decide +kernel
theorem e_L_687 : dec code 687 = some (.iadd, 688, 0, 0) := by decide +kernel
theorem e_L_688 : dec code 688 = some (.iaload, 689, 0, 0) := by decide +kernel
theorem e_L_689 : dec code 689 = some (.invokevirtual 104, 692, 0, 0) := by decide +kernel
theorem e_L_692 : dec code 692 = some (.aload_n 2, 693, 2, 0) := by decide +kernel
theorem e_L_693 : dec code 693 = some (.aload_n 0, 694, 0, 0) := by decide +kernel
theorem e_L_694 : dec code 694 = some (.iload_n 3, 695, 3, 0) := by decide +kernel
theorem e_L_695 : dec code 695 = some (.iconst 1, 696, 0, 1) := by decide +kernel
theorem e_L_696 : dec code 696 = some (.iadd, 697, 0, 0) := by decide +kernel
theorem e_L_697 : dec code 697 = some (.iaload, 698, 0, 0) := by decide +kernel
theorem e_L_698 : dec code 698 = some (.invokevirtual 107, 701, 0, 0) := by decide +kernel
theorem e_L_701 : dec code 701 = some (.if_icmp .eq 28, 704, 729, 0) := by decide +kernel
theorem e_L_704 : dec code 704 = some (.iconst 0, 705, 0, 0) := by decide +kernel
theorem e_L_705 : dec code 705 = some (.ireturn, 706, 0, 0) := by decide +kernel
theorem e_L_706 : dec code 706 = some (.aload_n 1, 707, 1, 0) := by decide +kernel
theorem e_L_707 : dec code 707 = some (.aload_n 0, 708, 0, 0) := by decide +kernel
theorem e_L_708 : dec code 708 = some (.iload_n 3, 709, 3, 0) := by decide +kernel
theorem e_L_709 : dec code 709 = some (.iconst 1, 710, 0, 1) := by decide +kernel
theorem e_L_710 : dec code 710 = some (.iadd, 711, 0, 0) := by decide +kernel
theorem e_L_711 : dec code 711 = some (.iaload, 712, 0, 0) := by decide +kernel
theorem e_L_712 : dec code 712 = some (.invokevirtual 108, 715, 0, 0) := by decide +kernel
theorem e_L_715 : dec code 715 = some (.aload_n 2, 716, 2, 0) := by decide +kernel
theorem e_L_716 : dec code 716 = some (.aload_n 0, 717, 0, 0) := by decide +kernel
theorem e_L_717 : dec code 717 = some (.iload_n 3, 718, 3, 0) := by decide +kernel
theorem e_L_718 : dec code 718 = some (.iconst 1, 719, 0, 1) := by decide +kernel
theorem e_L_719 : dec code 719 = some (.iadd, 720, 0, 0) := by decide +kernel
theorem e_L_720 : dec code 720 = some (.iaload, 721, 0, 0) := by decide +kernel
theorem e_L_721 : dec code 721 = some (.invokevirtual 111, 724, 0, 0) := by decide +kernel
theorem e_L_724 : dec code 724 = some (.if_icmp .eq 5, 727, 729, 0) := by decide +kernel
theorem e_L_727 : dec code 727 = some (.iconst 0, 728, 0, 0) := by decide +kernel
theorem e_L_728 : dec code 728 = some (.ireturn, 729, 0, 0) := by decide +kernel
theorem e_L_729 : dec code 729 = some (.iinc 3 4, 732, 3, 4) := by decide +kernel
theorem e_L_732 : dec code 732 = some (.goto (-714), 735, 18, 0) := by decide +kernel
theorem e_L_735 : dec code 735 = some (.iconst 1, 736, 0, 1) := by decide +kernel
theorem e_L_736 : dec code 736 = some (.ireturn, 737, 0, 0) := by decide +kernel
theorem sw_162_32 {x : Int32} {P : Nat → Prop} (h0 : x = 0 → P 140) (h1 : x = 1 → P 173) (h2 : x = 2 → P 216) (h3 : x = 3 → P 239) (h4 : x = 4 → P 262) (h5 : x = 5 → P 295) (h6 : x = 6 → P 328) (h7 : x = 7 → P 361) (h8 : x = 8 → P 394) (h9 : x = 9 → P 417) (h10 : x = 10 → P 440) (h11 : x = 11 → P 463) (h12 : x = 12 → P 496) (h13 : x = 13 → P 529) (h14 : x = 14 → P 542) (h15 : x = 15 → P 555) (h16 : x = 16 → P 578) (h17 : x = 17 → P 631) (h18 : x = 18 → P 644) (h19 : x = 19 → P 657) (h20 : x = 20 → P 670) (h21 : x = 21 → P 683) (h22 : x = 22 → P 706) (hd : (x.toInt < 0 ∨ 22 < x.toInt) → P 729) : ∃ t, swT (.tableswitch 697 0 22 #[108, 141, 184, 207, 230, 263, 296, 329, 362, 385, 408, 431, 464, 497, 510, 523, 546, 599, 612, 625, 638, 651, 674]) 32 x = some t ∧ P t := by
  by_cases q0 : x = 0
  · subst q0; exact ⟨140, by decide +kernel, h0 rfl⟩
  by_cases q1 : x = 1
  · subst q1; exact ⟨173, by decide +kernel, h1 rfl⟩
  by_cases q2 : x = 2
  · subst q2; exact ⟨216, by decide +kernel, h2 rfl⟩
  by_cases q3 : x = 3
  · subst q3; exact ⟨239, by decide +kernel, h3 rfl⟩
  by_cases q4 : x = 4
  · subst q4; exact ⟨262, by decide +kernel, h4 rfl⟩
  by_cases q5 : x = 5
  · subst q5; exact ⟨295, by decide +kernel, h5 rfl⟩
  by_cases q6 : x = 6
  · subst q6; exact ⟨328, by decide +kernel, h6 rfl⟩
  by_cases q7 : x = 7
  · subst q7; exact ⟨361, by decide +kernel, h7 rfl⟩
  by_cases q8 : x = 8
  · subst q8; exact ⟨394, by decide +kernel, h8 rfl⟩
  by_cases q9 : x = 9
  · subst q9; exact ⟨417, by decide +kernel, h9 rfl⟩
  by_cases q10 : x = 10
  · subst q10; exact ⟨440, by decide +kernel, h10 rfl⟩
  by_cases q11 : x = 11
  · subst q11; exact ⟨463, by decide +kernel, h11 rfl⟩
  by_cases q12 : x = 12
  · subst q12; exact ⟨496, by decide +kernel, h12 rfl⟩
  by_cases q13 : x = 13
  · subst q13; exact ⟨529, by decide +kernel, h13 rfl⟩
  by_cases q14 : x = 14
  · subst q14; exact ⟨542, by decide +kernel, h14 rfl⟩
  by_cases q15 : x = 15
  · subst q15; exact ⟨555, by decide +kernel, h15 rfl⟩
  by_cases q16 : x = 16
  · subst q16; exact ⟨578, by decide +kernel, h16 rfl⟩
  by_cases q17 : x = 17
  · subst q17; exact ⟨631, by decide +kernel, h17 rfl⟩
  by_cases q18 : x = 18
  · subst q18; exact ⟨644, by decide +kernel, h18 rfl⟩
  by_cases q19 : x = 19
  · subst q19; exact ⟨657, by decide +kernel, h19 rfl⟩
  by_cases q20 : x = 20
  · subst q20; exact ⟨670, by decide +kernel, h20 rfl⟩
  by_cases q21 : x = 21
  · subst q21; exact ⟨683, by decide +kernel, h21 rfl⟩
  by_cases q22 : x = 22
  · subst q22; exact ⟨706, by decide +kernel, h22 rfl⟩
  have hx : x.toInt < 0 ∨ 22 < x.toInt := by
    have r0 : x.toInt ≠ 0 := fun z => q0 (Int32.toInt_inj.mp z)
    have r1 : x.toInt ≠ 1 := fun z => q1 (Int32.toInt_inj.mp z)
    have r2 : x.toInt ≠ 2 := fun z => q2 (Int32.toInt_inj.mp z)
    have r3 : x.toInt ≠ 3 := fun z => q3 (Int32.toInt_inj.mp z)
    have r4 : x.toInt ≠ 4 := fun z => q4 (Int32.toInt_inj.mp z)
    have r5 : x.toInt ≠ 5 := fun z => q5 (Int32.toInt_inj.mp z)
    have r6 : x.toInt ≠ 6 := fun z => q6 (Int32.toInt_inj.mp z)
    have r7 : x.toInt ≠ 7 := fun z => q7 (Int32.toInt_inj.mp z)
    have r8 : x.toInt ≠ 8 := fun z => q8 (Int32.toInt_inj.mp z)
    have r9 : x.toInt ≠ 9 := fun z => q9 (Int32.toInt_inj.mp z)
    have r10 : x.toInt ≠ 10 := fun z => q10 (Int32.toInt_inj.mp z)
    have r11 : x.toInt ≠ 11 := fun z => q11 (Int32.toInt_inj.mp z)
    have r12 : x.toInt ≠ 12 := fun z => q12 (Int32.toInt_inj.mp z)
    have r13 : x.toInt ≠ 13 := fun z => q13 (Int32.toInt_inj.mp z)
    have r14 : x.toInt ≠ 14 := fun z => q14 (Int32.toInt_inj.mp z)
    have r15 : x.toInt ≠ 15 := fun z => q15 (Int32.toInt_inj.mp z)
    have r16 : x.toInt ≠ 16 := fun z => q16 (Int32.toInt_inj.mp z)
    have r17 : x.toInt ≠ 17 := fun z => q17 (Int32.toInt_inj.mp z)
    have r18 : x.toInt ≠ 18 := fun z => q18 (Int32.toInt_inj.mp z)
    have r19 : x.toInt ≠ 19 := fun z => q19 (Int32.toInt_inj.mp z)
    have r20 : x.toInt ≠ 20 := fun z => q20 (Int32.toInt_inj.mp z)
    have r21 : x.toInt ≠ 21 := fun z => q21 (Int32.toInt_inj.mp z)
    have r22 : x.toInt ≠ 22 := fun z => q22 (Int32.toInt_inj.mp z)
    omega
  exact ⟨729, by simp only [swT, if_pos hx]; rfl, hd hx⟩
theorem nI_2 (a : Nat) : nI a + 2 = nI (a + 2) := nI_add a 2
theorem nI_3 (a : Nat) : nI a + 3 = nI (a + 3) := nI_add a 3
abbrev LJ (G : Gx) (J : Kt) (Rt : Option Value → Nat → Wd → Prop) : Prop := Clo G 8 false 4 (some .boolean) 9 145 J Rt code
theorem IV.kp {b L : Nat} {xs : Zz} {w : Wd} (H : IV b L xs w) : KP L xs w ∧ w 0 = ccO := by
  obtain ⟨y, hs, sl, sv, P, pd, z, spare, past, slots, svM, told, s, t, n, m, spM, tm, hW, hM, ⟨hS, hx⟩, -⟩ := H
  exact ⟨⟨hx, _, hM.1⟩, hW.1.1⟩
section LAW
variable {G : Gx} {J : Kt} {Rt : Option Value → Nat → Wd → Prop} {b L i : Nat} {xs : Zz} {w : Wd}
theorem L_set (hJ : LJ G J Rt) (hI : IV b L xs w) (hi : i + 4 ≤ L) (hL : L ≤ 2048) (hb : b ≤ 900000) (he : ∀ w2, IV (b + 400) L xs w2 → J 729 [.ref 1000, .ref 0, .ref 137, .int (nI i)] [] 145 w2) : J 140 [.ref 1000, .ref 0, .ref 137, .int (nI i)] [] 145 w := by
  obtain ⟨⟨x0, f0, m0⟩, a0⟩ := hI.kp
  have v1 : vp_in (nI (i + 1)) L = True := eq_true (vpl (by omega) (by omega))
  have c1 : (nI (i + 1)).toNatClampNeg = i + 1 := nI_clamp (by omega)
  have v2 : vp_in (nI (i + 2)) L = True := eq_true (vpl (by omega) (by omega))
  have c2 : (nI (i + 2)).toNatClampNeg = i + 2 := nI_clamp (by omega)
  have v3 : vp_in (nI (i + 3)) L = True := eq_true (vpl (by omega) (by omega))
  have c3 : (nI (i + 3)).toNatClampNeg = i + 3 := nI_clamp (by omega)
  refine go_ok hJ (fun _ => false) 60 ?_
  simp -implicitDefEqProofs only [e_L_140, s_aload_n, e_L_141, e_L_142, s_iload_n, e_L_143, s_iconst, e_L_144, s_iadd, e_L_145, s_iaload, e_L_146, e_L_147, e_L_148, e_L_149, e_L_150, e_L_151, s_invokevirtual, rM_8_13, iv4_3, hc_66, i1_0, up_n, ret_b, bI_0, pk_us, pk_un, up_e, up_up, Decidable.not_not, nI_1, Int32.add_zero, Int32.zero_add, vz_0, tn_0, vz_1, tn_1, vz_2, tn_2, vz_3, tn_3, vz_4, tn_4, vz_5, tn_5, vz_6, tn_6, vz_7, tn_7, vz_8, tn_8, vz_9, tn_9, vz_10, tn_10, vz_11, tn_11, vz_12, tn_12, vz_13, tn_13, vz_14, tn_14, vz_15, tn_15, vz_160, tn_160, vz_161, tn_161, vz_162, tn_162, vz_163, tn_163, vz_164, tn_164, vs_0, vs_1, vs_2, vs_3, vs_4, vs_5, run_s, run_e, run_0, true_and, and_true, and_self, or_true, true_or, or_false, false_or, List.length_cons, List.length_nil, Option.toList_some, Option.toList_none, List.cons_append, List.nil_append, isI_t, isJ_t, isA_t, vI_t, nI32_t, isF_t, gF_t, sF_t, isO_t, isP_t, isP0_t, gE_t, sE_t, isR_t, gO_t, sO_t, isS_t, vS_t, isSc_t, nSc_t, pok_i, pok_o, pok_a, pok_0, pok_1, ret_i, ret_0, ret_1, ret_v, clr_i, clr_j, clr_r, clr_n, cat_i, cat_r, kk0, kk1, kk2, eq_self, Nat.reduceEqDiff, Nat.reduceLeDiff, Nat.reduceAdd, Nat.reduceLT, Nat.reduceSub, Nat.reduceMul, forall_const, imp_false, not_true_eq_false, not_false_eq_true, false_imp_iff, Nat.zero_ne_one, Nat.one_ne_zero, Bool.false_eq_true, reduceCtorEq, ne_eq, Nat.add_zero, Nat.reduceBEq, Bool.or_false, Bool.or_true, Bool.false_or, Bool.true_or, or_self, entL, List.flatMap_cons, List.flatMap_nil, List.reduceReplicate, ↓reduceIte, cat_j, lg_0, lg_1, lg_2, lg_3, lg_4, lg_5, lg_6, lg_7, lg_8, lg_9, lg_10, ls_0, ls_1, ls_2, ls_3, ls_4, ls_5, ls_6, ls_7, ls_8, ls_9, ls_10, st_0, st_1, st_2, st_3, st_4, st_5, st_6, nI_2, nI_3, x0, a0, v1, c1, v2, c2]
  refine call0 ((P_set hI _ _).mono fun r w1 hr => ?_)
  obtain ⟨v, rfl, ⟨k1, fs, k2⟩, hT⟩ := hr
  refine go_ok hJ (fun _ => false) 60 ?_
  simp -implicitDefEqProofs only [e_L_154, s_aload_n, e_L_155, e_L_156, s_iload_n, e_L_157, s_iconst, e_L_158, s_iadd, e_L_159, s_iaload, e_L_160, e_L_161, e_L_162, e_L_163, e_L_164, e_L_165, s_invokevirtual, rM_8_17, iv4_3, hc_115, i1_0, up_n, ret_b, bI_0, pk_us, pk_un, up_e, up_up, Decidable.not_not, nI_1, Int32.add_zero, Int32.zero_add, vz_0, tn_0, vz_1, tn_1, vz_2, tn_2, vz_3, tn_3, vz_4, tn_4, vz_5, tn_5, vz_6, tn_6, vz_7, tn_7, vz_8, tn_8, vz_9, tn_9, vz_10, tn_10, vz_11, tn_11, vz_12, tn_12, vz_13, tn_13, vz_14, tn_14, vz_15, tn_15, vz_160, tn_160, vz_161, tn_161, vz_162, tn_162, vz_163, tn_163, vz_164, tn_164, vs_0, vs_1, vs_2, vs_3, vs_4, vs_5, run_s, run_e, run_0, true_and, and_true, and_self, or_true, true_or, or_false, false_or, List.length_cons, List.length_nil, Option.toList_some, Option.toList_none, List.cons_append, List.nil_append, isI_t, isJ_t, isA_t, vI_t, nI32_t, isF_t, gF_t, sF_t, isO_t, isP_t, isP0_t, gE_t, sE_t, isR_t, gO_t, sO_t, isS_t, vS_t, isSc_t, nSc_t, pok_i, pok_o, pok_a, pok_0, pok_1, ret_i, ret_0, ret_1, ret_v, clr_i, clr_j, clr_r, clr_n, cat_i, cat_r, kk0, kk1, kk2, eq_self, Nat.reduceEqDiff, Nat.reduceLeDiff, Nat.reduceAdd, Nat.reduceLT, Nat.reduceSub, Nat.reduceMul, forall_const, imp_false, not_true_eq_false, not_false_eq_true, false_imp_iff, Nat.zero_ne_one, Nat.one_ne_zero, Bool.false_eq_true, reduceCtorEq, ne_eq, Nat.add_zero, Nat.reduceBEq, Bool.or_false, Bool.or_true, Bool.false_or, Bool.true_or, or_self, entL, List.flatMap_cons, List.flatMap_nil, List.reduceReplicate, ↓reduceIte, cat_j, lg_0, lg_1, lg_2, lg_3, lg_4, lg_5, lg_6, lg_7, lg_8, lg_9, lg_10, ls_0, ls_1, ls_2, ls_3, ls_4, ls_5, ls_6, ls_7, ls_8, ls_9, ls_10, st_0, st_1, st_2, st_3, st_4, st_5, st_6, nI_2, nI_3, k1, k2, v1, c1, v2, c2]
  refine call0 (hT.mono fun r w2 hr => ?_)
  obtain ⟨rfl, hI2⟩ := hr
  refine go_ok hJ (fun p => p == 729) 60 ?_
  simp -implicitDefEqProofs only [e_L_168, s_icmp_eq, e_L_171, s_iconst, e_L_172, s_ireturn, i1_0, up_n, ret_b, bI_0, pk_us, pk_un, up_e, up_up, Decidable.not_not, nI_1, Int32.add_zero, Int32.zero_add, vz_0, tn_0, vz_1, tn_1, vz_2, tn_2, vz_3, tn_3, vz_4, tn_4, vz_5, tn_5, vz_6, tn_6, vz_7, tn_7, vz_8, tn_8, vz_9, tn_9, vz_10, tn_10, vz_11, tn_11, vz_12, tn_12, vz_13, tn_13, vz_14, tn_14, vz_15, tn_15, vz_160, tn_160, vz_161, tn_161, vz_162, tn_162, vz_163, tn_163, vz_164, tn_164, vs_0, vs_1, vs_2, vs_3, vs_4, vs_5, run_s, run_e, run_0, true_and, and_true, and_self, or_true, true_or, or_false, false_or, List.length_cons, List.length_nil, Option.toList_some, Option.toList_none, List.cons_append, List.nil_append, isI_t, isJ_t, isA_t, vI_t, nI32_t, isF_t, gF_t, sF_t, isO_t, isP_t, isP0_t, gE_t, sE_t, isR_t, gO_t, sO_t, isS_t, vS_t, isSc_t, nSc_t, pok_i, pok_o, pok_a, pok_0, pok_1, ret_i, ret_0, ret_1, ret_v, clr_i, clr_j, clr_r, clr_n, cat_i, cat_r, kk0, kk1, kk2, eq_self, Nat.reduceEqDiff, Nat.reduceLeDiff, Nat.reduceAdd, Nat.reduceLT, Nat.reduceSub, Nat.reduceMul, forall_const, imp_false, not_true_eq_false, not_false_eq_true, false_imp_iff, Nat.zero_ne_one, Nat.one_ne_zero, Bool.false_eq_true, reduceCtorEq, ne_eq, Nat.add_zero, Nat.reduceBEq, Bool.or_false, Bool.or_true, Bool.false_or, Bool.true_or, or_self, entL, List.flatMap_cons, List.flatMap_nil, List.reduceReplicate, ↓reduceIte, cat_j, lg_0, lg_1, lg_2, lg_3, lg_4, lg_5, lg_6, lg_7, lg_8, lg_9, lg_10, ls_0, ls_1, ls_2, ls_3, ls_4, ls_5, ls_6, ls_7, ls_8, ls_9, ls_10, st_0, st_1, st_2, st_3, st_4, st_5, st_6, nI_2, nI_3]
  exact he w2 hI2
theorem L_prize (hJ : LJ G J Rt) (hI : IV b L xs w) (hi : i + 4 ≤ L) (hL : L ≤ 2048) (hb : b ≤ 900000) (he : ∀ w2, IV (b + 400) L xs w2 → J 729 [.ref 1000, .ref 0, .ref 137, .int (nI i)] [] 145 w2) : J 173 [.ref 1000, .ref 0, .ref 137, .int (nI i)] [] 145 w := by
  obtain ⟨⟨x0, f0, m0⟩, a0⟩ := hI.kp
  have v1 : vp_in (nI (i + 1)) L = True := eq_true (vpl (by omega) (by omega))
  have c1 : (nI (i + 1)).toNatClampNeg = i + 1 := nI_clamp (by omega)
  have v2 : vp_in (nI (i + 2)) L = True := eq_true (vpl (by omega) (by omega))
  have c2 : (nI (i + 2)).toNatClampNeg = i + 2 := nI_clamp (by omega)
  have v3 : vp_in (nI (i + 3)) L = True := eq_true (vpl (by omega) (by omega))
  have c3 : (nI (i + 3)).toNatClampNeg = i + 3 := nI_clamp (by omega)
  refine go_ok hJ (fun _ => false) 60 ?_
  simp -implicitDefEqProofs only [e_L_173, s_aload_n, e_L_174, e_L_175, s_iload_n, e_L_176, s_iconst, e_L_177, s_iadd, e_L_178, s_iaload, e_L_179, e_L_180, e_L_181, e_L_182, e_L_183, e_L_184, e_L_185, e_L_186, e_L_187, e_L_188, e_L_189, s_invokevirtual, rM_8_18, iv4_4, hc_67, i1_0, up_n, ret_b, bI_0, pk_us, pk_un, up_e, up_up, Decidable.not_not, nI_1, Int32.add_zero, Int32.zero_add, vz_0, tn_0, vz_1, tn_1, vz_2, tn_2, vz_3, tn_3, vz_4, tn_4, vz_5, tn_5, vz_6, tn_6, vz_7, tn_7, vz_8, tn_8, vz_9, tn_9, vz_10, tn_10, vz_11, tn_11, vz_12, tn_12, vz_13, tn_13, vz_14, tn_14, vz_15, tn_15, vz_160, tn_160, vz_161, tn_161, vz_162, tn_162, vz_163, tn_163, vz_164, tn_164, vs_0, vs_1, vs_2, vs_3, vs_4, vs_5, run_s, run_e, run_0, true_and, and_true, and_self, or_true, true_or, or_false, false_or, List.length_cons, List.length_nil, Option.toList_some, Option.toList_none, List.cons_append, List.nil_append, isI_t, isJ_t, isA_t, vI_t, nI32_t, isF_t, gF_t, sF_t, isO_t, isP_t, isP0_t, gE_t, sE_t, isR_t, gO_t, sO_t, isS_t, vS_t, isSc_t, nSc_t, pok_i, pok_o, pok_a, pok_0, pok_1, ret_i, ret_0, ret_1, ret_v, clr_i, clr_j, clr_r, clr_n, cat_i, cat_r, kk0, kk1, kk2, eq_self, Nat.reduceEqDiff, Nat.reduceLeDiff, Nat.reduceAdd, Nat.reduceLT, Nat.reduceSub, Nat.reduceMul, forall_const, imp_false, not_true_eq_false, not_false_eq_true, false_imp_iff, Nat.zero_ne_one, Nat.one_ne_zero, Bool.false_eq_true, reduceCtorEq, ne_eq, Nat.add_zero, Nat.reduceBEq, Bool.or_false, Bool.or_true, Bool.false_or, Bool.true_or, or_self, entL, List.flatMap_cons, List.flatMap_nil, List.reduceReplicate, ↓reduceIte, cat_j, lg_0, lg_1, lg_2, lg_3, lg_4, lg_5, lg_6, lg_7, lg_8, lg_9, lg_10, ls_0, ls_1, ls_2, ls_3, ls_4, ls_5, ls_6, ls_7, ls_8, ls_9, ls_10, st_0, st_1, st_2, st_3, st_4, st_5, st_6, nI_2, nI_3, x0, a0, v1, c1, v2, c2, v3, c3]
  refine call0 ((P_prize hI _ _ _).mono fun r w1 hr => ?_)
  obtain ⟨v, rfl, ⟨k1, fs, k2⟩, hT⟩ := hr
  refine go_ok hJ (fun _ => false) 60 ?_
  simp -implicitDefEqProofs only [e_L_192, s_aload_n, e_L_193, e_L_194, s_iload_n, e_L_195, s_iconst, e_L_196, s_iadd, e_L_197, s_iaload, e_L_198, e_L_199, e_L_200, e_L_201, e_L_202, e_L_203, e_L_204, e_L_205, e_L_206, e_L_207, e_L_208, s_invokevirtual, rM_8_22, iv4_4, hc_118, i1_0, up_n, ret_b, bI_0, pk_us, pk_un, up_e, up_up, Decidable.not_not, nI_1, Int32.add_zero, Int32.zero_add, vz_0, tn_0, vz_1, tn_1, vz_2, tn_2, vz_3, tn_3, vz_4, tn_4, vz_5, tn_5, vz_6, tn_6, vz_7, tn_7, vz_8, tn_8, vz_9, tn_9, vz_10, tn_10, vz_11, tn_11, vz_12, tn_12, vz_13, tn_13, vz_14, tn_14, vz_15, tn_15, vz_160, tn_160, vz_161, tn_161, vz_162, tn_162, vz_163, tn_163, vz_164, tn_164, vs_0, vs_1, vs_2, vs_3, vs_4, vs_5, run_s, run_e, run_0, true_and, and_true, and_self, or_true, true_or, or_false, false_or, List.length_cons, List.length_nil, Option.toList_some, Option.toList_none, List.cons_append, List.nil_append, isI_t, isJ_t, isA_t, vI_t, nI32_t, isF_t, gF_t, sF_t, isO_t, isP_t, isP0_t, gE_t, sE_t, isR_t, gO_t, sO_t, isS_t, vS_t, isSc_t, nSc_t, pok_i, pok_o, pok_a, pok_0, pok_1, ret_i, ret_0, ret_1, ret_v, clr_i, clr_j, clr_r, clr_n, cat_i, cat_r, kk0, kk1, kk2, eq_self, Nat.reduceEqDiff, Nat.reduceLeDiff, Nat.reduceAdd, Nat.reduceLT, Nat.reduceSub, Nat.reduceMul, forall_const, imp_false, not_true_eq_false, not_false_eq_true, false_imp_iff, Nat.zero_ne_one, Nat.one_ne_zero, Bool.false_eq_true, reduceCtorEq, ne_eq, Nat.add_zero, Nat.reduceBEq, Bool.or_false, Bool.or_true, Bool.false_or, Bool.true_or, or_self, entL, List.flatMap_cons, List.flatMap_nil, List.reduceReplicate, ↓reduceIte, cat_j, lg_0, lg_1, lg_2, lg_3, lg_4, lg_5, lg_6, lg_7, lg_8, lg_9, lg_10, ls_0, ls_1, ls_2, ls_3, ls_4, ls_5, ls_6, ls_7, ls_8, ls_9, ls_10, st_0, st_1, st_2, st_3, st_4, st_5, st_6, nI_2, nI_3, k1, k2, v1, c1, v2, c2, v3, c3]
  refine call0 (hT.mono fun r w2 hr => ?_)
  obtain ⟨rfl, hI2⟩ := hr
  refine go_ok hJ (fun p => p == 729) 60 ?_
  simp -implicitDefEqProofs only [e_L_211, s_icmp_eq, e_L_214, s_iconst, e_L_215, s_ireturn, i1_0, up_n, ret_b, bI_0, pk_us, pk_un, up_e, up_up, Decidable.not_not, nI_1, Int32.add_zero, Int32.zero_add, vz_0, tn_0, vz_1, tn_1, vz_2, tn_2, vz_3, tn_3, vz_4, tn_4, vz_5, tn_5, vz_6, tn_6, vz_7, tn_7, vz_8, tn_8, vz_9, tn_9, vz_10, tn_10, vz_11, tn_11, vz_12, tn_12, vz_13, tn_13, vz_14, tn_14, vz_15, tn_15, vz_160, tn_160, vz_161, tn_161, vz_162, tn_162, vz_163, tn_163, vz_164, tn_164, vs_0, vs_1, vs_2, vs_3, vs_4, vs_5, run_s, run_e, run_0, true_and, and_true, and_self, or_true, true_or, or_false, false_or, List.length_cons, List.length_nil, Option.toList_some, Option.toList_none, List.cons_append, List.nil_append, isI_t, isJ_t, isA_t, vI_t, nI32_t, isF_t, gF_t, sF_t, isO_t, isP_t, isP0_t, gE_t, sE_t, isR_t, gO_t, sO_t, isS_t, vS_t, isSc_t, nSc_t, pok_i, pok_o, pok_a, pok_0, pok_1, ret_i, ret_0, ret_1, ret_v, clr_i, clr_j, clr_r, clr_n, cat_i, cat_r, kk0, kk1, kk2, eq_self, Nat.reduceEqDiff, Nat.reduceLeDiff, Nat.reduceAdd, Nat.reduceLT, Nat.reduceSub, Nat.reduceMul, forall_const, imp_false, not_true_eq_false, not_false_eq_true, false_imp_iff, Nat.zero_ne_one, Nat.one_ne_zero, Bool.false_eq_true, reduceCtorEq, ne_eq, Nat.add_zero, Nat.reduceBEq, Bool.or_false, Bool.or_true, Bool.false_or, Bool.true_or, or_self, entL, List.flatMap_cons, List.flatMap_nil, List.reduceReplicate, ↓reduceIte, cat_j, lg_0, lg_1, lg_2, lg_3, lg_4, lg_5, lg_6, lg_7, lg_8, lg_9, lg_10, ls_0, ls_1, ls_2, ls_3, ls_4, ls_5, ls_6, ls_7, ls_8, ls_9, ls_10, st_0, st_1, st_2, st_3, st_4, st_5, st_6, nI_2, nI_3]
  exact he w2 hI2
theorem L_add (hJ : LJ G J Rt) (hI : IV b L xs w) (hi : i + 4 ≤ L) (hL : L ≤ 2048) (hb : b ≤ 900000) (he : ∀ w2, IV (b + 400) L xs w2 → J 729 [.ref 1000, .ref 0, .ref 137, .int (nI i)] [] 145 w2) : J 216 [.ref 1000, .ref 0, .ref 137, .int (nI i)] [] 145 w := by
  obtain ⟨⟨x0, f0, m0⟩, a0⟩ := hI.kp
  have v1 : vp_in (nI (i + 1)) L = True := eq_true (vpl (by omega) (by omega))
  have c1 : (nI (i + 1)).toNatClampNeg = i + 1 := nI_clamp (by omega)
  have v2 : vp_in (nI (i + 2)) L = True := eq_true (vpl (by omega) (by omega))
  have c2 : (nI (i + 2)).toNatClampNeg = i + 2 := nI_clamp (by omega)
  have v3 : vp_in (nI (i + 3)) L = True := eq_true (vpl (by omega) (by omega))
  have c3 : (nI (i + 3)).toNatClampNeg = i + 3 := nI_clamp (by omega)
  refine go_ok hJ (fun _ => false) 60 ?_
  simp -implicitDefEqProofs only [e_L_216, s_aload_n, e_L_217, e_L_218, s_iload_n, e_L_219, s_iconst, e_L_220, s_iadd, e_L_221, s_iaload, e_L_222, s_invokevirtual, rM_8_23, iv4_2, hc_68, i1_0, up_n, ret_b, bI_0, pk_us, pk_un, up_e, up_up, Decidable.not_not, nI_1, Int32.add_zero, Int32.zero_add, vz_0, tn_0, vz_1, tn_1, vz_2, tn_2, vz_3, tn_3, vz_4, tn_4, vz_5, tn_5, vz_6, tn_6, vz_7, tn_7, vz_8, tn_8, vz_9, tn_9, vz_10, tn_10, vz_11, tn_11, vz_12, tn_12, vz_13, tn_13, vz_14, tn_14, vz_15, tn_15, vz_160, tn_160, vz_161, tn_161, vz_162, tn_162, vz_163, tn_163, vz_164, tn_164, vs_0, vs_1, vs_2, vs_3, vs_4, vs_5, run_s, run_e, run_0, true_and, and_true, and_self, or_true, true_or, or_false, false_or, List.length_cons, List.length_nil, Option.toList_some, Option.toList_none, List.cons_append, List.nil_append, isI_t, isJ_t, isA_t, vI_t, nI32_t, isF_t, gF_t, sF_t, isO_t, isP_t, isP0_t, gE_t, sE_t, isR_t, gO_t, sO_t, isS_t, vS_t, isSc_t, nSc_t, pok_i, pok_o, pok_a, pok_0, pok_1, ret_i, ret_0, ret_1, ret_v, clr_i, clr_j, clr_r, clr_n, cat_i, cat_r, kk0, kk1, kk2, eq_self, Nat.reduceEqDiff, Nat.reduceLeDiff, Nat.reduceAdd, Nat.reduceLT, Nat.reduceSub, Nat.reduceMul, forall_const, imp_false, not_true_eq_false, not_false_eq_true, false_imp_iff, Nat.zero_ne_one, Nat.one_ne_zero, Bool.false_eq_true, reduceCtorEq, ne_eq, Nat.add_zero, Nat.reduceBEq, Bool.or_false, Bool.or_true, Bool.false_or, Bool.true_or, or_self, entL, List.flatMap_cons, List.flatMap_nil, List.reduceReplicate, ↓reduceIte, cat_j, lg_0, lg_1, lg_2, lg_3, lg_4, lg_5, lg_6, lg_7, lg_8, lg_9, lg_10, ls_0, ls_1, ls_2, ls_3, ls_4, ls_5, ls_6, ls_7, ls_8, ls_9, ls_10, st_0, st_1, st_2, st_3, st_4, st_5, st_6, nI_2, nI_3, x0, a0, v1, c1]
  refine call0 ((P_add hI _).mono fun r w1 hr => ?_)
  obtain ⟨v, rfl, ⟨k1, fs, k2⟩, hT⟩ := hr
  refine go_ok hJ (fun _ => false) 60 ?_
  simp -implicitDefEqProofs only [e_L_225, s_aload_n, e_L_226, e_L_227, s_iload_n, e_L_228, s_iconst, e_L_229, s_iadd, e_L_230, s_iaload, e_L_231, s_invokevirtual, rM_8_27, iv4_2, hc_120, i1_0, up_n, ret_b, bI_0, pk_us, pk_un, up_e, up_up, Decidable.not_not, nI_1, Int32.add_zero, Int32.zero_add, vz_0, tn_0, vz_1, tn_1, vz_2, tn_2, vz_3, tn_3, vz_4, tn_4, vz_5, tn_5, vz_6, tn_6, vz_7, tn_7, vz_8, tn_8, vz_9, tn_9, vz_10, tn_10, vz_11, tn_11, vz_12, tn_12, vz_13, tn_13, vz_14, tn_14, vz_15, tn_15, vz_160, tn_160, vz_161, tn_161, vz_162, tn_162, vz_163, tn_163, vz_164, tn_164, vs_0, vs_1, vs_2, vs_3, vs_4, vs_5, run_s, run_e, run_0, true_and, and_true, and_self, or_true, true_or, or_false, false_or, List.length_cons, List.length_nil, Option.toList_some, Option.toList_none, List.cons_append, List.nil_append, isI_t, isJ_t, isA_t, vI_t, nI32_t, isF_t, gF_t, sF_t, isO_t, isP_t, isP0_t, gE_t, sE_t, isR_t, gO_t, sO_t, isS_t, vS_t, isSc_t, nSc_t, pok_i, pok_o, pok_a, pok_0, pok_1, ret_i, ret_0, ret_1, ret_v, clr_i, clr_j, clr_r, clr_n, cat_i, cat_r, kk0, kk1, kk2, eq_self, Nat.reduceEqDiff, Nat.reduceLeDiff, Nat.reduceAdd, Nat.reduceLT, Nat.reduceSub, Nat.reduceMul, forall_const, imp_false, not_true_eq_false, not_false_eq_true, false_imp_iff, Nat.zero_ne_one, Nat.one_ne_zero, Bool.false_eq_true, reduceCtorEq, ne_eq, Nat.add_zero, Nat.reduceBEq, Bool.or_false, Bool.or_true, Bool.false_or, Bool.true_or, or_self, entL, List.flatMap_cons, List.flatMap_nil, List.reduceReplicate, ↓reduceIte, cat_j, lg_0, lg_1, lg_2, lg_3, lg_4, lg_5, lg_6, lg_7, lg_8, lg_9, lg_10, ls_0, ls_1, ls_2, ls_3, ls_4, ls_5, ls_6, ls_7, ls_8, ls_9, ls_10, st_0, st_1, st_2, st_3, st_4, st_5, st_6, nI_2, nI_3, k1, k2, v1, c1]
  refine call0 (hT.mono fun r w2 hr => ?_)
  obtain ⟨rfl, hI2⟩ := hr
  refine go_ok hJ (fun p => p == 729) 60 ?_
  simp -implicitDefEqProofs only [e_L_234, s_icmp_eq, e_L_237, s_iconst, e_L_238, s_ireturn, i1_0, up_n, ret_b, bI_0, pk_us, pk_un, up_e, up_up, Decidable.not_not, nI_1, Int32.add_zero, Int32.zero_add, vz_0, tn_0, vz_1, tn_1, vz_2, tn_2, vz_3, tn_3, vz_4, tn_4, vz_5, tn_5, vz_6, tn_6, vz_7, tn_7, vz_8, tn_8, vz_9, tn_9, vz_10, tn_10, vz_11, tn_11, vz_12, tn_12, vz_13, tn_13, vz_14, tn_14, vz_15, tn_15, vz_160, tn_160, vz_161, tn_161, vz_162, tn_162, vz_163, tn_163, vz_164, tn_164, vs_0, vs_1, vs_2, vs_3, vs_4, vs_5, run_s, run_e, run_0, true_and, and_true, and_self, or_true, true_or, or_false, false_or, List.length_cons, List.length_nil, Option.toList_some, Option.toList_none, List.cons_append, List.nil_append, isI_t, isJ_t, isA_t, vI_t, nI32_t, isF_t, gF_t, sF_t, isO_t, isP_t, isP0_t, gE_t, sE_t, isR_t, gO_t, sO_t, isS_t, vS_t, isSc_t, nSc_t, pok_i, pok_o, pok_a, pok_0, pok_1, ret_i, ret_0, ret_1, ret_v, clr_i, clr_j, clr_r, clr_n, cat_i, cat_r, kk0, kk1, kk2, eq_self, Nat.reduceEqDiff, Nat.reduceLeDiff, Nat.reduceAdd, Nat.reduceLT, Nat.reduceSub, Nat.reduceMul, forall_const, imp_false, not_true_eq_false, not_false_eq_true, false_imp_iff, Nat.zero_ne_one, Nat.one_ne_zero, Bool.false_eq_true, reduceCtorEq, ne_eq, Nat.add_zero, Nat.reduceBEq, Bool.or_false, Bool.or_true, Bool.false_or, Bool.true_or, or_self, entL, List.flatMap_cons, List.flatMap_nil, List.reduceReplicate, ↓reduceIte, cat_j, lg_0, lg_1, lg_2, lg_3, lg_4, lg_5, lg_6, lg_7, lg_8, lg_9, lg_10, ls_0, ls_1, ls_2, ls_3, ls_4, ls_5, ls_6, ls_7, ls_8, ls_9, ls_10, st_0, st_1, st_2, st_3, st_4, st_5, st_6, nI_2, nI_3]
  exact he w2 hI2
theorem L_coins (hJ : LJ G J Rt) (hI : IV b L xs w) (hi : i + 4 ≤ L) (hL : L ≤ 2048) (hb : b ≤ 900000) (he : ∀ w2, IV (b + 400) L xs w2 → J 729 [.ref 1000, .ref 0, .ref 137, .int (nI i)] [] 145 w2) : J 239 [.ref 1000, .ref 0, .ref 137, .int (nI i)] [] 145 w := by
  obtain ⟨⟨x0, f0, m0⟩, a0⟩ := hI.kp
  have v1 : vp_in (nI (i + 1)) L = True := eq_true (vpl (by omega) (by omega))
  have c1 : (nI (i + 1)).toNatClampNeg = i + 1 := nI_clamp (by omega)
  have v2 : vp_in (nI (i + 2)) L = True := eq_true (vpl (by omega) (by omega))
  have c2 : (nI (i + 2)).toNatClampNeg = i + 2 := nI_clamp (by omega)
  have v3 : vp_in (nI (i + 3)) L = True := eq_true (vpl (by omega) (by omega))
  have c3 : (nI (i + 3)).toNatClampNeg = i + 3 := nI_clamp (by omega)
  refine go_ok hJ (fun _ => false) 60 ?_
  simp -implicitDefEqProofs only [e_L_239, s_aload_n, e_L_240, e_L_241, s_iload_n, e_L_242, s_iconst, e_L_243, s_iadd, e_L_244, s_iaload, e_L_245, s_invokevirtual, rM_8_28, iv4_2, hc_69, i1_0, up_n, ret_b, bI_0, pk_us, pk_un, up_e, up_up, Decidable.not_not, nI_1, Int32.add_zero, Int32.zero_add, vz_0, tn_0, vz_1, tn_1, vz_2, tn_2, vz_3, tn_3, vz_4, tn_4, vz_5, tn_5, vz_6, tn_6, vz_7, tn_7, vz_8, tn_8, vz_9, tn_9, vz_10, tn_10, vz_11, tn_11, vz_12, tn_12, vz_13, tn_13, vz_14, tn_14, vz_15, tn_15, vz_160, tn_160, vz_161, tn_161, vz_162, tn_162, vz_163, tn_163, vz_164, tn_164, vs_0, vs_1, vs_2, vs_3, vs_4, vs_5, run_s, run_e, run_0, true_and, and_true, and_self, or_true, true_or, or_false, false_or, List.length_cons, List.length_nil, Option.toList_some, Option.toList_none, List.cons_append, List.nil_append, isI_t, isJ_t, isA_t, vI_t, nI32_t, isF_t, gF_t, sF_t, isO_t, isP_t, isP0_t, gE_t, sE_t, isR_t, gO_t, sO_t, isS_t, vS_t, isSc_t, nSc_t, pok_i, pok_o, pok_a, pok_0, pok_1, ret_i, ret_0, ret_1, ret_v, clr_i, clr_j, clr_r, clr_n, cat_i, cat_r, kk0, kk1, kk2, eq_self, Nat.reduceEqDiff, Nat.reduceLeDiff, Nat.reduceAdd, Nat.reduceLT, Nat.reduceSub, Nat.reduceMul, forall_const, imp_false, not_true_eq_false, not_false_eq_true, false_imp_iff, Nat.zero_ne_one, Nat.one_ne_zero, Bool.false_eq_true, reduceCtorEq, ne_eq, Nat.add_zero, Nat.reduceBEq, Bool.or_false, Bool.or_true, Bool.false_or, Bool.true_or, or_self, entL, List.flatMap_cons, List.flatMap_nil, List.reduceReplicate, ↓reduceIte, cat_j, lg_0, lg_1, lg_2, lg_3, lg_4, lg_5, lg_6, lg_7, lg_8, lg_9, lg_10, ls_0, ls_1, ls_2, ls_3, ls_4, ls_5, ls_6, ls_7, ls_8, ls_9, ls_10, st_0, st_1, st_2, st_3, st_4, st_5, st_6, nI_2, nI_3, x0, a0, v1, c1]
  refine call0 ((P_coins hI _).mono fun r w1 hr => ?_)
  obtain ⟨v, rfl, ⟨k1, fs, k2⟩, hT⟩ := hr
  refine go_ok hJ (fun _ => false) 60 ?_
  simp -implicitDefEqProofs only [e_L_248, s_aload_n, e_L_249, e_L_250, s_iload_n, e_L_251, s_iconst, e_L_252, s_iadd, e_L_253, s_iaload, e_L_254, s_invokevirtual, rM_8_31, iv4_2, hc_122, i1_0, up_n, ret_b, bI_0, pk_us, pk_un, up_e, up_up, Decidable.not_not, nI_1, Int32.add_zero, Int32.zero_add, vz_0, tn_0, vz_1, tn_1, vz_2, tn_2, vz_3, tn_3, vz_4, tn_4, vz_5, tn_5, vz_6, tn_6, vz_7, tn_7, vz_8, tn_8, vz_9, tn_9, vz_10, tn_10, vz_11, tn_11, vz_12, tn_12, vz_13, tn_13, vz_14, tn_14, vz_15, tn_15, vz_160, tn_160, vz_161, tn_161, vz_162, tn_162, vz_163, tn_163, vz_164, tn_164, vs_0, vs_1, vs_2, vs_3, vs_4, vs_5, run_s, run_e, run_0, true_and, and_true, and_self, or_true, true_or, or_false, false_or, List.length_cons, List.length_nil, Option.toList_some, Option.toList_none, List.cons_append, List.nil_append, isI_t, isJ_t, isA_t, vI_t, nI32_t, isF_t, gF_t, sF_t, isO_t, isP_t, isP0_t, gE_t, sE_t, isR_t, gO_t, sO_t, isS_t, vS_t, isSc_t, nSc_t, pok_i, pok_o, pok_a, pok_0, pok_1, ret_i, ret_0, ret_1, ret_v, clr_i, clr_j, clr_r, clr_n, cat_i, cat_r, kk0, kk1, kk2, eq_self, Nat.reduceEqDiff, Nat.reduceLeDiff, Nat.reduceAdd, Nat.reduceLT, Nat.reduceSub, Nat.reduceMul, forall_const, imp_false, not_true_eq_false, not_false_eq_true, false_imp_iff, Nat.zero_ne_one, Nat.one_ne_zero, Bool.false_eq_true, reduceCtorEq, ne_eq, Nat.add_zero, Nat.reduceBEq, Bool.or_false, Bool.or_true, Bool.false_or, Bool.true_or, or_self, entL, List.flatMap_cons, List.flatMap_nil, List.reduceReplicate, ↓reduceIte, cat_j, lg_0, lg_1, lg_2, lg_3, lg_4, lg_5, lg_6, lg_7, lg_8, lg_9, lg_10, ls_0, ls_1, ls_2, ls_3, ls_4, ls_5, ls_6, ls_7, ls_8, ls_9, ls_10, st_0, st_1, st_2, st_3, st_4, st_5, st_6, nI_2, nI_3, k1, k2, v1, c1]
  refine call0 (hT.mono fun r w2 hr => ?_)
  obtain ⟨rfl, hI2⟩ := hr
  refine go_ok hJ (fun p => p == 729) 60 ?_
  simp -implicitDefEqProofs only [e_L_257, s_icmp_eq, e_L_260, s_iconst, e_L_261, s_ireturn, i1_0, up_n, ret_b, bI_0, pk_us, pk_un, up_e, up_up, Decidable.not_not, nI_1, Int32.add_zero, Int32.zero_add, vz_0, tn_0, vz_1, tn_1, vz_2, tn_2, vz_3, tn_3, vz_4, tn_4, vz_5, tn_5, vz_6, tn_6, vz_7, tn_7, vz_8, tn_8, vz_9, tn_9, vz_10, tn_10, vz_11, tn_11, vz_12, tn_12, vz_13, tn_13, vz_14, tn_14, vz_15, tn_15, vz_160, tn_160, vz_161, tn_161, vz_162, tn_162, vz_163, tn_163, vz_164, tn_164, vs_0, vs_1, vs_2, vs_3, vs_4, vs_5, run_s, run_e, run_0, true_and, and_true, and_self, or_true, true_or, or_false, false_or, List.length_cons, List.length_nil, Option.toList_some, Option.toList_none, List.cons_append, List.nil_append, isI_t, isJ_t, isA_t, vI_t, nI32_t, isF_t, gF_t, sF_t, isO_t, isP_t, isP0_t, gE_t, sE_t, isR_t, gO_t, sO_t, isS_t, vS_t, isSc_t, nSc_t, pok_i, pok_o, pok_a, pok_0, pok_1, ret_i, ret_0, ret_1, ret_v, clr_i, clr_j, clr_r, clr_n, cat_i, cat_r, kk0, kk1, kk2, eq_self, Nat.reduceEqDiff, Nat.reduceLeDiff, Nat.reduceAdd, Nat.reduceLT, Nat.reduceSub, Nat.reduceMul, forall_const, imp_false, not_true_eq_false, not_false_eq_true, false_imp_iff, Nat.zero_ne_one, Nat.one_ne_zero, Bool.false_eq_true, reduceCtorEq, ne_eq, Nat.add_zero, Nat.reduceBEq, Bool.or_false, Bool.or_true, Bool.false_or, Bool.true_or, or_self, entL, List.flatMap_cons, List.flatMap_nil, List.reduceReplicate, ↓reduceIte, cat_j, lg_0, lg_1, lg_2, lg_3, lg_4, lg_5, lg_6, lg_7, lg_8, lg_9, lg_10, ls_0, ls_1, ls_2, ls_3, ls_4, ls_5, ls_6, ls_7, ls_8, ls_9, ls_10, st_0, st_1, st_2, st_3, st_4, st_5, st_6, nI_2, nI_3]
  exact he w2 hI2
theorem L_play (hJ : LJ G J Rt) (hI : IV b L xs w) (hi : i + 4 ≤ L) (hL : L ≤ 2048) (hb : b ≤ 900000) (he : ∀ w2, IV (b + 400) L xs w2 → J 729 [.ref 1000, .ref 0, .ref 137, .int (nI i)] [] 145 w2) : J 262 [.ref 1000, .ref 0, .ref 137, .int (nI i)] [] 145 w := by
  obtain ⟨⟨x0, f0, m0⟩, a0⟩ := hI.kp
  have v1 : vp_in (nI (i + 1)) L = True := eq_true (vpl (by omega) (by omega))
  have c1 : (nI (i + 1)).toNatClampNeg = i + 1 := nI_clamp (by omega)
  have v2 : vp_in (nI (i + 2)) L = True := eq_true (vpl (by omega) (by omega))
  have c2 : (nI (i + 2)).toNatClampNeg = i + 2 := nI_clamp (by omega)
  have v3 : vp_in (nI (i + 3)) L = True := eq_true (vpl (by omega) (by omega))
  have c3 : (nI (i + 3)).toNatClampNeg = i + 3 := nI_clamp (by omega)
  refine go_ok hJ (fun _ => false) 60 ?_
  simp -implicitDefEqProofs only [e_L_262, s_aload_n, e_L_263, e_L_264, s_iload_n, e_L_265, s_iconst, e_L_266, s_iadd, e_L_267, s_iaload, e_L_268, e_L_269, e_L_270, e_L_271, e_L_272, e_L_273, s_invokevirtual, rM_8_32, iv4_3, hc_70, i1_0, up_n, ret_b, bI_0, pk_us, pk_un, up_e, up_up, Decidable.not_not, nI_1, Int32.add_zero, Int32.zero_add, vz_0, tn_0, vz_1, tn_1, vz_2, tn_2, vz_3, tn_3, vz_4, tn_4, vz_5, tn_5, vz_6, tn_6, vz_7, tn_7, vz_8, tn_8, vz_9, tn_9, vz_10, tn_10, vz_11, tn_11, vz_12, tn_12, vz_13, tn_13, vz_14, tn_14, vz_15, tn_15, vz_160, tn_160, vz_161, tn_161, vz_162, tn_162, vz_163, tn_163, vz_164, tn_164, vs_0, vs_1, vs_2, vs_3, vs_4, vs_5, run_s, run_e, run_0, true_and, and_true, and_self, or_true, true_or, or_false, false_or, List.length_cons, List.length_nil, Option.toList_some, Option.toList_none, List.cons_append, List.nil_append, isI_t, isJ_t, isA_t, vI_t, nI32_t, isF_t, gF_t, sF_t, isO_t, isP_t, isP0_t, gE_t, sE_t, isR_t, gO_t, sO_t, isS_t, vS_t, isSc_t, nSc_t, pok_i, pok_o, pok_a, pok_0, pok_1, ret_i, ret_0, ret_1, ret_v, clr_i, clr_j, clr_r, clr_n, cat_i, cat_r, kk0, kk1, kk2, eq_self, Nat.reduceEqDiff, Nat.reduceLeDiff, Nat.reduceAdd, Nat.reduceLT, Nat.reduceSub, Nat.reduceMul, forall_const, imp_false, not_true_eq_false, not_false_eq_true, false_imp_iff, Nat.zero_ne_one, Nat.one_ne_zero, Bool.false_eq_true, reduceCtorEq, ne_eq, Nat.add_zero, Nat.reduceBEq, Bool.or_false, Bool.or_true, Bool.false_or, Bool.true_or, or_self, entL, List.flatMap_cons, List.flatMap_nil, List.reduceReplicate, ↓reduceIte, cat_j, lg_0, lg_1, lg_2, lg_3, lg_4, lg_5, lg_6, lg_7, lg_8, lg_9, lg_10, ls_0, ls_1, ls_2, ls_3, ls_4, ls_5, ls_6, ls_7, ls_8, ls_9, ls_10, st_0, st_1, st_2, st_3, st_4, st_5, st_6, nI_2, nI_3, x0, a0, v1, c1, v2, c2]
  refine call0 ((P_play hI _ _).mono fun r w1 hr => ?_)
  obtain ⟨v, rfl, ⟨k1, fs, k2⟩, hT⟩ := hr
  refine go_ok hJ (fun _ => false) 60 ?_
  simp -implicitDefEqProofs only [e_L_276, s_aload_n, e_L_277, e_L_278, s_iload_n, e_L_279, s_iconst, e_L_280, s_iadd, e_L_281, s_iaload, e_L_282, e_L_283, e_L_284, e_L_285, e_L_286, e_L_287, s_invokevirtual, rM_8_35, iv4_3, hc_133, i1_0, up_n, ret_b, bI_0, pk_us, pk_un, up_e, up_up, Decidable.not_not, nI_1, Int32.add_zero, Int32.zero_add, vz_0, tn_0, vz_1, tn_1, vz_2, tn_2, vz_3, tn_3, vz_4, tn_4, vz_5, tn_5, vz_6, tn_6, vz_7, tn_7, vz_8, tn_8, vz_9, tn_9, vz_10, tn_10, vz_11, tn_11, vz_12, tn_12, vz_13, tn_13, vz_14, tn_14, vz_15, tn_15, vz_160, tn_160, vz_161, tn_161, vz_162, tn_162, vz_163, tn_163, vz_164, tn_164, vs_0, vs_1, vs_2, vs_3, vs_4, vs_5, run_s, run_e, run_0, true_and, and_true, and_self, or_true, true_or, or_false, false_or, List.length_cons, List.length_nil, Option.toList_some, Option.toList_none, List.cons_append, List.nil_append, isI_t, isJ_t, isA_t, vI_t, nI32_t, isF_t, gF_t, sF_t, isO_t, isP_t, isP0_t, gE_t, sE_t, isR_t, gO_t, sO_t, isS_t, vS_t, isSc_t, nSc_t, pok_i, pok_o, pok_a, pok_0, pok_1, ret_i, ret_0, ret_1, ret_v, clr_i, clr_j, clr_r, clr_n, cat_i, cat_r, kk0, kk1, kk2, eq_self, Nat.reduceEqDiff, Nat.reduceLeDiff, Nat.reduceAdd, Nat.reduceLT, Nat.reduceSub, Nat.reduceMul, forall_const, imp_false, not_true_eq_false, not_false_eq_true, false_imp_iff, Nat.zero_ne_one, Nat.one_ne_zero, Bool.false_eq_true, reduceCtorEq, ne_eq, Nat.add_zero, Nat.reduceBEq, Bool.or_false, Bool.or_true, Bool.false_or, Bool.true_or, or_self, entL, List.flatMap_cons, List.flatMap_nil, List.reduceReplicate, ↓reduceIte, cat_j, lg_0, lg_1, lg_2, lg_3, lg_4, lg_5, lg_6, lg_7, lg_8, lg_9, lg_10, ls_0, ls_1, ls_2, ls_3, ls_4, ls_5, ls_6, ls_7, ls_8, ls_9, ls_10, st_0, st_1, st_2, st_3, st_4, st_5, st_6, nI_2, nI_3, k1, k2, v1, c1, v2, c2]
  refine call0 (hT.mono fun r w2 hr => ?_)
  obtain ⟨rfl, hI2⟩ := hr
  refine go_ok hJ (fun p => p == 729) 60 ?_
  simp -implicitDefEqProofs only [e_L_290, s_icmp_eq, e_L_293, s_iconst, e_L_294, s_ireturn, i1_0, up_n, ret_b, bI_0, pk_us, pk_un, up_e, up_up, Decidable.not_not, nI_1, Int32.add_zero, Int32.zero_add, vz_0, tn_0, vz_1, tn_1, vz_2, tn_2, vz_3, tn_3, vz_4, tn_4, vz_5, tn_5, vz_6, tn_6, vz_7, tn_7, vz_8, tn_8, vz_9, tn_9, vz_10, tn_10, vz_11, tn_11, vz_12, tn_12, vz_13, tn_13, vz_14, tn_14, vz_15, tn_15, vz_160, tn_160, vz_161, tn_161, vz_162, tn_162, vz_163, tn_163, vz_164, tn_164, vs_0, vs_1, vs_2, vs_3, vs_4, vs_5, run_s, run_e, run_0, true_and, and_true, and_self, or_true, true_or, or_false, false_or, List.length_cons, List.length_nil, Option.toList_some, Option.toList_none, List.cons_append, List.nil_append, isI_t, isJ_t, isA_t, vI_t, nI32_t, isF_t, gF_t, sF_t, isO_t, isP_t, isP0_t, gE_t, sE_t, isR_t, gO_t, sO_t, isS_t, vS_t, isSc_t, nSc_t, pok_i, pok_o, pok_a, pok_0, pok_1, ret_i, ret_0, ret_1, ret_v, clr_i, clr_j, clr_r, clr_n, cat_i, cat_r, kk0, kk1, kk2, eq_self, Nat.reduceEqDiff, Nat.reduceLeDiff, Nat.reduceAdd, Nat.reduceLT, Nat.reduceSub, Nat.reduceMul, forall_const, imp_false, not_true_eq_false, not_false_eq_true, false_imp_iff, Nat.zero_ne_one, Nat.one_ne_zero, Bool.false_eq_true, reduceCtorEq, ne_eq, Nat.add_zero, Nat.reduceBEq, Bool.or_false, Bool.or_true, Bool.false_or, Bool.true_or, or_self, entL, List.flatMap_cons, List.flatMap_nil, List.reduceReplicate, ↓reduceIte, cat_j, lg_0, lg_1, lg_2, lg_3, lg_4, lg_5, lg_6, lg_7, lg_8, lg_9, lg_10, ls_0, ls_1, ls_2, ls_3, ls_4, ls_5, ls_6, ls_7, ls_8, ls_9, ls_10, st_0, st_1, st_2, st_3, st_4, st_5, st_6, nI_2, nI_3]
  exact he w2 hI2
theorem L_of (hJ : LJ G J Rt) (hI : IV b L xs w) (hi : i + 4 ≤ L) (hL : L ≤ 2048) (hb : b ≤ 900000) (he : ∀ w2, IV (b + 400) L xs w2 → J 729 [.ref 1000, .ref 0, .ref 137, .int (nI i)] [] 145 w2) : J 295 [.ref 1000, .ref 0, .ref 137, .int (nI i)] [] 145 w := by
  obtain ⟨⟨x0, f0, m0⟩, a0⟩ := hI.kp
  have v1 : vp_in (nI (i + 1)) L = True := eq_true (vpl (by omega) (by omega))
  have c1 : (nI (i + 1)).toNatClampNeg = i + 1 := nI_clamp (by omega)
  have v2 : vp_in (nI (i + 2)) L = True := eq_true (vpl (by omega) (by omega))
  have c2 : (nI (i + 2)).toNatClampNeg = i + 2 := nI_clamp (by omega)
  have v3 : vp_in (nI (i + 3)) L = True := eq_true (vpl (by omega) (by omega))
  have c3 : (nI (i + 3)).toNatClampNeg = i + 3 := nI_clamp (by omega)
  refine go_ok hJ (fun _ => false) 60 ?_
  simp -implicitDefEqProofs only [e_L_295, s_aload_n, e_L_296, e_L_297, s_iload_n, e_L_298, s_iconst, e_L_299, s_iadd, e_L_300, s_iaload, e_L_301, e_L_302, e_L_303, e_L_304, e_L_305, e_L_306, s_invokevirtual, rM_8_36, iv4_3, hc_72, i1_0, up_n, ret_b, bI_0, pk_us, pk_un, up_e, up_up, Decidable.not_not, nI_1, Int32.add_zero, Int32.zero_add, vz_0, tn_0, vz_1, tn_1, vz_2, tn_2, vz_3, tn_3, vz_4, tn_4, vz_5, tn_5, vz_6, tn_6, vz_7, tn_7, vz_8, tn_8, vz_9, tn_9, vz_10, tn_10, vz_11, tn_11, vz_12, tn_12, vz_13, tn_13, vz_14, tn_14, vz_15, tn_15, vz_160, tn_160, vz_161, tn_161, vz_162, tn_162, vz_163, tn_163, vz_164, tn_164, vs_0, vs_1, vs_2, vs_3, vs_4, vs_5, run_s, run_e, run_0, true_and, and_true, and_self, or_true, true_or, or_false, false_or, List.length_cons, List.length_nil, Option.toList_some, Option.toList_none, List.cons_append, List.nil_append, isI_t, isJ_t, isA_t, vI_t, nI32_t, isF_t, gF_t, sF_t, isO_t, isP_t, isP0_t, gE_t, sE_t, isR_t, gO_t, sO_t, isS_t, vS_t, isSc_t, nSc_t, pok_i, pok_o, pok_a, pok_0, pok_1, ret_i, ret_0, ret_1, ret_v, clr_i, clr_j, clr_r, clr_n, cat_i, cat_r, kk0, kk1, kk2, eq_self, Nat.reduceEqDiff, Nat.reduceLeDiff, Nat.reduceAdd, Nat.reduceLT, Nat.reduceSub, Nat.reduceMul, forall_const, imp_false, not_true_eq_false, not_false_eq_true, false_imp_iff, Nat.zero_ne_one, Nat.one_ne_zero, Bool.false_eq_true, reduceCtorEq, ne_eq, Nat.add_zero, Nat.reduceBEq, Bool.or_false, Bool.or_true, Bool.false_or, Bool.true_or, or_self, entL, List.flatMap_cons, List.flatMap_nil, List.reduceReplicate, ↓reduceIte, cat_j, lg_0, lg_1, lg_2, lg_3, lg_4, lg_5, lg_6, lg_7, lg_8, lg_9, lg_10, ls_0, ls_1, ls_2, ls_3, ls_4, ls_5, ls_6, ls_7, ls_8, ls_9, ls_10, st_0, st_1, st_2, st_3, st_4, st_5, st_6, nI_2, nI_3, x0, a0, v1, c1, v2, c2]
  refine call0 ((P_of hI _ _).mono fun r w1 hr => ?_)
  obtain ⟨v, rfl, ⟨k1, fs, k2⟩, hT⟩ := hr
  refine go_ok hJ (fun _ => false) 60 ?_
  simp -implicitDefEqProofs only [e_L_309, s_aload_n, e_L_310, e_L_311, s_iload_n, e_L_312, s_iconst, e_L_313, s_iadd, e_L_314, s_iaload, e_L_315, e_L_316, e_L_317, e_L_318, e_L_319, e_L_320, s_invokevirtual, rM_8_39, iv4_3, hc_134, i1_0, up_n, ret_b, bI_0, pk_us, pk_un, up_e, up_up, Decidable.not_not, nI_1, Int32.add_zero, Int32.zero_add, vz_0, tn_0, vz_1, tn_1, vz_2, tn_2, vz_3, tn_3, vz_4, tn_4, vz_5, tn_5, vz_6, tn_6, vz_7, tn_7, vz_8, tn_8, vz_9, tn_9, vz_10, tn_10, vz_11, tn_11, vz_12, tn_12, vz_13, tn_13, vz_14, tn_14, vz_15, tn_15, vz_160, tn_160, vz_161, tn_161, vz_162, tn_162, vz_163, tn_163, vz_164, tn_164, vs_0, vs_1, vs_2, vs_3, vs_4, vs_5, run_s, run_e, run_0, true_and, and_true, and_self, or_true, true_or, or_false, false_or, List.length_cons, List.length_nil, Option.toList_some, Option.toList_none, List.cons_append, List.nil_append, isI_t, isJ_t, isA_t, vI_t, nI32_t, isF_t, gF_t, sF_t, isO_t, isP_t, isP0_t, gE_t, sE_t, isR_t, gO_t, sO_t, isS_t, vS_t, isSc_t, nSc_t, pok_i, pok_o, pok_a, pok_0, pok_1, ret_i, ret_0, ret_1, ret_v, clr_i, clr_j, clr_r, clr_n, cat_i, cat_r, kk0, kk1, kk2, eq_self, Nat.reduceEqDiff, Nat.reduceLeDiff, Nat.reduceAdd, Nat.reduceLT, Nat.reduceSub, Nat.reduceMul, forall_const, imp_false, not_true_eq_false, not_false_eq_true, false_imp_iff, Nat.zero_ne_one, Nat.one_ne_zero, Bool.false_eq_true, reduceCtorEq, ne_eq, Nat.add_zero, Nat.reduceBEq, Bool.or_false, Bool.or_true, Bool.false_or, Bool.true_or, or_self, entL, List.flatMap_cons, List.flatMap_nil, List.reduceReplicate, ↓reduceIte, cat_j, lg_0, lg_1, lg_2, lg_3, lg_4, lg_5, lg_6, lg_7, lg_8, lg_9, lg_10, ls_0, ls_1, ls_2, ls_3, ls_4, ls_5, ls_6, ls_7, ls_8, ls_9, ls_10, st_0, st_1, st_2, st_3, st_4, st_5, st_6, nI_2, nI_3, k1, k2, v1, c1, v2, c2]
  refine call0 (hT.mono fun r w2 hr => ?_)
  obtain ⟨rfl, hI2⟩ := hr
  refine go_ok hJ (fun p => p == 729) 60 ?_
  simp -implicitDefEqProofs only [e_L_323, s_icmp_eq, e_L_326, s_iconst, e_L_327, s_ireturn, i1_0, up_n, ret_b, bI_0, pk_us, pk_un, up_e, up_up, Decidable.not_not, nI_1, Int32.add_zero, Int32.zero_add, vz_0, tn_0, vz_1, tn_1, vz_2, tn_2, vz_3, tn_3, vz_4, tn_4, vz_5, tn_5, vz_6, tn_6, vz_7, tn_7, vz_8, tn_8, vz_9, tn_9, vz_10, tn_10, vz_11, tn_11, vz_12, tn_12, vz_13, tn_13, vz_14, tn_14, vz_15, tn_15, vz_160, tn_160, vz_161, tn_161, vz_162, tn_162, vz_163, tn_163, vz_164, tn_164, vs_0, vs_1, vs_2, vs_3, vs_4, vs_5, run_s, run_e, run_0, true_and, and_true, and_self, or_true, true_or, or_false, false_or, List.length_cons, List.length_nil, Option.toList_some, Option.toList_none, List.cons_append, List.nil_append, isI_t, isJ_t, isA_t, vI_t, nI32_t, isF_t, gF_t, sF_t, isO_t, isP_t, isP0_t, gE_t, sE_t, isR_t, gO_t, sO_t, isS_t, vS_t, isSc_t, nSc_t, pok_i, pok_o, pok_a, pok_0, pok_1, ret_i, ret_0, ret_1, ret_v, clr_i, clr_j, clr_r, clr_n, cat_i, cat_r, kk0, kk1, kk2, eq_self, Nat.reduceEqDiff, Nat.reduceLeDiff, Nat.reduceAdd, Nat.reduceLT, Nat.reduceSub, Nat.reduceMul, forall_const, imp_false, not_true_eq_false, not_false_eq_true, false_imp_iff, Nat.zero_ne_one, Nat.one_ne_zero, Bool.false_eq_true, reduceCtorEq, ne_eq, Nat.add_zero, Nat.reduceBEq, Bool.or_false, Bool.or_true, Bool.false_or, Bool.true_or, or_self, entL, List.flatMap_cons, List.flatMap_nil, List.reduceReplicate, ↓reduceIte, cat_j, lg_0, lg_1, lg_2, lg_3, lg_4, lg_5, lg_6, lg_7, lg_8, lg_9, lg_10, ls_0, ls_1, ls_2, ls_3, ls_4, ls_5, ls_6, ls_7, ls_8, ls_9, ls_10, st_0, st_1, st_2, st_3, st_4, st_5, st_6, nI_2, nI_3]
  exact he w2 hI2
theorem L_at (hJ : LJ G J Rt) (hI : IV b L xs w) (hi : i + 4 ≤ L) (hL : L ≤ 2048) (hb : b ≤ 900000) (he : ∀ w2, IV (b + 400) L xs w2 → J 729 [.ref 1000, .ref 0, .ref 137, .int (nI i)] [] 145 w2) : J 328 [.ref 1000, .ref 0, .ref 137, .int (nI i)] [] 145 w := by
  obtain ⟨⟨x0, f0, m0⟩, a0⟩ := hI.kp
  have v1 : vp_in (nI (i + 1)) L = True := eq_true (vpl (by omega) (by omega))
  have c1 : (nI (i + 1)).toNatClampNeg = i + 1 := nI_clamp (by omega)
  have v2 : vp_in (nI (i + 2)) L = True := eq_true (vpl (by omega) (by omega))
  have c2 : (nI (i + 2)).toNatClampNeg = i + 2 := nI_clamp (by omega)
  have v3 : vp_in (nI (i + 3)) L = True := eq_true (vpl (by omega) (by omega))
  have c3 : (nI (i + 3)).toNatClampNeg = i + 3 := nI_clamp (by omega)
  refine go_ok hJ (fun _ => false) 60 ?_
  simp -implicitDefEqProofs only [e_L_328, s_aload_n, e_L_329, e_L_330, s_iload_n, e_L_331, s_iconst, e_L_332, s_iadd, e_L_333, s_iaload, e_L_334, e_L_335, e_L_336, e_L_337, e_L_338, e_L_339, s_invokevirtual, rM_8_40, iv4_3, hc_73, i1_0, up_n, ret_b, bI_0, pk_us, pk_un, up_e, up_up, Decidable.not_not, nI_1, Int32.add_zero, Int32.zero_add, vz_0, tn_0, vz_1, tn_1, vz_2, tn_2, vz_3, tn_3, vz_4, tn_4, vz_5, tn_5, vz_6, tn_6, vz_7, tn_7, vz_8, tn_8, vz_9, tn_9, vz_10, tn_10, vz_11, tn_11, vz_12, tn_12, vz_13, tn_13, vz_14, tn_14, vz_15, tn_15, vz_160, tn_160, vz_161, tn_161, vz_162, tn_162, vz_163, tn_163, vz_164, tn_164, vs_0, vs_1, vs_2, vs_3, vs_4, vs_5, run_s, run_e, run_0, true_and, and_true, and_self, or_true, true_or, or_false, false_or, List.length_cons, List.length_nil, Option.toList_some, Option.toList_none, List.cons_append, List.nil_append, isI_t, isJ_t, isA_t, vI_t, nI32_t, isF_t, gF_t, sF_t, isO_t, isP_t, isP0_t, gE_t, sE_t, isR_t, gO_t, sO_t, isS_t, vS_t, isSc_t, nSc_t, pok_i, pok_o, pok_a, pok_0, pok_1, ret_i, ret_0, ret_1, ret_v, clr_i, clr_j, clr_r, clr_n, cat_i, cat_r, kk0, kk1, kk2, eq_self, Nat.reduceEqDiff, Nat.reduceLeDiff, Nat.reduceAdd, Nat.reduceLT, Nat.reduceSub, Nat.reduceMul, forall_const, imp_false, not_true_eq_false, not_false_eq_true, false_imp_iff, Nat.zero_ne_one, Nat.one_ne_zero, Bool.false_eq_true, reduceCtorEq, ne_eq, Nat.add_zero, Nat.reduceBEq, Bool.or_false, Bool.or_true, Bool.false_or, Bool.true_or, or_self, entL, List.flatMap_cons, List.flatMap_nil, List.reduceReplicate, ↓reduceIte, cat_j, lg_0, lg_1, lg_2, lg_3, lg_4, lg_5, lg_6, lg_7, lg_8, lg_9, lg_10, ls_0, ls_1, ls_2, ls_3, ls_4, ls_5, ls_6, ls_7, ls_8, ls_9, ls_10, st_0, st_1, st_2, st_3, st_4, st_5, st_6, nI_2, nI_3, x0, a0, v1, c1, v2, c2]
  refine call0 ((P_at hI _ _).mono fun r w1 hr => ?_)
  obtain ⟨v, rfl, ⟨k1, fs, k2⟩, hT⟩ := hr
  refine go_ok hJ (fun _ => false) 60 ?_
  simp -implicitDefEqProofs only [e_L_342, s_aload_n, e_L_343, e_L_344, s_iload_n, e_L_345, s_iconst, e_L_346, s_iadd, e_L_347, s_iaload, e_L_348, e_L_349, e_L_350, e_L_351, e_L_352, e_L_353, s_invokevirtual, rM_8_43, iv4_3, hc_135, i1_0, up_n, ret_b, bI_0, pk_us, pk_un, up_e, up_up, Decidable.not_not, nI_1, Int32.add_zero, Int32.zero_add, vz_0, tn_0, vz_1, tn_1, vz_2, tn_2, vz_3, tn_3, vz_4, tn_4, vz_5, tn_5, vz_6, tn_6, vz_7, tn_7, vz_8, tn_8, vz_9, tn_9, vz_10, tn_10, vz_11, tn_11, vz_12, tn_12, vz_13, tn_13, vz_14, tn_14, vz_15, tn_15, vz_160, tn_160, vz_161, tn_161, vz_162, tn_162, vz_163, tn_163, vz_164, tn_164, vs_0, vs_1, vs_2, vs_3, vs_4, vs_5, run_s, run_e, run_0, true_and, and_true, and_self, or_true, true_or, or_false, false_or, List.length_cons, List.length_nil, Option.toList_some, Option.toList_none, List.cons_append, List.nil_append, isI_t, isJ_t, isA_t, vI_t, nI32_t, isF_t, gF_t, sF_t, isO_t, isP_t, isP0_t, gE_t, sE_t, isR_t, gO_t, sO_t, isS_t, vS_t, isSc_t, nSc_t, pok_i, pok_o, pok_a, pok_0, pok_1, ret_i, ret_0, ret_1, ret_v, clr_i, clr_j, clr_r, clr_n, cat_i, cat_r, kk0, kk1, kk2, eq_self, Nat.reduceEqDiff, Nat.reduceLeDiff, Nat.reduceAdd, Nat.reduceLT, Nat.reduceSub, Nat.reduceMul, forall_const, imp_false, not_true_eq_false, not_false_eq_true, false_imp_iff, Nat.zero_ne_one, Nat.one_ne_zero, Bool.false_eq_true, reduceCtorEq, ne_eq, Nat.add_zero, Nat.reduceBEq, Bool.or_false, Bool.or_true, Bool.false_or, Bool.true_or, or_self, entL, List.flatMap_cons, List.flatMap_nil, List.reduceReplicate, ↓reduceIte, cat_j, lg_0, lg_1, lg_2, lg_3, lg_4, lg_5, lg_6, lg_7, lg_8, lg_9, lg_10, ls_0, ls_1, ls_2, ls_3, ls_4, ls_5, ls_6, ls_7, ls_8, ls_9, ls_10, st_0, st_1, st_2, st_3, st_4, st_5, st_6, nI_2, nI_3, k1, k2, v1, c1, v2, c2]
  refine call0 (hT.mono fun r w2 hr => ?_)
  obtain ⟨rfl, hI2⟩ := hr
  refine go_ok hJ (fun p => p == 729) 60 ?_
  simp -implicitDefEqProofs only [e_L_356, s_icmp_eq, e_L_359, s_iconst, e_L_360, s_ireturn, i1_0, up_n, ret_b, bI_0, pk_us, pk_un, up_e, up_up, Decidable.not_not, nI_1, Int32.add_zero, Int32.zero_add, vz_0, tn_0, vz_1, tn_1, vz_2, tn_2, vz_3, tn_3, vz_4, tn_4, vz_5, tn_5, vz_6, tn_6, vz_7, tn_7, vz_8, tn_8, vz_9, tn_9, vz_10, tn_10, vz_11, tn_11, vz_12, tn_12, vz_13, tn_13, vz_14, tn_14, vz_15, tn_15, vz_160, tn_160, vz_161, tn_161, vz_162, tn_162, vz_163, tn_163, vz_164, tn_164, vs_0, vs_1, vs_2, vs_3, vs_4, vs_5, run_s, run_e, run_0, true_and, and_true, and_self, or_true, true_or, or_false, false_or, List.length_cons, List.length_nil, Option.toList_some, Option.toList_none, List.cons_append, List.nil_append, isI_t, isJ_t, isA_t, vI_t, nI32_t, isF_t, gF_t, sF_t, isO_t, isP_t, isP0_t, gE_t, sE_t, isR_t, gO_t, sO_t, isS_t, vS_t, isSc_t, nSc_t, pok_i, pok_o, pok_a, pok_0, pok_1, ret_i, ret_0, ret_1, ret_v, clr_i, clr_j, clr_r, clr_n, cat_i, cat_r, kk0, kk1, kk2, eq_self, Nat.reduceEqDiff, Nat.reduceLeDiff, Nat.reduceAdd, Nat.reduceLT, Nat.reduceSub, Nat.reduceMul, forall_const, imp_false, not_true_eq_false, not_false_eq_true, false_imp_iff, Nat.zero_ne_one, Nat.one_ne_zero, Bool.false_eq_true, reduceCtorEq, ne_eq, Nat.add_zero, Nat.reduceBEq, Bool.or_false, Bool.or_true, Bool.false_or, Bool.true_or, or_self, entL, List.flatMap_cons, List.flatMap_nil, List.reduceReplicate, ↓reduceIte, cat_j, lg_0, lg_1, lg_2, lg_3, lg_4, lg_5, lg_6, lg_7, lg_8, lg_9, lg_10, ls_0, ls_1, ls_2, ls_3, ls_4, ls_5, ls_6, ls_7, ls_8, ls_9, ls_10, st_0, st_1, st_2, st_3, st_4, st_5, st_6, nI_2, nI_3]
  exact he w2 hI2
theorem L_book (hJ : LJ G J Rt) (hI : IV b L xs w) (hi : i + 4 ≤ L) (hL : L ≤ 2048) (hb : b ≤ 900000) (he : ∀ w2, IV (b + 400) L xs w2 → J 729 [.ref 1000, .ref 0, .ref 137, .int (nI i)] [] 145 w2) : J 361 [.ref 1000, .ref 0, .ref 137, .int (nI i)] [] 145 w := by
  obtain ⟨⟨x0, f0, m0⟩, a0⟩ := hI.kp
  have v1 : vp_in (nI (i + 1)) L = True := eq_true (vpl (by omega) (by omega))
  have c1 : (nI (i + 1)).toNatClampNeg = i + 1 := nI_clamp (by omega)
  have v2 : vp_in (nI (i + 2)) L = True := eq_true (vpl (by omega) (by omega))
  have c2 : (nI (i + 2)).toNatClampNeg = i + 2 := nI_clamp (by omega)
  have v3 : vp_in (nI (i + 3)) L = True := eq_true (vpl (by omega) (by omega))
  have c3 : (nI (i + 3)).toNatClampNeg = i + 3 := nI_clamp (by omega)
  refine go_ok hJ (fun _ => false) 60 ?_
  simp -implicitDefEqProofs only [e_L_361, s_aload_n, e_L_362, e_L_363, s_iload_n, e_L_364, s_iconst, e_L_365, s_iadd, e_L_366, s_iaload, e_L_367, e_L_368, e_L_369, e_L_370, e_L_371, e_L_372, s_invokevirtual, rM_8_44, iv4_3, hc_74, i1_0, up_n, ret_b, bI_0, pk_us, pk_un, up_e, up_up, Decidable.not_not, nI_1, Int32.add_zero, Int32.zero_add, vz_0, tn_0, vz_1, tn_1, vz_2, tn_2, vz_3, tn_3, vz_4, tn_4, vz_5, tn_5, vz_6, tn_6, vz_7, tn_7, vz_8, tn_8, vz_9, tn_9, vz_10, tn_10, vz_11, tn_11, vz_12, tn_12, vz_13, tn_13, vz_14, tn_14, vz_15, tn_15, vz_160, tn_160, vz_161, tn_161, vz_162, tn_162, vz_163, tn_163, vz_164, tn_164, vs_0, vs_1, vs_2, vs_3, vs_4, vs_5, run_s, run_e, run_0, true_and, and_true, and_self, or_true, true_or, or_false, false_or, List.length_cons, List.length_nil, Option.toList_some, Option.toList_none, List.cons_append, List.nil_append, isI_t, isJ_t, isA_t, vI_t, nI32_t, isF_t, gF_t, sF_t, isO_t, isP_t, isP0_t, gE_t, sE_t, isR_t, gO_t, sO_t, isS_t, vS_t, isSc_t, nSc_t, pok_i, pok_o, pok_a, pok_0, pok_1, ret_i, ret_0, ret_1, ret_v, clr_i, clr_j, clr_r, clr_n, cat_i, cat_r, kk0, kk1, kk2, eq_self, Nat.reduceEqDiff, Nat.reduceLeDiff, Nat.reduceAdd, Nat.reduceLT, Nat.reduceSub, Nat.reduceMul, forall_const, imp_false, not_true_eq_false, not_false_eq_true, false_imp_iff, Nat.zero_ne_one, Nat.one_ne_zero, Bool.false_eq_true, reduceCtorEq, ne_eq, Nat.add_zero, Nat.reduceBEq, Bool.or_false, Bool.or_true, Bool.false_or, Bool.true_or, or_self, entL, List.flatMap_cons, List.flatMap_nil, List.reduceReplicate, ↓reduceIte, cat_j, lg_0, lg_1, lg_2, lg_3, lg_4, lg_5, lg_6, lg_7, lg_8, lg_9, lg_10, ls_0, ls_1, ls_2, ls_3, ls_4, ls_5, ls_6, ls_7, ls_8, ls_9, ls_10, st_0, st_1, st_2, st_3, st_4, st_5, st_6, nI_2, nI_3, x0, a0, v1, c1, v2, c2]
  refine call0 ((P_book hI _ _).mono fun r w1 hr => ?_)
  obtain ⟨v, rfl, ⟨k1, fs, k2⟩, hT⟩ := hr
  refine go_ok hJ (fun _ => false) 60 ?_
  simp -implicitDefEqProofs only [e_L_375, s_aload_n, e_L_376, e_L_377, s_iload_n, e_L_378, s_iconst, e_L_379, s_iadd, e_L_380, s_iaload, e_L_381, e_L_382, e_L_383, e_L_384, e_L_385, e_L_386, s_invokevirtual, rM_8_47, iv4_3, hc_136, i1_0, up_n, ret_b, bI_0, pk_us, pk_un, up_e, up_up, Decidable.not_not, nI_1, Int32.add_zero, Int32.zero_add, vz_0, tn_0, vz_1, tn_1, vz_2, tn_2, vz_3, tn_3, vz_4, tn_4, vz_5, tn_5, vz_6, tn_6, vz_7, tn_7, vz_8, tn_8, vz_9, tn_9, vz_10, tn_10, vz_11, tn_11, vz_12, tn_12, vz_13, tn_13, vz_14, tn_14, vz_15, tn_15, vz_160, tn_160, vz_161, tn_161, vz_162, tn_162, vz_163, tn_163, vz_164, tn_164, vs_0, vs_1, vs_2, vs_3, vs_4, vs_5, run_s, run_e, run_0, true_and, and_true, and_self, or_true, true_or, or_false, false_or, List.length_cons, List.length_nil, Option.toList_some, Option.toList_none, List.cons_append, List.nil_append, isI_t, isJ_t, isA_t, vI_t, nI32_t, isF_t, gF_t, sF_t, isO_t, isP_t, isP0_t, gE_t, sE_t, isR_t, gO_t, sO_t, isS_t, vS_t, isSc_t, nSc_t, pok_i, pok_o, pok_a, pok_0, pok_1, ret_i, ret_0, ret_1, ret_v, clr_i, clr_j, clr_r, clr_n, cat_i, cat_r, kk0, kk1, kk2, eq_self, Nat.reduceEqDiff, Nat.reduceLeDiff, Nat.reduceAdd, Nat.reduceLT, Nat.reduceSub, Nat.reduceMul, forall_const, imp_false, not_true_eq_false, not_false_eq_true, false_imp_iff, Nat.zero_ne_one, Nat.one_ne_zero, Bool.false_eq_true, reduceCtorEq, ne_eq, Nat.add_zero, Nat.reduceBEq, Bool.or_false, Bool.or_true, Bool.false_or, Bool.true_or, or_self, entL, List.flatMap_cons, List.flatMap_nil, List.reduceReplicate, ↓reduceIte, cat_j, lg_0, lg_1, lg_2, lg_3, lg_4, lg_5, lg_6, lg_7, lg_8, lg_9, lg_10, ls_0, ls_1, ls_2, ls_3, ls_4, ls_5, ls_6, ls_7, ls_8, ls_9, ls_10, st_0, st_1, st_2, st_3, st_4, st_5, st_6, nI_2, nI_3, k1, k2, v1, c1, v2, c2]
  refine call0 (hT.mono fun r w2 hr => ?_)
  obtain ⟨rfl, hI2⟩ := hr
  refine go_ok hJ (fun p => p == 729) 60 ?_
  simp -implicitDefEqProofs only [e_L_389, s_icmp_eq, e_L_392, s_iconst, e_L_393, s_ireturn, i1_0, up_n, ret_b, bI_0, pk_us, pk_un, up_e, up_up, Decidable.not_not, nI_1, Int32.add_zero, Int32.zero_add, vz_0, tn_0, vz_1, tn_1, vz_2, tn_2, vz_3, tn_3, vz_4, tn_4, vz_5, tn_5, vz_6, tn_6, vz_7, tn_7, vz_8, tn_8, vz_9, tn_9, vz_10, tn_10, vz_11, tn_11, vz_12, tn_12, vz_13, tn_13, vz_14, tn_14, vz_15, tn_15, vz_160, tn_160, vz_161, tn_161, vz_162, tn_162, vz_163, tn_163, vz_164, tn_164, vs_0, vs_1, vs_2, vs_3, vs_4, vs_5, run_s, run_e, run_0, true_and, and_true, and_self, or_true, true_or, or_false, false_or, List.length_cons, List.length_nil, Option.toList_some, Option.toList_none, List.cons_append, List.nil_append, isI_t, isJ_t, isA_t, vI_t, nI32_t, isF_t, gF_t, sF_t, isO_t, isP_t, isP0_t, gE_t, sE_t, isR_t, gO_t, sO_t, isS_t, vS_t, isSc_t, nSc_t, pok_i, pok_o, pok_a, pok_0, pok_1, ret_i, ret_0, ret_1, ret_v, clr_i, clr_j, clr_r, clr_n, cat_i, cat_r, kk0, kk1, kk2, eq_self, Nat.reduceEqDiff, Nat.reduceLeDiff, Nat.reduceAdd, Nat.reduceLT, Nat.reduceSub, Nat.reduceMul, forall_const, imp_false, not_true_eq_false, not_false_eq_true, false_imp_iff, Nat.zero_ne_one, Nat.one_ne_zero, Bool.false_eq_true, reduceCtorEq, ne_eq, Nat.add_zero, Nat.reduceBEq, Bool.or_false, Bool.or_true, Bool.false_or, Bool.true_or, or_self, entL, List.flatMap_cons, List.flatMap_nil, List.reduceReplicate, ↓reduceIte, cat_j, lg_0, lg_1, lg_2, lg_3, lg_4, lg_5, lg_6, lg_7, lg_8, lg_9, lg_10, ls_0, ls_1, ls_2, ls_3, ls_4, ls_5, ls_6, ls_7, ls_8, ls_9, ls_10, st_0, st_1, st_2, st_3, st_4, st_5, st_6, nI_2, nI_3]
  exact he w2 hI2
theorem L_byValue (hJ : LJ G J Rt) (hI : IV b L xs w) (hi : i + 4 ≤ L) (hL : L ≤ 2048) (hb : b ≤ 900000) (he : ∀ w2, IV (b + 400) L xs w2 → J 729 [.ref 1000, .ref 0, .ref 137, .int (nI i)] [] 145 w2) : J 394 [.ref 1000, .ref 0, .ref 137, .int (nI i)] [] 145 w := by
  obtain ⟨⟨x0, f0, m0⟩, a0⟩ := hI.kp
  have v1 : vp_in (nI (i + 1)) L = True := eq_true (vpl (by omega) (by omega))
  have c1 : (nI (i + 1)).toNatClampNeg = i + 1 := nI_clamp (by omega)
  have v2 : vp_in (nI (i + 2)) L = True := eq_true (vpl (by omega) (by omega))
  have c2 : (nI (i + 2)).toNatClampNeg = i + 2 := nI_clamp (by omega)
  have v3 : vp_in (nI (i + 3)) L = True := eq_true (vpl (by omega) (by omega))
  have c3 : (nI (i + 3)).toNatClampNeg = i + 3 := nI_clamp (by omega)
  refine go_ok hJ (fun _ => false) 60 ?_
  simp -implicitDefEqProofs only [e_L_394, s_aload_n, e_L_395, e_L_396, s_iload_n, e_L_397, s_iconst, e_L_398, s_iadd, e_L_399, s_iaload, e_L_400, s_invokevirtual, rM_8_48, iv4_2, hc_75, i1_0, up_n, ret_b, bI_0, pk_us, pk_un, up_e, up_up, Decidable.not_not, nI_1, Int32.add_zero, Int32.zero_add, vz_0, tn_0, vz_1, tn_1, vz_2, tn_2, vz_3, tn_3, vz_4, tn_4, vz_5, tn_5, vz_6, tn_6, vz_7, tn_7, vz_8, tn_8, vz_9, tn_9, vz_10, tn_10, vz_11, tn_11, vz_12, tn_12, vz_13, tn_13, vz_14, tn_14, vz_15, tn_15, vz_160, tn_160, vz_161, tn_161, vz_162, tn_162, vz_163, tn_163, vz_164, tn_164, vs_0, vs_1, vs_2, vs_3, vs_4, vs_5, run_s, run_e, run_0, true_and, and_true, and_self, or_true, true_or, or_false, false_or, List.length_cons, List.length_nil, Option.toList_some, Option.toList_none, List.cons_append, List.nil_append, isI_t, isJ_t, isA_t, vI_t, nI32_t, isF_t, gF_t, sF_t, isO_t, isP_t, isP0_t, gE_t, sE_t, isR_t, gO_t, sO_t, isS_t, vS_t, isSc_t, nSc_t, pok_i, pok_o, pok_a, pok_0, pok_1, ret_i, ret_0, ret_1, ret_v, clr_i, clr_j, clr_r, clr_n, cat_i, cat_r, kk0, kk1, kk2, eq_self, Nat.reduceEqDiff, Nat.reduceLeDiff, Nat.reduceAdd, Nat.reduceLT, Nat.reduceSub, Nat.reduceMul, forall_const, imp_false, not_true_eq_false, not_false_eq_true, false_imp_iff, Nat.zero_ne_one, Nat.one_ne_zero, Bool.false_eq_true, reduceCtorEq, ne_eq, Nat.add_zero, Nat.reduceBEq, Bool.or_false, Bool.or_true, Bool.false_or, Bool.true_or, or_self, entL, List.flatMap_cons, List.flatMap_nil, List.reduceReplicate, ↓reduceIte, cat_j, lg_0, lg_1, lg_2, lg_3, lg_4, lg_5, lg_6, lg_7, lg_8, lg_9, lg_10, ls_0, ls_1, ls_2, ls_3, ls_4, ls_5, ls_6, ls_7, ls_8, ls_9, ls_10, st_0, st_1, st_2, st_3, st_4, st_5, st_6, nI_2, nI_3, x0, a0, v1, c1]
  refine call0 ((P_byValue hI _).mono fun r w1 hr => ?_)
  obtain ⟨v, rfl, ⟨k1, fs, k2⟩, hT⟩ := hr
  refine go_ok hJ (fun _ => false) 60 ?_
  simp -implicitDefEqProofs only [e_L_403, s_aload_n, e_L_404, e_L_405, s_iload_n, e_L_406, s_iconst, e_L_407, s_iadd, e_L_408, s_iaload, e_L_409, s_invokevirtual, rM_8_51, iv4_2, hc_139, i1_0, up_n, ret_b, bI_0, pk_us, pk_un, up_e, up_up, Decidable.not_not, nI_1, Int32.add_zero, Int32.zero_add, vz_0, tn_0, vz_1, tn_1, vz_2, tn_2, vz_3, tn_3, vz_4, tn_4, vz_5, tn_5, vz_6, tn_6, vz_7, tn_7, vz_8, tn_8, vz_9, tn_9, vz_10, tn_10, vz_11, tn_11, vz_12, tn_12, vz_13, tn_13, vz_14, tn_14, vz_15, tn_15, vz_160, tn_160, vz_161, tn_161, vz_162, tn_162, vz_163, tn_163, vz_164, tn_164, vs_0, vs_1, vs_2, vs_3, vs_4, vs_5, run_s, run_e, run_0, true_and, and_true, and_self, or_true, true_or, or_false, false_or, List.length_cons, List.length_nil, Option.toList_some, Option.toList_none, List.cons_append, List.nil_append, isI_t, isJ_t, isA_t, vI_t, nI32_t, isF_t, gF_t, sF_t, isO_t, isP_t, isP0_t, gE_t, sE_t, isR_t, gO_t, sO_t, isS_t, vS_t, isSc_t, nSc_t, pok_i, pok_o, pok_a, pok_0, pok_1, ret_i, ret_0, ret_1, ret_v, clr_i, clr_j, clr_r, clr_n, cat_i, cat_r, kk0, kk1, kk2, eq_self, Nat.reduceEqDiff, Nat.reduceLeDiff, Nat.reduceAdd, Nat.reduceLT, Nat.reduceSub, Nat.reduceMul, forall_const, imp_false, not_true_eq_false, not_false_eq_true, false_imp_iff, Nat.zero_ne_one, Nat.one_ne_zero, Bool.false_eq_true, reduceCtorEq, ne_eq, Nat.add_zero, Nat.reduceBEq, Bool.or_false, Bool.or_true, Bool.false_or, Bool.true_or, or_self, entL, List.flatMap_cons, List.flatMap_nil, List.reduceReplicate, ↓reduceIte, cat_j, lg_0, lg_1, lg_2, lg_3, lg_4, lg_5, lg_6, lg_7, lg_8, lg_9, lg_10, ls_0, ls_1, ls_2, ls_3, ls_4, ls_5, ls_6, ls_7, ls_8, ls_9, ls_10, st_0, st_1, st_2, st_3, st_4, st_5, st_6, nI_2, nI_3, k1, k2, v1, c1]
  refine call0 (hT.mono fun r w2 hr => ?_)
  obtain ⟨rfl, hI2⟩ := hr
  refine go_ok hJ (fun p => p == 729) 60 ?_
  simp -implicitDefEqProofs only [e_L_412, s_icmp_eq, e_L_415, s_iconst, e_L_416, s_ireturn, i1_0, up_n, ret_b, bI_0, pk_us, pk_un, up_e, up_up, Decidable.not_not, nI_1, Int32.add_zero, Int32.zero_add, vz_0, tn_0, vz_1, tn_1, vz_2, tn_2, vz_3, tn_3, vz_4, tn_4, vz_5, tn_5, vz_6, tn_6, vz_7, tn_7, vz_8, tn_8, vz_9, tn_9, vz_10, tn_10, vz_11, tn_11, vz_12, tn_12, vz_13, tn_13, vz_14, tn_14, vz_15, tn_15, vz_160, tn_160, vz_161, tn_161, vz_162, tn_162, vz_163, tn_163, vz_164, tn_164, vs_0, vs_1, vs_2, vs_3, vs_4, vs_5, run_s, run_e, run_0, true_and, and_true, and_self, or_true, true_or, or_false, false_or, List.length_cons, List.length_nil, Option.toList_some, Option.toList_none, List.cons_append, List.nil_append, isI_t, isJ_t, isA_t, vI_t, nI32_t, isF_t, gF_t, sF_t, isO_t, isP_t, isP0_t, gE_t, sE_t, isR_t, gO_t, sO_t, isS_t, vS_t, isSc_t, nSc_t, pok_i, pok_o, pok_a, pok_0, pok_1, ret_i, ret_0, ret_1, ret_v, clr_i, clr_j, clr_r, clr_n, cat_i, cat_r, kk0, kk1, kk2, eq_self, Nat.reduceEqDiff, Nat.reduceLeDiff, Nat.reduceAdd, Nat.reduceLT, Nat.reduceSub, Nat.reduceMul, forall_const, imp_false, not_true_eq_false, not_false_eq_true, false_imp_iff, Nat.zero_ne_one, Nat.one_ne_zero, Bool.false_eq_true, reduceCtorEq, ne_eq, Nat.add_zero, Nat.reduceBEq, Bool.or_false, Bool.or_true, Bool.false_or, Bool.true_or, or_self, entL, List.flatMap_cons, List.flatMap_nil, List.reduceReplicate, ↓reduceIte, cat_j, lg_0, lg_1, lg_2, lg_3, lg_4, lg_5, lg_6, lg_7, lg_8, lg_9, lg_10, ls_0, ls_1, ls_2, ls_3, ls_4, ls_5, ls_6, ls_7, ls_8, ls_9, ls_10, st_0, st_1, st_2, st_3, st_4, st_5, st_6, nI_2, nI_3]
  exact he w2 hI2
theorem L_lighter (hJ : LJ G J Rt) (hI : IV b L xs w) (hi : i + 4 ≤ L) (hL : L ≤ 2048) (hb : b ≤ 900000) (he : ∀ w2, IV (b + 400) L xs w2 → J 729 [.ref 1000, .ref 0, .ref 137, .int (nI i)] [] 145 w2) : J 417 [.ref 1000, .ref 0, .ref 137, .int (nI i)] [] 145 w := by
  obtain ⟨⟨x0, f0, m0⟩, a0⟩ := hI.kp
  have v1 : vp_in (nI (i + 1)) L = True := eq_true (vpl (by omega) (by omega))
  have c1 : (nI (i + 1)).toNatClampNeg = i + 1 := nI_clamp (by omega)
  have v2 : vp_in (nI (i + 2)) L = True := eq_true (vpl (by omega) (by omega))
  have c2 : (nI (i + 2)).toNatClampNeg = i + 2 := nI_clamp (by omega)
  have v3 : vp_in (nI (i + 3)) L = True := eq_true (vpl (by omega) (by omega))
  have c3 : (nI (i + 3)).toNatClampNeg = i + 3 := nI_clamp (by omega)
  refine go_ok hJ (fun _ => false) 60 ?_
  simp -implicitDefEqProofs only [e_L_417, s_aload_n, e_L_418, e_L_419, s_iload_n, e_L_420, s_iconst, e_L_421, s_iadd, e_L_422, s_iaload, e_L_423, s_invokevirtual, rM_8_52, iv4_2, hc_76, i1_0, up_n, ret_b, bI_0, pk_us, pk_un, up_e, up_up, Decidable.not_not, nI_1, Int32.add_zero, Int32.zero_add, vz_0, tn_0, vz_1, tn_1, vz_2, tn_2, vz_3, tn_3, vz_4, tn_4, vz_5, tn_5, vz_6, tn_6, vz_7, tn_7, vz_8, tn_8, vz_9, tn_9, vz_10, tn_10, vz_11, tn_11, vz_12, tn_12, vz_13, tn_13, vz_14, tn_14, vz_15, tn_15, vz_160, tn_160, vz_161, tn_161, vz_162, tn_162, vz_163, tn_163, vz_164, tn_164, vs_0, vs_1, vs_2, vs_3, vs_4, vs_5, run_s, run_e, run_0, true_and, and_true, and_self, or_true, true_or, or_false, false_or, List.length_cons, List.length_nil, Option.toList_some, Option.toList_none, List.cons_append, List.nil_append, isI_t, isJ_t, isA_t, vI_t, nI32_t, isF_t, gF_t, sF_t, isO_t, isP_t, isP0_t, gE_t, sE_t, isR_t, gO_t, sO_t, isS_t, vS_t, isSc_t, nSc_t, pok_i, pok_o, pok_a, pok_0, pok_1, ret_i, ret_0, ret_1, ret_v, clr_i, clr_j, clr_r, clr_n, cat_i, cat_r, kk0, kk1, kk2, eq_self, Nat.reduceEqDiff, Nat.reduceLeDiff, Nat.reduceAdd, Nat.reduceLT, Nat.reduceSub, Nat.reduceMul, forall_const, imp_false, not_true_eq_false, not_false_eq_true, false_imp_iff, Nat.zero_ne_one, Nat.one_ne_zero, Bool.false_eq_true, reduceCtorEq, ne_eq, Nat.add_zero, Nat.reduceBEq, Bool.or_false, Bool.or_true, Bool.false_or, Bool.true_or, or_self, entL, List.flatMap_cons, List.flatMap_nil, List.reduceReplicate, ↓reduceIte, cat_j, lg_0, lg_1, lg_2, lg_3, lg_4, lg_5, lg_6, lg_7, lg_8, lg_9, lg_10, ls_0, ls_1, ls_2, ls_3, ls_4, ls_5, ls_6, ls_7, ls_8, ls_9, ls_10, st_0, st_1, st_2, st_3, st_4, st_5, st_6, nI_2, nI_3, x0, a0, v1, c1]
  refine call0 ((P_lighter hI _).mono fun r w1 hr => ?_)
  obtain ⟨v, rfl, ⟨k1, fs, k2⟩, hT⟩ := hr
  refine go_ok hJ (fun _ => false) 60 ?_
  simp -implicitDefEqProofs only [e_L_426, s_aload_n, e_L_427, e_L_428, s_iload_n, e_L_429, s_iconst, e_L_430, s_iadd, e_L_431, s_iaload, e_L_432, s_invokevirtual, rM_8_55, iv4_2, hc_140, i1_0, up_n, ret_b, bI_0, pk_us, pk_un, up_e, up_up, Decidable.not_not, nI_1, Int32.add_zero, Int32.zero_add, vz_0, tn_0, vz_1, tn_1, vz_2, tn_2, vz_3, tn_3, vz_4, tn_4, vz_5, tn_5, vz_6, tn_6, vz_7, tn_7, vz_8, tn_8, vz_9, tn_9, vz_10, tn_10, vz_11, tn_11, vz_12, tn_12, vz_13, tn_13, vz_14, tn_14, vz_15, tn_15, vz_160, tn_160, vz_161, tn_161, vz_162, tn_162, vz_163, tn_163, vz_164, tn_164, vs_0, vs_1, vs_2, vs_3, vs_4, vs_5, run_s, run_e, run_0, true_and, and_true, and_self, or_true, true_or, or_false, false_or, List.length_cons, List.length_nil, Option.toList_some, Option.toList_none, List.cons_append, List.nil_append, isI_t, isJ_t, isA_t, vI_t, nI32_t, isF_t, gF_t, sF_t, isO_t, isP_t, isP0_t, gE_t, sE_t, isR_t, gO_t, sO_t, isS_t, vS_t, isSc_t, nSc_t, pok_i, pok_o, pok_a, pok_0, pok_1, ret_i, ret_0, ret_1, ret_v, clr_i, clr_j, clr_r, clr_n, cat_i, cat_r, kk0, kk1, kk2, eq_self, Nat.reduceEqDiff, Nat.reduceLeDiff, Nat.reduceAdd, Nat.reduceLT, Nat.reduceSub, Nat.reduceMul, forall_const, imp_false, not_true_eq_false, not_false_eq_true, false_imp_iff, Nat.zero_ne_one, Nat.one_ne_zero, Bool.false_eq_true, reduceCtorEq, ne_eq, Nat.add_zero, Nat.reduceBEq, Bool.or_false, Bool.or_true, Bool.false_or, Bool.true_or, or_self, entL, List.flatMap_cons, List.flatMap_nil, List.reduceReplicate, ↓reduceIte, cat_j, lg_0, lg_1, lg_2, lg_3, lg_4, lg_5, lg_6, lg_7, lg_8, lg_9, lg_10, ls_0, ls_1, ls_2, ls_3, ls_4, ls_5, ls_6, ls_7, ls_8, ls_9, ls_10, st_0, st_1, st_2, st_3, st_4, st_5, st_6, nI_2, nI_3, k1, k2, v1, c1]
  refine call0 (hT.mono fun r w2 hr => ?_)
  obtain ⟨rfl, hI2⟩ := hr
  refine go_ok hJ (fun p => p == 729) 60 ?_
  simp -implicitDefEqProofs only [e_L_435, s_icmp_eq, e_L_438, s_iconst, e_L_439, s_ireturn, i1_0, up_n, ret_b, bI_0, pk_us, pk_un, up_e, up_up, Decidable.not_not, nI_1, Int32.add_zero, Int32.zero_add, vz_0, tn_0, vz_1, tn_1, vz_2, tn_2, vz_3, tn_3, vz_4, tn_4, vz_5, tn_5, vz_6, tn_6, vz_7, tn_7, vz_8, tn_8, vz_9, tn_9, vz_10, tn_10, vz_11, tn_11, vz_12, tn_12, vz_13, tn_13, vz_14, tn_14, vz_15, tn_15, vz_160, tn_160, vz_161, tn_161, vz_162, tn_162, vz_163, tn_163, vz_164, tn_164, vs_0, vs_1, vs_2, vs_3, vs_4, vs_5, run_s, run_e, run_0, true_and, and_true, and_self, or_true, true_or, or_false, false_or, List.length_cons, List.length_nil, Option.toList_some, Option.toList_none, List.cons_append, List.nil_append, isI_t, isJ_t, isA_t, vI_t, nI32_t, isF_t, gF_t, sF_t, isO_t, isP_t, isP0_t, gE_t, sE_t, isR_t, gO_t, sO_t, isS_t, vS_t, isSc_t, nSc_t, pok_i, pok_o, pok_a, pok_0, pok_1, ret_i, ret_0, ret_1, ret_v, clr_i, clr_j, clr_r, clr_n, cat_i, cat_r, kk0, kk1, kk2, eq_self, Nat.reduceEqDiff, Nat.reduceLeDiff, Nat.reduceAdd, Nat.reduceLT, Nat.reduceSub, Nat.reduceMul, forall_const, imp_false, not_true_eq_false, not_false_eq_true, false_imp_iff, Nat.zero_ne_one, Nat.one_ne_zero, Bool.false_eq_true, reduceCtorEq, ne_eq, Nat.add_zero, Nat.reduceBEq, Bool.or_false, Bool.or_true, Bool.false_or, Bool.true_or, or_self, entL, List.flatMap_cons, List.flatMap_nil, List.reduceReplicate, ↓reduceIte, cat_j, lg_0, lg_1, lg_2, lg_3, lg_4, lg_5, lg_6, lg_7, lg_8, lg_9, lg_10, ls_0, ls_1, ls_2, ls_3, ls_4, ls_5, ls_6, ls_7, ls_8, ls_9, ls_10, st_0, st_1, st_2, st_3, st_4, st_5, st_6, nI_2, nI_3]
  exact he w2 hI2
theorem L_count (hJ : LJ G J Rt) (hI : IV b L xs w) (hi : i + 4 ≤ L) (hL : L ≤ 2048) (hb : b ≤ 900000) (he : ∀ w2, IV (b + 400) L xs w2 → J 729 [.ref 1000, .ref 0, .ref 137, .int (nI i)] [] 145 w2) : J 440 [.ref 1000, .ref 0, .ref 137, .int (nI i)] [] 145 w := by
  obtain ⟨⟨x0, f0, m0⟩, a0⟩ := hI.kp
  have v1 : vp_in (nI (i + 1)) L = True := eq_true (vpl (by omega) (by omega))
  have c1 : (nI (i + 1)).toNatClampNeg = i + 1 := nI_clamp (by omega)
  have v2 : vp_in (nI (i + 2)) L = True := eq_true (vpl (by omega) (by omega))
  have c2 : (nI (i + 2)).toNatClampNeg = i + 2 := nI_clamp (by omega)
  have v3 : vp_in (nI (i + 3)) L = True := eq_true (vpl (by omega) (by omega))
  have c3 : (nI (i + 3)).toNatClampNeg = i + 3 := nI_clamp (by omega)
  refine go_ok hJ (fun _ => false) 60 ?_
  simp -implicitDefEqProofs only [e_L_440, s_aload_n, e_L_441, e_L_442, s_iload_n, e_L_443, s_iconst, e_L_444, s_iadd, e_L_445, s_iaload, e_L_446, s_invokevirtual, rM_8_56, iv4_2, hc_77, i1_0, up_n, ret_b, bI_0, pk_us, pk_un, up_e, up_up, Decidable.not_not, nI_1, Int32.add_zero, Int32.zero_add, vz_0, tn_0, vz_1, tn_1, vz_2, tn_2, vz_3, tn_3, vz_4, tn_4, vz_5, tn_5, vz_6, tn_6, vz_7, tn_7, vz_8, tn_8, vz_9, tn_9, vz_10, tn_10, vz_11, tn_11, vz_12, tn_12, vz_13, tn_13, vz_14, tn_14, vz_15, tn_15, vz_160, tn_160, vz_161, tn_161, vz_162, tn_162, vz_163, tn_163, vz_164, tn_164, vs_0, vs_1, vs_2, vs_3, vs_4, vs_5, run_s, run_e, run_0, true_and, and_true, and_self, or_true, true_or, or_false, false_or, List.length_cons, List.length_nil, Option.toList_some, Option.toList_none, List.cons_append, List.nil_append, isI_t, isJ_t, isA_t, vI_t, nI32_t, isF_t, gF_t, sF_t, isO_t, isP_t, isP0_t, gE_t, sE_t, isR_t, gO_t, sO_t, isS_t, vS_t, isSc_t, nSc_t, pok_i, pok_o, pok_a, pok_0, pok_1, ret_i, ret_0, ret_1, ret_v, clr_i, clr_j, clr_r, clr_n, cat_i, cat_r, kk0, kk1, kk2, eq_self, Nat.reduceEqDiff, Nat.reduceLeDiff, Nat.reduceAdd, Nat.reduceLT, Nat.reduceSub, Nat.reduceMul, forall_const, imp_false, not_true_eq_false, not_false_eq_true, false_imp_iff, Nat.zero_ne_one, Nat.one_ne_zero, Bool.false_eq_true, reduceCtorEq, ne_eq, Nat.add_zero, Nat.reduceBEq, Bool.or_false, Bool.or_true, Bool.false_or, Bool.true_or, or_self, entL, List.flatMap_cons, List.flatMap_nil, List.reduceReplicate, ↓reduceIte, cat_j, lg_0, lg_1, lg_2, lg_3, lg_4, lg_5, lg_6, lg_7, lg_8, lg_9, lg_10, ls_0, ls_1, ls_2, ls_3, ls_4, ls_5, ls_6, ls_7, ls_8, ls_9, ls_10, st_0, st_1, st_2, st_3, st_4, st_5, st_6, nI_2, nI_3, x0, a0, v1, c1]
  refine call0 ((P_count hI _).mono fun r w1 hr => ?_)
  obtain ⟨v, rfl, ⟨k1, fs, k2⟩, hT⟩ := hr
  refine go_ok hJ (fun _ => false) 60 ?_
  simp -implicitDefEqProofs only [e_L_449, s_aload_n, e_L_450, e_L_451, s_iload_n, e_L_452, s_iconst, e_L_453, s_iadd, e_L_454, s_iaload, e_L_455, s_invokevirtual, rM_8_59, iv4_2, hc_142, i1_0, up_n, ret_b, bI_0, pk_us, pk_un, up_e, up_up, Decidable.not_not, nI_1, Int32.add_zero, Int32.zero_add, vz_0, tn_0, vz_1, tn_1, vz_2, tn_2, vz_3, tn_3, vz_4, tn_4, vz_5, tn_5, vz_6, tn_6, vz_7, tn_7, vz_8, tn_8, vz_9, tn_9, vz_10, tn_10, vz_11, tn_11, vz_12, tn_12, vz_13, tn_13, vz_14, tn_14, vz_15, tn_15, vz_160, tn_160, vz_161, tn_161, vz_162, tn_162, vz_163, tn_163, vz_164, tn_164, vs_0, vs_1, vs_2, vs_3, vs_4, vs_5, run_s, run_e, run_0, true_and, and_true, and_self, or_true, true_or, or_false, false_or, List.length_cons, List.length_nil, Option.toList_some, Option.toList_none, List.cons_append, List.nil_append, isI_t, isJ_t, isA_t, vI_t, nI32_t, isF_t, gF_t, sF_t, isO_t, isP_t, isP0_t, gE_t, sE_t, isR_t, gO_t, sO_t, isS_t, vS_t, isSc_t, nSc_t, pok_i, pok_o, pok_a, pok_0, pok_1, ret_i, ret_0, ret_1, ret_v, clr_i, clr_j, clr_r, clr_n, cat_i, cat_r, kk0, kk1, kk2, eq_self, Nat.reduceEqDiff, Nat.reduceLeDiff, Nat.reduceAdd, Nat.reduceLT, Nat.reduceSub, Nat.reduceMul, forall_const, imp_false, not_true_eq_false, not_false_eq_true, false_imp_iff, Nat.zero_ne_one, Nat.one_ne_zero, Bool.false_eq_true, reduceCtorEq, ne_eq, Nat.add_zero, Nat.reduceBEq, Bool.or_false, Bool.or_true, Bool.false_or, Bool.true_or, or_self, entL, List.flatMap_cons, List.flatMap_nil, List.reduceReplicate, ↓reduceIte, cat_j, lg_0, lg_1, lg_2, lg_3, lg_4, lg_5, lg_6, lg_7, lg_8, lg_9, lg_10, ls_0, ls_1, ls_2, ls_3, ls_4, ls_5, ls_6, ls_7, ls_8, ls_9, ls_10, st_0, st_1, st_2, st_3, st_4, st_5, st_6, nI_2, nI_3, k1, k2, v1, c1]
  refine call0 (hT.mono fun r w2 hr => ?_)
  obtain ⟨rfl, hI2⟩ := hr
  refine go_ok hJ (fun p => p == 729) 60 ?_
  simp -implicitDefEqProofs only [e_L_458, s_icmp_eq, e_L_461, s_iconst, e_L_462, s_ireturn, i1_0, up_n, ret_b, bI_0, pk_us, pk_un, up_e, up_up, Decidable.not_not, nI_1, Int32.add_zero, Int32.zero_add, vz_0, tn_0, vz_1, tn_1, vz_2, tn_2, vz_3, tn_3, vz_4, tn_4, vz_5, tn_5, vz_6, tn_6, vz_7, tn_7, vz_8, tn_8, vz_9, tn_9, vz_10, tn_10, vz_11, tn_11, vz_12, tn_12, vz_13, tn_13, vz_14, tn_14, vz_15, tn_15, vz_160, tn_160, vz_161, tn_161, vz_162, tn_162, vz_163, tn_163, vz_164, tn_164, vs_0, vs_1, vs_2, vs_3, vs_4, vs_5, run_s, run_e, run_0, true_and, and_true, and_self, or_true, true_or, or_false, false_or, List.length_cons, List.length_nil, Option.toList_some, Option.toList_none, List.cons_append, List.nil_append, isI_t, isJ_t, isA_t, vI_t, nI32_t, isF_t, gF_t, sF_t, isO_t, isP_t, isP0_t, gE_t, sE_t, isR_t, gO_t, sO_t, isS_t, vS_t, isSc_t, nSc_t, pok_i, pok_o, pok_a, pok_0, pok_1, ret_i, ret_0, ret_1, ret_v, clr_i, clr_j, clr_r, clr_n, cat_i, cat_r, kk0, kk1, kk2, eq_self, Nat.reduceEqDiff, Nat.reduceLeDiff, Nat.reduceAdd, Nat.reduceLT, Nat.reduceSub, Nat.reduceMul, forall_const, imp_false, not_true_eq_false, not_false_eq_true, false_imp_iff, Nat.zero_ne_one, Nat.one_ne_zero, Bool.false_eq_true, reduceCtorEq, ne_eq, Nat.add_zero, Nat.reduceBEq, Bool.or_false, Bool.or_true, Bool.false_or, Bool.true_or, or_self, entL, List.flatMap_cons, List.flatMap_nil, List.reduceReplicate, ↓reduceIte, cat_j, lg_0, lg_1, lg_2, lg_3, lg_4, lg_5, lg_6, lg_7, lg_8, lg_9, lg_10, ls_0, ls_1, ls_2, ls_3, ls_4, ls_5, ls_6, ls_7, ls_8, ls_9, ls_10, st_0, st_1, st_2, st_3, st_4, st_5, st_6, nI_2, nI_3]
  exact he w2 hI2
theorem L_ifPlayed (hJ : LJ G J Rt) (hI : IV b L xs w) (hi : i + 4 ≤ L) (hL : L ≤ 2048) (hb : b ≤ 900000) (he : ∀ w2, IV (b + 400) L xs w2 → J 729 [.ref 1000, .ref 0, .ref 137, .int (nI i)] [] 145 w2) : J 463 [.ref 1000, .ref 0, .ref 137, .int (nI i)] [] 145 w := by
  obtain ⟨⟨x0, f0, m0⟩, a0⟩ := hI.kp
  have v1 : vp_in (nI (i + 1)) L = True := eq_true (vpl (by omega) (by omega))
  have c1 : (nI (i + 1)).toNatClampNeg = i + 1 := nI_clamp (by omega)
  have v2 : vp_in (nI (i + 2)) L = True := eq_true (vpl (by omega) (by omega))
  have c2 : (nI (i + 2)).toNatClampNeg = i + 2 := nI_clamp (by omega)
  have v3 : vp_in (nI (i + 3)) L = True := eq_true (vpl (by omega) (by omega))
  have c3 : (nI (i + 3)).toNatClampNeg = i + 3 := nI_clamp (by omega)
  refine go_ok hJ (fun _ => false) 60 ?_
  simp -implicitDefEqProofs only [e_L_463, s_aload_n, e_L_464, e_L_465, s_iload_n, e_L_466, s_iconst, e_L_467, s_iadd, e_L_468, s_iaload, e_L_469, e_L_470, e_L_471, e_L_472, e_L_473, e_L_474, s_invokevirtual, rM_8_60, iv4_3, hc_78, i1_0, up_n, ret_b, bI_0, pk_us, pk_un, up_e, up_up, Decidable.not_not, nI_1, Int32.add_zero, Int32.zero_add, vz_0, tn_0, vz_1, tn_1, vz_2, tn_2, vz_3, tn_3, vz_4, tn_4, vz_5, tn_5, vz_6, tn_6, vz_7, tn_7, vz_8, tn_8, vz_9, tn_9, vz_10, tn_10, vz_11, tn_11, vz_12, tn_12, vz_13, tn_13, vz_14, tn_14, vz_15, tn_15, vz_160, tn_160, vz_161, tn_161, vz_162, tn_162, vz_163, tn_163, vz_164, tn_164, vs_0, vs_1, vs_2, vs_3, vs_4, vs_5, run_s, run_e, run_0, true_and, and_true, and_self, or_true, true_or, or_false, false_or, List.length_cons, List.length_nil, Option.toList_some, Option.toList_none, List.cons_append, List.nil_append, isI_t, isJ_t, isA_t, vI_t, nI32_t, isF_t, gF_t, sF_t, isO_t, isP_t, isP0_t, gE_t, sE_t, isR_t, gO_t, sO_t, isS_t, vS_t, isSc_t, nSc_t, pok_i, pok_o, pok_a, pok_0, pok_1, ret_i, ret_0, ret_1, ret_v, clr_i, clr_j, clr_r, clr_n, cat_i, cat_r, kk0, kk1, kk2, eq_self, Nat.reduceEqDiff, Nat.reduceLeDiff, Nat.reduceAdd, Nat.reduceLT, Nat.reduceSub, Nat.reduceMul, forall_const, imp_false, not_true_eq_false, not_false_eq_true, false_imp_iff, Nat.zero_ne_one, Nat.one_ne_zero, Bool.false_eq_true, reduceCtorEq, ne_eq, Nat.add_zero, Nat.reduceBEq, Bool.or_false, Bool.or_true, Bool.false_or, Bool.true_or, or_self, entL, List.flatMap_cons, List.flatMap_nil, List.reduceReplicate, ↓reduceIte, cat_j, lg_0, lg_1, lg_2, lg_3, lg_4, lg_5, lg_6, lg_7, lg_8, lg_9, lg_10, ls_0, ls_1, ls_2, ls_3, ls_4, ls_5, ls_6, ls_7, ls_8, ls_9, ls_10, st_0, st_1, st_2, st_3, st_4, st_5, st_6, nI_2, nI_3, x0, a0, v1, c1, v2, c2]
  refine call0 ((P_ifPlayed hI _ _).mono fun r w1 hr => ?_)
  obtain ⟨v, rfl, ⟨k1, fs, k2⟩, hT⟩ := hr
  refine go_ok hJ (fun _ => false) 60 ?_
  simp -implicitDefEqProofs only [e_L_477, s_aload_n, e_L_478, e_L_479, s_iload_n, e_L_480, s_iconst, e_L_481, s_iadd, e_L_482, s_iaload, e_L_483, e_L_484, e_L_485, e_L_486, e_L_487, e_L_488, s_invokevirtual, rM_8_63, iv4_3, hc_143, i1_0, up_n, ret_b, bI_0, pk_us, pk_un, up_e, up_up, Decidable.not_not, nI_1, Int32.add_zero, Int32.zero_add, vz_0, tn_0, vz_1, tn_1, vz_2, tn_2, vz_3, tn_3, vz_4, tn_4, vz_5, tn_5, vz_6, tn_6, vz_7, tn_7, vz_8, tn_8, vz_9, tn_9, vz_10, tn_10, vz_11, tn_11, vz_12, tn_12, vz_13, tn_13, vz_14, tn_14, vz_15, tn_15, vz_160, tn_160, vz_161, tn_161, vz_162, tn_162, vz_163, tn_163, vz_164, tn_164, vs_0, vs_1, vs_2, vs_3, vs_4, vs_5, run_s, run_e, run_0, true_and, and_true, and_self, or_true, true_or, or_false, false_or, List.length_cons, List.length_nil, Option.toList_some, Option.toList_none, List.cons_append, List.nil_append, isI_t, isJ_t, isA_t, vI_t, nI32_t, isF_t, gF_t, sF_t, isO_t, isP_t, isP0_t, gE_t, sE_t, isR_t, gO_t, sO_t, isS_t, vS_t, isSc_t, nSc_t, pok_i, pok_o, pok_a, pok_0, pok_1, ret_i, ret_0, ret_1, ret_v, clr_i, clr_j, clr_r, clr_n, cat_i, cat_r, kk0, kk1, kk2, eq_self, Nat.reduceEqDiff, Nat.reduceLeDiff, Nat.reduceAdd, Nat.reduceLT, Nat.reduceSub, Nat.reduceMul, forall_const, imp_false, not_true_eq_false, not_false_eq_true, false_imp_iff, Nat.zero_ne_one, Nat.one_ne_zero, Bool.false_eq_true, reduceCtorEq, ne_eq, Nat.add_zero, Nat.reduceBEq, Bool.or_false, Bool.or_true, Bool.false_or, Bool.true_or, or_self, entL, List.flatMap_cons, List.flatMap_nil, List.reduceReplicate, ↓reduceIte, cat_j, lg_0, lg_1, lg_2, lg_3, lg_4, lg_5, lg_6, lg_7, lg_8, lg_9, lg_10, ls_0, ls_1, ls_2, ls_3, ls_4, ls_5, ls_6, ls_7, ls_8, ls_9, ls_10, st_0, st_1, st_2, st_3, st_4, st_5, st_6, nI_2, nI_3, k1, k2, v1, c1, v2, c2]
  refine call0 (hT.mono fun r w2 hr => ?_)
  obtain ⟨rfl, hI2⟩ := hr
  refine go_ok hJ (fun p => p == 729) 60 ?_
  simp -implicitDefEqProofs only [e_L_491, s_icmp_eq, e_L_494, s_iconst, e_L_495, s_ireturn, i1_0, up_n, ret_b, bI_0, pk_us, pk_un, up_e, up_up, Decidable.not_not, nI_1, Int32.add_zero, Int32.zero_add, vz_0, tn_0, vz_1, tn_1, vz_2, tn_2, vz_3, tn_3, vz_4, tn_4, vz_5, tn_5, vz_6, tn_6, vz_7, tn_7, vz_8, tn_8, vz_9, tn_9, vz_10, tn_10, vz_11, tn_11, vz_12, tn_12, vz_13, tn_13, vz_14, tn_14, vz_15, tn_15, vz_160, tn_160, vz_161, tn_161, vz_162, tn_162, vz_163, tn_163, vz_164, tn_164, vs_0, vs_1, vs_2, vs_3, vs_4, vs_5, run_s, run_e, run_0, true_and, and_true, and_self, or_true, true_or, or_false, false_or, List.length_cons, List.length_nil, Option.toList_some, Option.toList_none, List.cons_append, List.nil_append, isI_t, isJ_t, isA_t, vI_t, nI32_t, isF_t, gF_t, sF_t, isO_t, isP_t, isP0_t, gE_t, sE_t, isR_t, gO_t, sO_t, isS_t, vS_t, isSc_t, nSc_t, pok_i, pok_o, pok_a, pok_0, pok_1, ret_i, ret_0, ret_1, ret_v, clr_i, clr_j, clr_r, clr_n, cat_i, cat_r, kk0, kk1, kk2, eq_self, Nat.reduceEqDiff, Nat.reduceLeDiff, Nat.reduceAdd, Nat.reduceLT, Nat.reduceSub, Nat.reduceMul, forall_const, imp_false, not_true_eq_false, not_false_eq_true, false_imp_iff, Nat.zero_ne_one, Nat.one_ne_zero, Bool.false_eq_true, reduceCtorEq, ne_eq, Nat.add_zero, Nat.reduceBEq, Bool.or_false, Bool.or_true, Bool.false_or, Bool.true_or, or_self, entL, List.flatMap_cons, List.flatMap_nil, List.reduceReplicate, ↓reduceIte, cat_j, lg_0, lg_1, lg_2, lg_3, lg_4, lg_5, lg_6, lg_7, lg_8, lg_9, lg_10, ls_0, ls_1, ls_2, ls_3, ls_4, ls_5, ls_6, ls_7, ls_8, ls_9, ls_10, st_0, st_1, st_2, st_3, st_4, st_5, st_6, nI_2, nI_3]
  exact he w2 hI2
theorem L_load (hJ : LJ G J Rt) (hI : IV b L xs w) (hi : i + 4 ≤ L) (hL : L ≤ 2048) (hb : b ≤ 900000) (he : ∀ w2, IV (b + 400) L xs w2 → J 729 [.ref 1000, .ref 0, .ref 137, .int (nI i)] [] 145 w2) : J 496 [.ref 1000, .ref 0, .ref 137, .int (nI i)] [] 145 w := by
  obtain ⟨⟨x0, f0, m0⟩, a0⟩ := hI.kp
  have v1 : vp_in (nI (i + 1)) L = True := eq_true (vpl (by omega) (by omega))
  have c1 : (nI (i + 1)).toNatClampNeg = i + 1 := nI_clamp (by omega)
  have v2 : vp_in (nI (i + 2)) L = True := eq_true (vpl (by omega) (by omega))
  have c2 : (nI (i + 2)).toNatClampNeg = i + 2 := nI_clamp (by omega)
  have v3 : vp_in (nI (i + 3)) L = True := eq_true (vpl (by omega) (by omega))
  have c3 : (nI (i + 3)).toNatClampNeg = i + 3 := nI_clamp (by omega)
  refine go_ok hJ (fun _ => false) 60 ?_
  simp -implicitDefEqProofs only [e_L_496, s_aload_n, e_L_497, e_L_498, s_iload_n, e_L_499, s_iconst, e_L_500, s_iadd, e_L_501, s_iaload, e_L_502, e_L_503, e_L_504, e_L_505, e_L_506, e_L_507, s_invokevirtual, rM_8_64, iv4_3, hc_79, i1_0, up_n, ret_b, bI_0, pk_us, pk_un, up_e, up_up, Decidable.not_not, nI_1, Int32.add_zero, Int32.zero_add, vz_0, tn_0, vz_1, tn_1, vz_2, tn_2, vz_3, tn_3, vz_4, tn_4, vz_5, tn_5, vz_6, tn_6, vz_7, tn_7, vz_8, tn_8, vz_9, tn_9, vz_10, tn_10, vz_11, tn_11, vz_12, tn_12, vz_13, tn_13, vz_14, tn_14, vz_15, tn_15, vz_160, tn_160, vz_161, tn_161, vz_162, tn_162, vz_163, tn_163, vz_164, tn_164, vs_0, vs_1, vs_2, vs_3, vs_4, vs_5, run_s, run_e, run_0, true_and, and_true, and_self, or_true, true_or, or_false, false_or, List.length_cons, List.length_nil, Option.toList_some, Option.toList_none, List.cons_append, List.nil_append, isI_t, isJ_t, isA_t, vI_t, nI32_t, isF_t, gF_t, sF_t, isO_t, isP_t, isP0_t, gE_t, sE_t, isR_t, gO_t, sO_t, isS_t, vS_t, isSc_t, nSc_t, pok_i, pok_o, pok_a, pok_0, pok_1, ret_i, ret_0, ret_1, ret_v, clr_i, clr_j, clr_r, clr_n, cat_i, cat_r, kk0, kk1, kk2, eq_self, Nat.reduceEqDiff, Nat.reduceLeDiff, Nat.reduceAdd, Nat.reduceLT, Nat.reduceSub, Nat.reduceMul, forall_const, imp_false, not_true_eq_false, not_false_eq_true, false_imp_iff, Nat.zero_ne_one, Nat.one_ne_zero, Bool.false_eq_true, reduceCtorEq, ne_eq, Nat.add_zero, Nat.reduceBEq, Bool.or_false, Bool.or_true, Bool.false_or, Bool.true_or, or_self, entL, List.flatMap_cons, List.flatMap_nil, List.reduceReplicate, ↓reduceIte, cat_j, lg_0, lg_1, lg_2, lg_3, lg_4, lg_5, lg_6, lg_7, lg_8, lg_9, lg_10, ls_0, ls_1, ls_2, ls_3, ls_4, ls_5, ls_6, ls_7, ls_8, ls_9, ls_10, st_0, st_1, st_2, st_3, st_4, st_5, st_6, nI_2, nI_3, x0, a0, v1, c1, v2, c2]
  refine call0 ((P_load hI _ _).mono fun r w1 hr => ?_)
  obtain ⟨v, rfl, ⟨k1, fs, k2⟩, hT⟩ := hr
  refine go_ok hJ (fun _ => false) 60 ?_
  simp -implicitDefEqProofs only [e_L_510, s_aload_n, e_L_511, e_L_512, s_iload_n, e_L_513, s_iconst, e_L_514, s_iadd, e_L_515, s_iaload, e_L_516, e_L_517, e_L_518, e_L_519, e_L_520, e_L_521, s_invokevirtual, rM_8_67, iv4_3, hc_144, i1_0, up_n, ret_b, bI_0, pk_us, pk_un, up_e, up_up, Decidable.not_not, nI_1, Int32.add_zero, Int32.zero_add, vz_0, tn_0, vz_1, tn_1, vz_2, tn_2, vz_3, tn_3, vz_4, tn_4, vz_5, tn_5, vz_6, tn_6, vz_7, tn_7, vz_8, tn_8, vz_9, tn_9, vz_10, tn_10, vz_11, tn_11, vz_12, tn_12, vz_13, tn_13, vz_14, tn_14, vz_15, tn_15, vz_160, tn_160, vz_161, tn_161, vz_162, tn_162, vz_163, tn_163, vz_164, tn_164, vs_0, vs_1, vs_2, vs_3, vs_4, vs_5, run_s, run_e, run_0, true_and, and_true, and_self, or_true, true_or, or_false, false_or, List.length_cons, List.length_nil, Option.toList_some, Option.toList_none, List.cons_append, List.nil_append, isI_t, isJ_t, isA_t, vI_t, nI32_t, isF_t, gF_t, sF_t, isO_t, isP_t, isP0_t, gE_t, sE_t, isR_t, gO_t, sO_t, isS_t, vS_t, isSc_t, nSc_t, pok_i, pok_o, pok_a, pok_0, pok_1, ret_i, ret_0, ret_1, ret_v, clr_i, clr_j, clr_r, clr_n, cat_i, cat_r, kk0, kk1, kk2, eq_self, Nat.reduceEqDiff, Nat.reduceLeDiff, Nat.reduceAdd, Nat.reduceLT, Nat.reduceSub, Nat.reduceMul, forall_const, imp_false, not_true_eq_false, not_false_eq_true, false_imp_iff, Nat.zero_ne_one, Nat.one_ne_zero, Bool.false_eq_true, reduceCtorEq, ne_eq, Nat.add_zero, Nat.reduceBEq, Bool.or_false, Bool.or_true, Bool.false_or, Bool.true_or, or_self, entL, List.flatMap_cons, List.flatMap_nil, List.reduceReplicate, ↓reduceIte, cat_j, lg_0, lg_1, lg_2, lg_3, lg_4, lg_5, lg_6, lg_7, lg_8, lg_9, lg_10, ls_0, ls_1, ls_2, ls_3, ls_4, ls_5, ls_6, ls_7, ls_8, ls_9, ls_10, st_0, st_1, st_2, st_3, st_4, st_5, st_6, nI_2, nI_3, k1, k2, v1, c1, v2, c2]
  refine call0 (hT.mono fun r w2 hr => ?_)
  obtain ⟨rfl, hI2⟩ := hr
  refine go_ok hJ (fun p => p == 729) 60 ?_
  simp -implicitDefEqProofs only [e_L_524, s_icmp_eq, e_L_527, s_iconst, e_L_528, s_ireturn, i1_0, up_n, ret_b, bI_0, pk_us, pk_un, up_e, up_up, Decidable.not_not, nI_1, Int32.add_zero, Int32.zero_add, vz_0, tn_0, vz_1, tn_1, vz_2, tn_2, vz_3, tn_3, vz_4, tn_4, vz_5, tn_5, vz_6, tn_6, vz_7, tn_7, vz_8, tn_8, vz_9, tn_9, vz_10, tn_10, vz_11, tn_11, vz_12, tn_12, vz_13, tn_13, vz_14, tn_14, vz_15, tn_15, vz_160, tn_160, vz_161, tn_161, vz_162, tn_162, vz_163, tn_163, vz_164, tn_164, vs_0, vs_1, vs_2, vs_3, vs_4, vs_5, run_s, run_e, run_0, true_and, and_true, and_self, or_true, true_or, or_false, false_or, List.length_cons, List.length_nil, Option.toList_some, Option.toList_none, List.cons_append, List.nil_append, isI_t, isJ_t, isA_t, vI_t, nI32_t, isF_t, gF_t, sF_t, isO_t, isP_t, isP0_t, gE_t, sE_t, isR_t, gO_t, sO_t, isS_t, vS_t, isSc_t, nSc_t, pok_i, pok_o, pok_a, pok_0, pok_1, ret_i, ret_0, ret_1, ret_v, clr_i, clr_j, clr_r, clr_n, cat_i, cat_r, kk0, kk1, kk2, eq_self, Nat.reduceEqDiff, Nat.reduceLeDiff, Nat.reduceAdd, Nat.reduceLT, Nat.reduceSub, Nat.reduceMul, forall_const, imp_false, not_true_eq_false, not_false_eq_true, false_imp_iff, Nat.zero_ne_one, Nat.one_ne_zero, Bool.false_eq_true, reduceCtorEq, ne_eq, Nat.add_zero, Nat.reduceBEq, Bool.or_false, Bool.or_true, Bool.false_or, Bool.true_or, or_self, entL, List.flatMap_cons, List.flatMap_nil, List.reduceReplicate, ↓reduceIte, cat_j, lg_0, lg_1, lg_2, lg_3, lg_4, lg_5, lg_6, lg_7, lg_8, lg_9, lg_10, ls_0, ls_1, ls_2, ls_3, ls_4, ls_5, ls_6, ls_7, ls_8, ls_9, ls_10, st_0, st_1, st_2, st_3, st_4, st_5, st_6, nI_2, nI_3]
  exact he w2 hI2
theorem L_untilFull (hJ : LJ G J Rt) (hI : IV b L xs w) (hi : i + 4 ≤ L) (hL : L ≤ 2048) (hb : b ≤ 900000) (he : ∀ w2, IV (b + 400) L xs w2 → J 729 [.ref 1000, .ref 0, .ref 137, .int (nI i)] [] 145 w2) : J 529 [.ref 1000, .ref 0, .ref 137, .int (nI i)] [] 145 w := by
  obtain ⟨⟨x0, f0, m0⟩, a0⟩ := hI.kp
  have v1 : vp_in (nI (i + 1)) L = True := eq_true (vpl (by omega) (by omega))
  have c1 : (nI (i + 1)).toNatClampNeg = i + 1 := nI_clamp (by omega)
  have v2 : vp_in (nI (i + 2)) L = True := eq_true (vpl (by omega) (by omega))
  have c2 : (nI (i + 2)).toNatClampNeg = i + 2 := nI_clamp (by omega)
  have v3 : vp_in (nI (i + 3)) L = True := eq_true (vpl (by omega) (by omega))
  have c3 : (nI (i + 3)).toNatClampNeg = i + 3 := nI_clamp (by omega)
  refine go_ok hJ (fun _ => false) 60 ?_
  simp -implicitDefEqProofs only [e_L_529, s_aload_n, e_L_530, s_invokevirtual, rM_8_68, iv4_1, hc_80, i1_0, up_n, ret_b, bI_0, pk_us, pk_un, up_e, up_up, Decidable.not_not, nI_1, Int32.add_zero, Int32.zero_add, vz_0, tn_0, vz_1, tn_1, vz_2, tn_2, vz_3, tn_3, vz_4, tn_4, vz_5, tn_5, vz_6, tn_6, vz_7, tn_7, vz_8, tn_8, vz_9, tn_9, vz_10, tn_10, vz_11, tn_11, vz_12, tn_12, vz_13, tn_13, vz_14, tn_14, vz_15, tn_15, vz_160, tn_160, vz_161, tn_161, vz_162, tn_162, vz_163, tn_163, vz_164, tn_164, vs_0, vs_1, vs_2, vs_3, vs_4, vs_5, run_s, run_e, run_0, true_and, and_true, and_self, or_true, true_or, or_false, false_or, List.length_cons, List.length_nil, Option.toList_some, Option.toList_none, List.cons_append, List.nil_append, isI_t, isJ_t, isA_t, vI_t, nI32_t, isF_t, gF_t, sF_t, isO_t, isP_t, isP0_t, gE_t, sE_t, isR_t, gO_t, sO_t, isS_t, vS_t, isSc_t, nSc_t, pok_i, pok_o, pok_a, pok_0, pok_1, ret_i, ret_0, ret_1, ret_v, clr_i, clr_j, clr_r, clr_n, cat_i, cat_r, kk0, kk1, kk2, eq_self, Nat.reduceEqDiff, Nat.reduceLeDiff, Nat.reduceAdd, Nat.reduceLT, Nat.reduceSub, Nat.reduceMul, forall_const, imp_false, not_true_eq_false, not_false_eq_true, false_imp_iff, Nat.zero_ne_one, Nat.one_ne_zero, Bool.false_eq_true, reduceCtorEq, ne_eq, Nat.add_zero, Nat.reduceBEq, Bool.or_false, Bool.or_true, Bool.false_or, Bool.true_or, or_self, entL, List.flatMap_cons, List.flatMap_nil, List.reduceReplicate, ↓reduceIte, cat_j, lg_0, lg_1, lg_2, lg_3, lg_4, lg_5, lg_6, lg_7, lg_8, lg_9, lg_10, ls_0, ls_1, ls_2, ls_3, ls_4, ls_5, ls_6, ls_7, ls_8, ls_9, ls_10, st_0, st_1, st_2, st_3, st_4, st_5, st_6, nI_2, nI_3, x0, a0]
  refine call0 ((P_untilFull hI hb).mono fun r w1 hr => ?_)
  obtain ⟨v, rfl, ⟨k1, fs, k2⟩, hT⟩ := hr
  refine go_ok hJ (fun _ => false) 60 ?_
  simp -implicitDefEqProofs only [e_L_533, s_aload_n, e_L_534, s_invokevirtual, rM_8_72, iv4_1, hc_145, i1_0, up_n, ret_b, bI_0, pk_us, pk_un, up_e, up_up, Decidable.not_not, nI_1, Int32.add_zero, Int32.zero_add, vz_0, tn_0, vz_1, tn_1, vz_2, tn_2, vz_3, tn_3, vz_4, tn_4, vz_5, tn_5, vz_6, tn_6, vz_7, tn_7, vz_8, tn_8, vz_9, tn_9, vz_10, tn_10, vz_11, tn_11, vz_12, tn_12, vz_13, tn_13, vz_14, tn_14, vz_15, tn_15, vz_160, tn_160, vz_161, tn_161, vz_162, tn_162, vz_163, tn_163, vz_164, tn_164, vs_0, vs_1, vs_2, vs_3, vs_4, vs_5, run_s, run_e, run_0, true_and, and_true, and_self, or_true, true_or, or_false, false_or, List.length_cons, List.length_nil, Option.toList_some, Option.toList_none, List.cons_append, List.nil_append, isI_t, isJ_t, isA_t, vI_t, nI32_t, isF_t, gF_t, sF_t, isO_t, isP_t, isP0_t, gE_t, sE_t, isR_t, gO_t, sO_t, isS_t, vS_t, isSc_t, nSc_t, pok_i, pok_o, pok_a, pok_0, pok_1, ret_i, ret_0, ret_1, ret_v, clr_i, clr_j, clr_r, clr_n, cat_i, cat_r, kk0, kk1, kk2, eq_self, Nat.reduceEqDiff, Nat.reduceLeDiff, Nat.reduceAdd, Nat.reduceLT, Nat.reduceSub, Nat.reduceMul, forall_const, imp_false, not_true_eq_false, not_false_eq_true, false_imp_iff, Nat.zero_ne_one, Nat.one_ne_zero, Bool.false_eq_true, reduceCtorEq, ne_eq, Nat.add_zero, Nat.reduceBEq, Bool.or_false, Bool.or_true, Bool.false_or, Bool.true_or, or_self, entL, List.flatMap_cons, List.flatMap_nil, List.reduceReplicate, ↓reduceIte, cat_j, lg_0, lg_1, lg_2, lg_3, lg_4, lg_5, lg_6, lg_7, lg_8, lg_9, lg_10, ls_0, ls_1, ls_2, ls_3, ls_4, ls_5, ls_6, ls_7, ls_8, ls_9, ls_10, st_0, st_1, st_2, st_3, st_4, st_5, st_6, nI_2, nI_3, k1, k2]
  refine call0 (hT.mono fun r w2 hr => ?_)
  obtain ⟨rfl, hI2⟩ := hr
  refine go_ok hJ (fun p => p == 729) 60 ?_
  simp -implicitDefEqProofs only [e_L_537, s_icmp_eq, e_L_540, s_iconst, e_L_541, s_ireturn, i1_0, up_n, ret_b, bI_0, pk_us, pk_un, up_e, up_up, Decidable.not_not, nI_1, Int32.add_zero, Int32.zero_add, vz_0, tn_0, vz_1, tn_1, vz_2, tn_2, vz_3, tn_3, vz_4, tn_4, vz_5, tn_5, vz_6, tn_6, vz_7, tn_7, vz_8, tn_8, vz_9, tn_9, vz_10, tn_10, vz_11, tn_11, vz_12, tn_12, vz_13, tn_13, vz_14, tn_14, vz_15, tn_15, vz_160, tn_160, vz_161, tn_161, vz_162, tn_162, vz_163, tn_163, vz_164, tn_164, vs_0, vs_1, vs_2, vs_3, vs_4, vs_5, run_s, run_e, run_0, true_and, and_true, and_self, or_true, true_or, or_false, false_or, List.length_cons, List.length_nil, Option.toList_some, Option.toList_none, List.cons_append, List.nil_append, isI_t, isJ_t, isA_t, vI_t, nI32_t, isF_t, gF_t, sF_t, isO_t, isP_t, isP0_t, gE_t, sE_t, isR_t, gO_t, sO_t, isS_t, vS_t, isSc_t, nSc_t, pok_i, pok_o, pok_a, pok_0, pok_1, ret_i, ret_0, ret_1, ret_v, clr_i, clr_j, clr_r, clr_n, cat_i, cat_r, kk0, kk1, kk2, eq_self, Nat.reduceEqDiff, Nat.reduceLeDiff, Nat.reduceAdd, Nat.reduceLT, Nat.reduceSub, Nat.reduceMul, forall_const, imp_false, not_true_eq_false, not_false_eq_true, false_imp_iff, Nat.zero_ne_one, Nat.one_ne_zero, Bool.false_eq_true, reduceCtorEq, ne_eq, Nat.add_zero, Nat.reduceBEq, Bool.or_false, Bool.or_true, Bool.false_or, Bool.true_or, or_self, entL, List.flatMap_cons, List.flatMap_nil, List.reduceReplicate, ↓reduceIte, cat_j, lg_0, lg_1, lg_2, lg_3, lg_4, lg_5, lg_6, lg_7, lg_8, lg_9, lg_10, ls_0, ls_1, ls_2, ls_3, ls_4, ls_5, ls_6, ls_7, ls_8, ls_9, ls_10, st_0, st_1, st_2, st_3, st_4, st_5, st_6, nI_2, nI_3]
  exact he w2 hI2
theorem L_bestColumn (hJ : LJ G J Rt) (hI : IV b L xs w) (hi : i + 4 ≤ L) (hL : L ≤ 2048) (hb : b ≤ 900000) (he : ∀ w2, IV (b + 400) L xs w2 → J 729 [.ref 1000, .ref 0, .ref 137, .int (nI i)] [] 145 w2) : J 542 [.ref 1000, .ref 0, .ref 137, .int (nI i)] [] 145 w := by
  obtain ⟨⟨x0, f0, m0⟩, a0⟩ := hI.kp
  have v1 : vp_in (nI (i + 1)) L = True := eq_true (vpl (by omega) (by omega))
  have c1 : (nI (i + 1)).toNatClampNeg = i + 1 := nI_clamp (by omega)
  have v2 : vp_in (nI (i + 2)) L = True := eq_true (vpl (by omega) (by omega))
  have c2 : (nI (i + 2)).toNatClampNeg = i + 2 := nI_clamp (by omega)
  have v3 : vp_in (nI (i + 3)) L = True := eq_true (vpl (by omega) (by omega))
  have c3 : (nI (i + 3)).toNatClampNeg = i + 3 := nI_clamp (by omega)
  refine go_ok hJ (fun _ => false) 60 ?_
  simp -implicitDefEqProofs only [e_L_542, s_aload_n, e_L_543, s_invokevirtual, rM_8_73, iv4_1, hc_81, i1_0, up_n, ret_b, bI_0, pk_us, pk_un, up_e, up_up, Decidable.not_not, nI_1, Int32.add_zero, Int32.zero_add, vz_0, tn_0, vz_1, tn_1, vz_2, tn_2, vz_3, tn_3, vz_4, tn_4, vz_5, tn_5, vz_6, tn_6, vz_7, tn_7, vz_8, tn_8, vz_9, tn_9, vz_10, tn_10, vz_11, tn_11, vz_12, tn_12, vz_13, tn_13, vz_14, tn_14, vz_15, tn_15, vz_160, tn_160, vz_161, tn_161, vz_162, tn_162, vz_163, tn_163, vz_164, tn_164, vs_0, vs_1, vs_2, vs_3, vs_4, vs_5, run_s, run_e, run_0, true_and, and_true, and_self, or_true, true_or, or_false, false_or, List.length_cons, List.length_nil, Option.toList_some, Option.toList_none, List.cons_append, List.nil_append, isI_t, isJ_t, isA_t, vI_t, nI32_t, isF_t, gF_t, sF_t, isO_t, isP_t, isP0_t, gE_t, sE_t, isR_t, gO_t, sO_t, isS_t, vS_t, isSc_t, nSc_t, pok_i, pok_o, pok_a, pok_0, pok_1, ret_i, ret_0, ret_1, ret_v, clr_i, clr_j, clr_r, clr_n, cat_i, cat_r, kk0, kk1, kk2, eq_self, Nat.reduceEqDiff, Nat.reduceLeDiff, Nat.reduceAdd, Nat.reduceLT, Nat.reduceSub, Nat.reduceMul, forall_const, imp_false, not_true_eq_false, not_false_eq_true, false_imp_iff, Nat.zero_ne_one, Nat.one_ne_zero, Bool.false_eq_true, reduceCtorEq, ne_eq, Nat.add_zero, Nat.reduceBEq, Bool.or_false, Bool.or_true, Bool.false_or, Bool.true_or, or_self, entL, List.flatMap_cons, List.flatMap_nil, List.reduceReplicate, ↓reduceIte, cat_j, lg_0, lg_1, lg_2, lg_3, lg_4, lg_5, lg_6, lg_7, lg_8, lg_9, lg_10, ls_0, ls_1, ls_2, ls_3, ls_4, ls_5, ls_6, ls_7, ls_8, ls_9, ls_10, st_0, st_1, st_2, st_3, st_4, st_5, st_6, nI_2, nI_3, x0, a0]
  refine call0 ((P_bestColumn hI).mono fun r w1 hr => ?_)
  obtain ⟨v, rfl, ⟨k1, fs, k2⟩, hT⟩ := hr
  refine go_ok hJ (fun _ => false) 60 ?_
  simp -implicitDefEqProofs only [e_L_546, s_aload_n, e_L_547, s_invokevirtual, rM_8_76, iv4_1, hc_146, i1_0, up_n, ret_b, bI_0, pk_us, pk_un, up_e, up_up, Decidable.not_not, nI_1, Int32.add_zero, Int32.zero_add, vz_0, tn_0, vz_1, tn_1, vz_2, tn_2, vz_3, tn_3, vz_4, tn_4, vz_5, tn_5, vz_6, tn_6, vz_7, tn_7, vz_8, tn_8, vz_9, tn_9, vz_10, tn_10, vz_11, tn_11, vz_12, tn_12, vz_13, tn_13, vz_14, tn_14, vz_15, tn_15, vz_160, tn_160, vz_161, tn_161, vz_162, tn_162, vz_163, tn_163, vz_164, tn_164, vs_0, vs_1, vs_2, vs_3, vs_4, vs_5, run_s, run_e, run_0, true_and, and_true, and_self, or_true, true_or, or_false, false_or, List.length_cons, List.length_nil, Option.toList_some, Option.toList_none, List.cons_append, List.nil_append, isI_t, isJ_t, isA_t, vI_t, nI32_t, isF_t, gF_t, sF_t, isO_t, isP_t, isP0_t, gE_t, sE_t, isR_t, gO_t, sO_t, isS_t, vS_t, isSc_t, nSc_t, pok_i, pok_o, pok_a, pok_0, pok_1, ret_i, ret_0, ret_1, ret_v, clr_i, clr_j, clr_r, clr_n, cat_i, cat_r, kk0, kk1, kk2, eq_self, Nat.reduceEqDiff, Nat.reduceLeDiff, Nat.reduceAdd, Nat.reduceLT, Nat.reduceSub, Nat.reduceMul, forall_const, imp_false, not_true_eq_false, not_false_eq_true, false_imp_iff, Nat.zero_ne_one, Nat.one_ne_zero, Bool.false_eq_true, reduceCtorEq, ne_eq, Nat.add_zero, Nat.reduceBEq, Bool.or_false, Bool.or_true, Bool.false_or, Bool.true_or, or_self, entL, List.flatMap_cons, List.flatMap_nil, List.reduceReplicate, ↓reduceIte, cat_j, lg_0, lg_1, lg_2, lg_3, lg_4, lg_5, lg_6, lg_7, lg_8, lg_9, lg_10, ls_0, ls_1, ls_2, ls_3, ls_4, ls_5, ls_6, ls_7, ls_8, ls_9, ls_10, st_0, st_1, st_2, st_3, st_4, st_5, st_6, nI_2, nI_3, k1, k2]
  refine call0 (hT.mono fun r w2 hr => ?_)
  obtain ⟨rfl, hI2⟩ := hr
  refine go_ok hJ (fun p => p == 729) 60 ?_
  simp -implicitDefEqProofs only [e_L_550, s_icmp_eq, e_L_553, s_iconst, e_L_554, s_ireturn, i1_0, up_n, ret_b, bI_0, pk_us, pk_un, up_e, up_up, Decidable.not_not, nI_1, Int32.add_zero, Int32.zero_add, vz_0, tn_0, vz_1, tn_1, vz_2, tn_2, vz_3, tn_3, vz_4, tn_4, vz_5, tn_5, vz_6, tn_6, vz_7, tn_7, vz_8, tn_8, vz_9, tn_9, vz_10, tn_10, vz_11, tn_11, vz_12, tn_12, vz_13, tn_13, vz_14, tn_14, vz_15, tn_15, vz_160, tn_160, vz_161, tn_161, vz_162, tn_162, vz_163, tn_163, vz_164, tn_164, vs_0, vs_1, vs_2, vs_3, vs_4, vs_5, run_s, run_e, run_0, true_and, and_true, and_self, or_true, true_or, or_false, false_or, List.length_cons, List.length_nil, Option.toList_some, Option.toList_none, List.cons_append, List.nil_append, isI_t, isJ_t, isA_t, vI_t, nI32_t, isF_t, gF_t, sF_t, isO_t, isP_t, isP0_t, gE_t, sE_t, isR_t, gO_t, sO_t, isS_t, vS_t, isSc_t, nSc_t, pok_i, pok_o, pok_a, pok_0, pok_1, ret_i, ret_0, ret_1, ret_v, clr_i, clr_j, clr_r, clr_n, cat_i, cat_r, kk0, kk1, kk2, eq_self, Nat.reduceEqDiff, Nat.reduceLeDiff, Nat.reduceAdd, Nat.reduceLT, Nat.reduceSub, Nat.reduceMul, forall_const, imp_false, not_true_eq_false, not_false_eq_true, false_imp_iff, Nat.zero_ne_one, Nat.one_ne_zero, Bool.false_eq_true, reduceCtorEq, ne_eq, Nat.add_zero, Nat.reduceBEq, Bool.or_false, Bool.or_true, Bool.false_or, Bool.true_or, or_self, entL, List.flatMap_cons, List.flatMap_nil, List.reduceReplicate, ↓reduceIte, cat_j, lg_0, lg_1, lg_2, lg_3, lg_4, lg_5, lg_6, lg_7, lg_8, lg_9, lg_10, ls_0, ls_1, ls_2, ls_3, ls_4, ls_5, ls_6, ls_7, ls_8, ls_9, ls_10, st_0, st_1, st_2, st_3, st_4, st_5, st_6, nI_2, nI_3]
  exact he w2 hI2
theorem L_costs (hJ : LJ G J Rt) (hI : IV b L xs w) (hi : i + 4 ≤ L) (hL : L ≤ 2048) (hb : b ≤ 900000) (he : ∀ w2, IV (b + 400) L xs w2 → J 729 [.ref 1000, .ref 0, .ref 137, .int (nI i)] [] 145 w2) : J 555 [.ref 1000, .ref 0, .ref 137, .int (nI i)] [] 145 w := by
  obtain ⟨⟨x0, f0, m0⟩, a0⟩ := hI.kp
  have v1 : vp_in (nI (i + 1)) L = True := eq_true (vpl (by omega) (by omega))
  have c1 : (nI (i + 1)).toNatClampNeg = i + 1 := nI_clamp (by omega)
  have v2 : vp_in (nI (i + 2)) L = True := eq_true (vpl (by omega) (by omega))
  have c2 : (nI (i + 2)).toNatClampNeg = i + 2 := nI_clamp (by omega)
  have v3 : vp_in (nI (i + 3)) L = True := eq_true (vpl (by omega) (by omega))
  have c3 : (nI (i + 3)).toNatClampNeg = i + 3 := nI_clamp (by omega)
  refine go_ok hJ (fun _ => false) 60 ?_
  simp -implicitDefEqProofs only [e_L_555, s_aload_n, e_L_556, e_L_557, s_iload_n, e_L_558, s_iconst, e_L_559, s_iadd, e_L_560, s_iaload, e_L_561, s_invokevirtual, rM_8_77, iv4_2, hc_82, i1_0, up_n, ret_b, bI_0, pk_us, pk_un, up_e, up_up, Decidable.not_not, nI_1, Int32.add_zero, Int32.zero_add, vz_0, tn_0, vz_1, tn_1, vz_2, tn_2, vz_3, tn_3, vz_4, tn_4, vz_5, tn_5, vz_6, tn_6, vz_7, tn_7, vz_8, tn_8, vz_9, tn_9, vz_10, tn_10, vz_11, tn_11, vz_12, tn_12, vz_13, tn_13, vz_14, tn_14, vz_15, tn_15, vz_160, tn_160, vz_161, tn_161, vz_162, tn_162, vz_163, tn_163, vz_164, tn_164, vs_0, vs_1, vs_2, vs_3, vs_4, vs_5, run_s, run_e, run_0, true_and, and_true, and_self, or_true, true_or, or_false, false_or, List.length_cons, List.length_nil, Option.toList_some, Option.toList_none, List.cons_append, List.nil_append, isI_t, isJ_t, isA_t, vI_t, nI32_t, isF_t, gF_t, sF_t, isO_t, isP_t, isP0_t, gE_t, sE_t, isR_t, gO_t, sO_t, isS_t, vS_t, isSc_t, nSc_t, pok_i, pok_o, pok_a, pok_0, pok_1, ret_i, ret_0, ret_1, ret_v, clr_i, clr_j, clr_r, clr_n, cat_i, cat_r, kk0, kk1, kk2, eq_self, Nat.reduceEqDiff, Nat.reduceLeDiff, Nat.reduceAdd, Nat.reduceLT, Nat.reduceSub, Nat.reduceMul, forall_const, imp_false, not_true_eq_false, not_false_eq_true, false_imp_iff, Nat.zero_ne_one, Nat.one_ne_zero, Bool.false_eq_true, reduceCtorEq, ne_eq, Nat.add_zero, Nat.reduceBEq, Bool.or_false, Bool.or_true, Bool.false_or, Bool.true_or, or_self, entL, List.flatMap_cons, List.flatMap_nil, List.reduceReplicate, ↓reduceIte, cat_j, lg_0, lg_1, lg_2, lg_3, lg_4, lg_5, lg_6, lg_7, lg_8, lg_9, lg_10, ls_0, ls_1, ls_2, ls_3, ls_4, ls_5, ls_6, ls_7, ls_8, ls_9, ls_10, st_0, st_1, st_2, st_3, st_4, st_5, st_6, nI_2, nI_3, x0, a0, v1, c1]
  refine call0 ((P_costs hI hb _).mono fun r w1 hr => ?_)
  obtain ⟨v, rfl, ⟨k1, fs, k2⟩, hT⟩ := hr
  refine go_ok hJ (fun _ => false) 60 ?_
  simp -implicitDefEqProofs only [e_L_564, s_aload_n, e_L_565, e_L_566, s_iload_n, e_L_567, s_iconst, e_L_568, s_iadd, e_L_569, s_iaload, e_L_570, s_invokevirtual, rM_8_80, iv4_2, hc_148, i1_0, up_n, ret_b, bI_0, pk_us, pk_un, up_e, up_up, Decidable.not_not, nI_1, Int32.add_zero, Int32.zero_add, vz_0, tn_0, vz_1, tn_1, vz_2, tn_2, vz_3, tn_3, vz_4, tn_4, vz_5, tn_5, vz_6, tn_6, vz_7, tn_7, vz_8, tn_8, vz_9, tn_9, vz_10, tn_10, vz_11, tn_11, vz_12, tn_12, vz_13, tn_13, vz_14, tn_14, vz_15, tn_15, vz_160, tn_160, vz_161, tn_161, vz_162, tn_162, vz_163, tn_163, vz_164, tn_164, vs_0, vs_1, vs_2, vs_3, vs_4, vs_5, run_s, run_e, run_0, true_and, and_true, and_self, or_true, true_or, or_false, false_or, List.length_cons, List.length_nil, Option.toList_some, Option.toList_none, List.cons_append, List.nil_append, isI_t, isJ_t, isA_t, vI_t, nI32_t, isF_t, gF_t, sF_t, isO_t, isP_t, isP0_t, gE_t, sE_t, isR_t, gO_t, sO_t, isS_t, vS_t, isSc_t, nSc_t, pok_i, pok_o, pok_a, pok_0, pok_1, ret_i, ret_0, ret_1, ret_v, clr_i, clr_j, clr_r, clr_n, cat_i, cat_r, kk0, kk1, kk2, eq_self, Nat.reduceEqDiff, Nat.reduceLeDiff, Nat.reduceAdd, Nat.reduceLT, Nat.reduceSub, Nat.reduceMul, forall_const, imp_false, not_true_eq_false, not_false_eq_true, false_imp_iff, Nat.zero_ne_one, Nat.one_ne_zero, Bool.false_eq_true, reduceCtorEq, ne_eq, Nat.add_zero, Nat.reduceBEq, Bool.or_false, Bool.or_true, Bool.false_or, Bool.true_or, or_self, entL, List.flatMap_cons, List.flatMap_nil, List.reduceReplicate, ↓reduceIte, cat_j, lg_0, lg_1, lg_2, lg_3, lg_4, lg_5, lg_6, lg_7, lg_8, lg_9, lg_10, ls_0, ls_1, ls_2, ls_3, ls_4, ls_5, ls_6, ls_7, ls_8, ls_9, ls_10, st_0, st_1, st_2, st_3, st_4, st_5, st_6, nI_2, nI_3, k1, k2, v1, c1]
  refine call0 (hT.mono fun r w2 hr => ?_)
  obtain ⟨rfl, hI2⟩ := hr
  refine go_ok hJ (fun p => p == 729) 60 ?_
  simp -implicitDefEqProofs only [e_L_573, s_icmp_eq, e_L_576, s_iconst, e_L_577, s_ireturn, i1_0, up_n, ret_b, bI_0, pk_us, pk_un, up_e, up_up, Decidable.not_not, nI_1, Int32.add_zero, Int32.zero_add, vz_0, tn_0, vz_1, tn_1, vz_2, tn_2, vz_3, tn_3, vz_4, tn_4, vz_5, tn_5, vz_6, tn_6, vz_7, tn_7, vz_8, tn_8, vz_9, tn_9, vz_10, tn_10, vz_11, tn_11, vz_12, tn_12, vz_13, tn_13, vz_14, tn_14, vz_15, tn_15, vz_160, tn_160, vz_161, tn_161, vz_162, tn_162, vz_163, tn_163, vz_164, tn_164, vs_0, vs_1, vs_2, vs_3, vs_4, vs_5, run_s, run_e, run_0, true_and, and_true, and_self, or_true, true_or, or_false, false_or, List.length_cons, List.length_nil, Option.toList_some, Option.toList_none, List.cons_append, List.nil_append, isI_t, isJ_t, isA_t, vI_t, nI32_t, isF_t, gF_t, sF_t, isO_t, isP_t, isP0_t, gE_t, sE_t, isR_t, gO_t, sO_t, isS_t, vS_t, isSc_t, nSc_t, pok_i, pok_o, pok_a, pok_0, pok_1, ret_i, ret_0, ret_1, ret_v, clr_i, clr_j, clr_r, clr_n, cat_i, cat_r, kk0, kk1, kk2, eq_self, Nat.reduceEqDiff, Nat.reduceLeDiff, Nat.reduceAdd, Nat.reduceLT, Nat.reduceSub, Nat.reduceMul, forall_const, imp_false, not_true_eq_false, not_false_eq_true, false_imp_iff, Nat.zero_ne_one, Nat.one_ne_zero, Bool.false_eq_true, reduceCtorEq, ne_eq, Nat.add_zero, Nat.reduceBEq, Bool.or_false, Bool.or_true, Bool.false_or, Bool.true_or, or_self, entL, List.flatMap_cons, List.flatMap_nil, List.reduceReplicate, ↓reduceIte, cat_j, lg_0, lg_1, lg_2, lg_3, lg_4, lg_5, lg_6, lg_7, lg_8, lg_9, lg_10, ls_0, ls_1, ls_2, ls_3, ls_4, ls_5, ls_6, ls_7, ls_8, ls_9, ls_10, st_0, st_1, st_2, st_3, st_4, st_5, st_6, nI_2, nI_3]
  exact he w2 hI2
theorem L_put (hJ : LJ G J Rt) (hI : IV b L xs w) (hi : i + 4 ≤ L) (hL : L ≤ 2048) (hb : b ≤ 900000) (he : ∀ w2, IV (b + 400) L xs w2 → J 729 [.ref 1000, .ref 0, .ref 137, .int (nI i)] [] 145 w2) : J 578 [.ref 1000, .ref 0, .ref 137, .int (nI i)] [] 145 w := by
  obtain ⟨⟨x0, f0, m0⟩, a0⟩ := hI.kp
  have v1 : vp_in (nI (i + 1)) L = True := eq_true (vpl (by omega) (by omega))
  have c1 : (nI (i + 1)).toNatClampNeg = i + 1 := nI_clamp (by omega)
  have v2 : vp_in (nI (i + 2)) L = True := eq_true (vpl (by omega) (by omega))
  have c2 : (nI (i + 2)).toNatClampNeg = i + 2 := nI_clamp (by omega)
  have v3 : vp_in (nI (i + 3)) L = True := eq_true (vpl (by omega) (by omega))
  have c3 : (nI (i + 3)).toNatClampNeg = i + 3 := nI_clamp (by omega)
  refine go_ok hJ (fun _ => false) 60 ?_
  simp -implicitDefEqProofs only [e_L_578, s_aload_n, e_L_579, e_L_580, s_iload_n, e_L_581, s_iconst, e_L_582, s_iadd, e_L_583, s_iaload, e_L_584, s_i2l, e_L_585, s_bipush, e_L_587, s_lshl, e_L_588, e_L_589, e_L_590, e_L_591, e_L_592, e_L_593, e_L_594, (s_ldc2 rJ_8_81), e_L_597, s_land, e_L_598, s_lor, e_L_599, s_invokevirtual, rM_8_83, iv4_2, hc_83, i1_0, up_n, ret_b, bI_0, pk_us, pk_un, up_e, up_up, Decidable.not_not, nI_1, Int32.add_zero, Int32.zero_add, vz_0, tn_0, vz_1, tn_1, vz_2, tn_2, vz_3, tn_3, vz_4, tn_4, vz_5, tn_5, vz_6, tn_6, vz_7, tn_7, vz_8, tn_8, vz_9, tn_9, vz_10, tn_10, vz_11, tn_11, vz_12, tn_12, vz_13, tn_13, vz_14, tn_14, vz_15, tn_15, vz_160, tn_160, vz_161, tn_161, vz_162, tn_162, vz_163, tn_163, vz_164, tn_164, vs_0, vs_1, vs_2, vs_3, vs_4, vs_5, run_s, run_e, run_0, true_and, and_true, and_self, or_true, true_or, or_false, false_or, List.length_cons, List.length_nil, Option.toList_some, Option.toList_none, List.cons_append, List.nil_append, isI_t, isJ_t, isA_t, vI_t, nI32_t, isF_t, gF_t, sF_t, isO_t, isP_t, isP0_t, gE_t, sE_t, isR_t, gO_t, sO_t, isS_t, vS_t, isSc_t, nSc_t, pok_i, pok_o, pok_a, pok_0, pok_1, ret_i, ret_0, ret_1, ret_v, clr_i, clr_j, clr_r, clr_n, cat_i, cat_r, kk0, kk1, kk2, eq_self, Nat.reduceEqDiff, Nat.reduceLeDiff, Nat.reduceAdd, Nat.reduceLT, Nat.reduceSub, Nat.reduceMul, forall_const, imp_false, not_true_eq_false, not_false_eq_true, false_imp_iff, Nat.zero_ne_one, Nat.one_ne_zero, Bool.false_eq_true, reduceCtorEq, ne_eq, Nat.add_zero, Nat.reduceBEq, Bool.or_false, Bool.or_true, Bool.false_or, Bool.true_or, or_self, entL, List.flatMap_cons, List.flatMap_nil, List.reduceReplicate, ↓reduceIte, cat_j, lg_0, lg_1, lg_2, lg_3, lg_4, lg_5, lg_6, lg_7, lg_8, lg_9, lg_10, ls_0, ls_1, ls_2, ls_3, ls_4, ls_5, ls_6, ls_7, ls_8, ls_9, ls_10, st_0, st_1, st_2, st_3, st_4, st_5, st_6, nI_2, nI_3, x0, a0, v1, c1, v2, c2]
  refine call0 ((P_put hI _).mono fun r w1 hr => ?_)
  obtain ⟨v, rfl, ⟨k1, fs, k2⟩, hT⟩ := hr
  refine go_ok hJ (fun _ => false) 60 ?_
  simp -implicitDefEqProofs only [e_L_602, s_aload_n, e_L_603, e_L_604, s_iload_n, e_L_605, s_iconst, e_L_606, s_iadd, e_L_607, s_iaload, e_L_608, s_i2l, e_L_609, s_bipush, e_L_611, s_lshl, e_L_612, e_L_613, e_L_614, e_L_615, e_L_616, e_L_617, e_L_618, (s_ldc2 rJ_8_81), e_L_621, s_land, e_L_622, s_lor, e_L_623, s_invokevirtual, rM_8_87, iv4_2, hc_149, i1_0, up_n, ret_b, bI_0, pk_us, pk_un, up_e, up_up, Decidable.not_not, nI_1, Int32.add_zero, Int32.zero_add, vz_0, tn_0, vz_1, tn_1, vz_2, tn_2, vz_3, tn_3, vz_4, tn_4, vz_5, tn_5, vz_6, tn_6, vz_7, tn_7, vz_8, tn_8, vz_9, tn_9, vz_10, tn_10, vz_11, tn_11, vz_12, tn_12, vz_13, tn_13, vz_14, tn_14, vz_15, tn_15, vz_160, tn_160, vz_161, tn_161, vz_162, tn_162, vz_163, tn_163, vz_164, tn_164, vs_0, vs_1, vs_2, vs_3, vs_4, vs_5, run_s, run_e, run_0, true_and, and_true, and_self, or_true, true_or, or_false, false_or, List.length_cons, List.length_nil, Option.toList_some, Option.toList_none, List.cons_append, List.nil_append, isI_t, isJ_t, isA_t, vI_t, nI32_t, isF_t, gF_t, sF_t, isO_t, isP_t, isP0_t, gE_t, sE_t, isR_t, gO_t, sO_t, isS_t, vS_t, isSc_t, nSc_t, pok_i, pok_o, pok_a, pok_0, pok_1, ret_i, ret_0, ret_1, ret_v, clr_i, clr_j, clr_r, clr_n, cat_i, cat_r, kk0, kk1, kk2, eq_self, Nat.reduceEqDiff, Nat.reduceLeDiff, Nat.reduceAdd, Nat.reduceLT, Nat.reduceSub, Nat.reduceMul, forall_const, imp_false, not_true_eq_false, not_false_eq_true, false_imp_iff, Nat.zero_ne_one, Nat.one_ne_zero, Bool.false_eq_true, reduceCtorEq, ne_eq, Nat.add_zero, Nat.reduceBEq, Bool.or_false, Bool.or_true, Bool.false_or, Bool.true_or, or_self, entL, List.flatMap_cons, List.flatMap_nil, List.reduceReplicate, ↓reduceIte, cat_j, lg_0, lg_1, lg_2, lg_3, lg_4, lg_5, lg_6, lg_7, lg_8, lg_9, lg_10, ls_0, ls_1, ls_2, ls_3, ls_4, ls_5, ls_6, ls_7, ls_8, ls_9, ls_10, st_0, st_1, st_2, st_3, st_4, st_5, st_6, nI_2, nI_3, k1, k2, v1, c1, v2, c2]
  refine call0 (hT.mono fun r w2 hr => ?_)
  obtain ⟨rfl, hI2⟩ := hr
  refine go_ok hJ (fun p => p == 729) 60 ?_
  simp -implicitDefEqProofs only [e_L_626, s_icmp_eq, e_L_629, s_iconst, e_L_630, s_ireturn, i1_0, up_n, ret_b, bI_0, pk_us, pk_un, up_e, up_up, Decidable.not_not, nI_1, Int32.add_zero, Int32.zero_add, vz_0, tn_0, vz_1, tn_1, vz_2, tn_2, vz_3, tn_3, vz_4, tn_4, vz_5, tn_5, vz_6, tn_6, vz_7, tn_7, vz_8, tn_8, vz_9, tn_9, vz_10, tn_10, vz_11, tn_11, vz_12, tn_12, vz_13, tn_13, vz_14, tn_14, vz_15, tn_15, vz_160, tn_160, vz_161, tn_161, vz_162, tn_162, vz_163, tn_163, vz_164, tn_164, vs_0, vs_1, vs_2, vs_3, vs_4, vs_5, run_s, run_e, run_0, true_and, and_true, and_self, or_true, true_or, or_false, false_or, List.length_cons, List.length_nil, Option.toList_some, Option.toList_none, List.cons_append, List.nil_append, isI_t, isJ_t, isA_t, vI_t, nI32_t, isF_t, gF_t, sF_t, isO_t, isP_t, isP0_t, gE_t, sE_t, isR_t, gO_t, sO_t, isS_t, vS_t, isSc_t, nSc_t, pok_i, pok_o, pok_a, pok_0, pok_1, ret_i, ret_0, ret_1, ret_v, clr_i, clr_j, clr_r, clr_n, cat_i, cat_r, kk0, kk1, kk2, eq_self, Nat.reduceEqDiff, Nat.reduceLeDiff, Nat.reduceAdd, Nat.reduceLT, Nat.reduceSub, Nat.reduceMul, forall_const, imp_false, not_true_eq_false, not_false_eq_true, false_imp_iff, Nat.zero_ne_one, Nat.one_ne_zero, Bool.false_eq_true, reduceCtorEq, ne_eq, Nat.add_zero, Nat.reduceBEq, Bool.or_false, Bool.or_true, Bool.false_or, Bool.true_or, or_self, entL, List.flatMap_cons, List.flatMap_nil, List.reduceReplicate, ↓reduceIte, cat_j, lg_0, lg_1, lg_2, lg_3, lg_4, lg_5, lg_6, lg_7, lg_8, lg_9, lg_10, ls_0, ls_1, ls_2, ls_3, ls_4, ls_5, ls_6, ls_7, ls_8, ls_9, ls_10, st_0, st_1, st_2, st_3, st_4, st_5, st_6, nI_2, nI_3]
  exact he w2 hI2
theorem L_wipe (hJ : LJ G J Rt) (hI : IV b L xs w) (hi : i + 4 ≤ L) (hL : L ≤ 2048) (hb : b ≤ 900000) (he : ∀ w2, IV (b + 400) L xs w2 → J 729 [.ref 1000, .ref 0, .ref 137, .int (nI i)] [] 145 w2) : J 631 [.ref 1000, .ref 0, .ref 137, .int (nI i)] [] 145 w := by
  obtain ⟨⟨x0, f0, m0⟩, a0⟩ := hI.kp
  have v1 : vp_in (nI (i + 1)) L = True := eq_true (vpl (by omega) (by omega))
  have c1 : (nI (i + 1)).toNatClampNeg = i + 1 := nI_clamp (by omega)
  have v2 : vp_in (nI (i + 2)) L = True := eq_true (vpl (by omega) (by omega))
  have c2 : (nI (i + 2)).toNatClampNeg = i + 2 := nI_clamp (by omega)
  have v3 : vp_in (nI (i + 3)) L = True := eq_true (vpl (by omega) (by omega))
  have c3 : (nI (i + 3)).toNatClampNeg = i + 3 := nI_clamp (by omega)
  refine go_ok hJ (fun _ => false) 60 ?_
  simp -implicitDefEqProofs only [e_L_631, s_aload_n, e_L_632, s_invokevirtual, rM_8_88, iv4_1, hc_84, i1_0, up_n, ret_b, bI_0, pk_us, pk_un, up_e, up_up, Decidable.not_not, nI_1, Int32.add_zero, Int32.zero_add, vz_0, tn_0, vz_1, tn_1, vz_2, tn_2, vz_3, tn_3, vz_4, tn_4, vz_5, tn_5, vz_6, tn_6, vz_7, tn_7, vz_8, tn_8, vz_9, tn_9, vz_10, tn_10, vz_11, tn_11, vz_12, tn_12, vz_13, tn_13, vz_14, tn_14, vz_15, tn_15, vz_160, tn_160, vz_161, tn_161, vz_162, tn_162, vz_163, tn_163, vz_164, tn_164, vs_0, vs_1, vs_2, vs_3, vs_4, vs_5, run_s, run_e, run_0, true_and, and_true, and_self, or_true, true_or, or_false, false_or, List.length_cons, List.length_nil, Option.toList_some, Option.toList_none, List.cons_append, List.nil_append, isI_t, isJ_t, isA_t, vI_t, nI32_t, isF_t, gF_t, sF_t, isO_t, isP_t, isP0_t, gE_t, sE_t, isR_t, gO_t, sO_t, isS_t, vS_t, isSc_t, nSc_t, pok_i, pok_o, pok_a, pok_0, pok_1, ret_i, ret_0, ret_1, ret_v, clr_i, clr_j, clr_r, clr_n, cat_i, cat_r, kk0, kk1, kk2, eq_self, Nat.reduceEqDiff, Nat.reduceLeDiff, Nat.reduceAdd, Nat.reduceLT, Nat.reduceSub, Nat.reduceMul, forall_const, imp_false, not_true_eq_false, not_false_eq_true, false_imp_iff, Nat.zero_ne_one, Nat.one_ne_zero, Bool.false_eq_true, reduceCtorEq, ne_eq, Nat.add_zero, Nat.reduceBEq, Bool.or_false, Bool.or_true, Bool.false_or, Bool.true_or, or_self, entL, List.flatMap_cons, List.flatMap_nil, List.reduceReplicate, ↓reduceIte, cat_j, lg_0, lg_1, lg_2, lg_3, lg_4, lg_5, lg_6, lg_7, lg_8, lg_9, lg_10, ls_0, ls_1, ls_2, ls_3, ls_4, ls_5, ls_6, ls_7, ls_8, ls_9, ls_10, st_0, st_1, st_2, st_3, st_4, st_5, st_6, nI_2, nI_3, x0, a0]
  refine call0 ((P_wipe hI).mono fun r w1 hr => ?_)
  obtain ⟨v, rfl, ⟨k1, fs, k2⟩, hT⟩ := hr
  refine go_ok hJ (fun _ => false) 60 ?_
  simp -implicitDefEqProofs only [e_L_635, s_aload_n, e_L_636, s_invokevirtual, rM_8_91, iv4_1, hc_150, i1_0, up_n, ret_b, bI_0, pk_us, pk_un, up_e, up_up, Decidable.not_not, nI_1, Int32.add_zero, Int32.zero_add, vz_0, tn_0, vz_1, tn_1, vz_2, tn_2, vz_3, tn_3, vz_4, tn_4, vz_5, tn_5, vz_6, tn_6, vz_7, tn_7, vz_8, tn_8, vz_9, tn_9, vz_10, tn_10, vz_11, tn_11, vz_12, tn_12, vz_13, tn_13, vz_14, tn_14, vz_15, tn_15, vz_160, tn_160, vz_161, tn_161, vz_162, tn_162, vz_163, tn_163, vz_164, tn_164, vs_0, vs_1, vs_2, vs_3, vs_4, vs_5, run_s, run_e, run_0, true_and, and_true, and_self, or_true, true_or, or_false, false_or, List.length_cons, List.length_nil, Option.toList_some, Option.toList_none, List.cons_append, List.nil_append, isI_t, isJ_t, isA_t, vI_t, nI32_t, isF_t, gF_t, sF_t, isO_t, isP_t, isP0_t, gE_t, sE_t, isR_t, gO_t, sO_t, isS_t, vS_t, isSc_t, nSc_t, pok_i, pok_o, pok_a, pok_0, pok_1, ret_i, ret_0, ret_1, ret_v, clr_i, clr_j, clr_r, clr_n, cat_i, cat_r, kk0, kk1, kk2, eq_self, Nat.reduceEqDiff, Nat.reduceLeDiff, Nat.reduceAdd, Nat.reduceLT, Nat.reduceSub, Nat.reduceMul, forall_const, imp_false, not_true_eq_false, not_false_eq_true, false_imp_iff, Nat.zero_ne_one, Nat.one_ne_zero, Bool.false_eq_true, reduceCtorEq, ne_eq, Nat.add_zero, Nat.reduceBEq, Bool.or_false, Bool.or_true, Bool.false_or, Bool.true_or, or_self, entL, List.flatMap_cons, List.flatMap_nil, List.reduceReplicate, ↓reduceIte, cat_j, lg_0, lg_1, lg_2, lg_3, lg_4, lg_5, lg_6, lg_7, lg_8, lg_9, lg_10, ls_0, ls_1, ls_2, ls_3, ls_4, ls_5, ls_6, ls_7, ls_8, ls_9, ls_10, st_0, st_1, st_2, st_3, st_4, st_5, st_6, nI_2, nI_3, k1, k2]
  refine call0 (hT.mono fun r w2 hr => ?_)
  obtain ⟨rfl, hI2⟩ := hr
  refine go_ok hJ (fun p => p == 729) 60 ?_
  simp -implicitDefEqProofs only [e_L_639, s_icmp_eq, e_L_642, s_iconst, e_L_643, s_ireturn, i1_0, up_n, ret_b, bI_0, pk_us, pk_un, up_e, up_up, Decidable.not_not, nI_1, Int32.add_zero, Int32.zero_add, vz_0, tn_0, vz_1, tn_1, vz_2, tn_2, vz_3, tn_3, vz_4, tn_4, vz_5, tn_5, vz_6, tn_6, vz_7, tn_7, vz_8, tn_8, vz_9, tn_9, vz_10, tn_10, vz_11, tn_11, vz_12, tn_12, vz_13, tn_13, vz_14, tn_14, vz_15, tn_15, vz_160, tn_160, vz_161, tn_161, vz_162, tn_162, vz_163, tn_163, vz_164, tn_164, vs_0, vs_1, vs_2, vs_3, vs_4, vs_5, run_s, run_e, run_0, true_and, and_true, and_self, or_true, true_or, or_false, false_or, List.length_cons, List.length_nil, Option.toList_some, Option.toList_none, List.cons_append, List.nil_append, isI_t, isJ_t, isA_t, vI_t, nI32_t, isF_t, gF_t, sF_t, isO_t, isP_t, isP0_t, gE_t, sE_t, isR_t, gO_t, sO_t, isS_t, vS_t, isSc_t, nSc_t, pok_i, pok_o, pok_a, pok_0, pok_1, ret_i, ret_0, ret_1, ret_v, clr_i, clr_j, clr_r, clr_n, cat_i, cat_r, kk0, kk1, kk2, eq_self, Nat.reduceEqDiff, Nat.reduceLeDiff, Nat.reduceAdd, Nat.reduceLT, Nat.reduceSub, Nat.reduceMul, forall_const, imp_false, not_true_eq_false, not_false_eq_true, false_imp_iff, Nat.zero_ne_one, Nat.one_ne_zero, Bool.false_eq_true, reduceCtorEq, ne_eq, Nat.add_zero, Nat.reduceBEq, Bool.or_false, Bool.or_true, Bool.false_or, Bool.true_or, or_self, entL, List.flatMap_cons, List.flatMap_nil, List.reduceReplicate, ↓reduceIte, cat_j, lg_0, lg_1, lg_2, lg_3, lg_4, lg_5, lg_6, lg_7, lg_8, lg_9, lg_10, ls_0, ls_1, ls_2, ls_3, ls_4, ls_5, ls_6, ls_7, ls_8, ls_9, ls_10, st_0, st_1, st_2, st_3, st_4, st_5, st_6, nI_2, nI_3]
  exact he w2 hI2
theorem L_fault (hJ : LJ G J Rt) (hI : IV b L xs w) (hi : i + 4 ≤ L) (hL : L ≤ 2048) (hb : b ≤ 900000) (he : ∀ w2, IV (b + 400) L xs w2 → J 729 [.ref 1000, .ref 0, .ref 137, .int (nI i)] [] 145 w2) : J 644 [.ref 1000, .ref 0, .ref 137, .int (nI i)] [] 145 w := by
  obtain ⟨⟨x0, f0, m0⟩, a0⟩ := hI.kp
  have v1 : vp_in (nI (i + 1)) L = True := eq_true (vpl (by omega) (by omega))
  have c1 : (nI (i + 1)).toNatClampNeg = i + 1 := nI_clamp (by omega)
  have v2 : vp_in (nI (i + 2)) L = True := eq_true (vpl (by omega) (by omega))
  have c2 : (nI (i + 2)).toNatClampNeg = i + 2 := nI_clamp (by omega)
  have v3 : vp_in (nI (i + 3)) L = True := eq_true (vpl (by omega) (by omega))
  have c3 : (nI (i + 3)).toNatClampNeg = i + 3 := nI_clamp (by omega)
  refine go_ok hJ (fun _ => false) 60 ?_
  simp -implicitDefEqProofs only [e_L_644, s_aload_n, e_L_645, s_invokevirtual, rM_8_92, iv4_1, hc_85, i1_0, up_n, ret_b, bI_0, pk_us, pk_un, up_e, up_up, Decidable.not_not, nI_1, Int32.add_zero, Int32.zero_add, vz_0, tn_0, vz_1, tn_1, vz_2, tn_2, vz_3, tn_3, vz_4, tn_4, vz_5, tn_5, vz_6, tn_6, vz_7, tn_7, vz_8, tn_8, vz_9, tn_9, vz_10, tn_10, vz_11, tn_11, vz_12, tn_12, vz_13, tn_13, vz_14, tn_14, vz_15, tn_15, vz_160, tn_160, vz_161, tn_161, vz_162, tn_162, vz_163, tn_163, vz_164, tn_164, vs_0, vs_1, vs_2, vs_3, vs_4, vs_5, run_s, run_e, run_0, true_and, and_true, and_self, or_true, true_or, or_false, false_or, List.length_cons, List.length_nil, Option.toList_some, Option.toList_none, List.cons_append, List.nil_append, isI_t, isJ_t, isA_t, vI_t, nI32_t, isF_t, gF_t, sF_t, isO_t, isP_t, isP0_t, gE_t, sE_t, isR_t, gO_t, sO_t, isS_t, vS_t, isSc_t, nSc_t, pok_i, pok_o, pok_a, pok_0, pok_1, ret_i, ret_0, ret_1, ret_v, clr_i, clr_j, clr_r, clr_n, cat_i, cat_r, kk0, kk1, kk2, eq_self, Nat.reduceEqDiff, Nat.reduceLeDiff, Nat.reduceAdd, Nat.reduceLT, Nat.reduceSub, Nat.reduceMul, forall_const, imp_false, not_true_eq_false, not_false_eq_true, false_imp_iff, Nat.zero_ne_one, Nat.one_ne_zero, Bool.false_eq_true, reduceCtorEq, ne_eq, Nat.add_zero, Nat.reduceBEq, Bool.or_false, Bool.or_true, Bool.false_or, Bool.true_or, or_self, entL, List.flatMap_cons, List.flatMap_nil, List.reduceReplicate, ↓reduceIte, cat_j, lg_0, lg_1, lg_2, lg_3, lg_4, lg_5, lg_6, lg_7, lg_8, lg_9, lg_10, ls_0, ls_1, ls_2, ls_3, ls_4, ls_5, ls_6, ls_7, ls_8, ls_9, ls_10, st_0, st_1, st_2, st_3, st_4, st_5, st_6, nI_2, nI_3, x0, a0]
  refine call0 ((P_fault hI).mono fun r w1 hr => ?_)
  obtain ⟨v, rfl, ⟨k1, fs, k2⟩, hT⟩ := hr
  refine go_ok hJ (fun _ => false) 60 ?_
  simp -implicitDefEqProofs only [e_L_648, s_aload_n, e_L_649, s_invokevirtual, rM_8_95, iv4_1, hc_157, i1_0, up_n, ret_b, bI_0, pk_us, pk_un, up_e, up_up, Decidable.not_not, nI_1, Int32.add_zero, Int32.zero_add, vz_0, tn_0, vz_1, tn_1, vz_2, tn_2, vz_3, tn_3, vz_4, tn_4, vz_5, tn_5, vz_6, tn_6, vz_7, tn_7, vz_8, tn_8, vz_9, tn_9, vz_10, tn_10, vz_11, tn_11, vz_12, tn_12, vz_13, tn_13, vz_14, tn_14, vz_15, tn_15, vz_160, tn_160, vz_161, tn_161, vz_162, tn_162, vz_163, tn_163, vz_164, tn_164, vs_0, vs_1, vs_2, vs_3, vs_4, vs_5, run_s, run_e, run_0, true_and, and_true, and_self, or_true, true_or, or_false, false_or, List.length_cons, List.length_nil, Option.toList_some, Option.toList_none, List.cons_append, List.nil_append, isI_t, isJ_t, isA_t, vI_t, nI32_t, isF_t, gF_t, sF_t, isO_t, isP_t, isP0_t, gE_t, sE_t, isR_t, gO_t, sO_t, isS_t, vS_t, isSc_t, nSc_t, pok_i, pok_o, pok_a, pok_0, pok_1, ret_i, ret_0, ret_1, ret_v, clr_i, clr_j, clr_r, clr_n, cat_i, cat_r, kk0, kk1, kk2, eq_self, Nat.reduceEqDiff, Nat.reduceLeDiff, Nat.reduceAdd, Nat.reduceLT, Nat.reduceSub, Nat.reduceMul, forall_const, imp_false, not_true_eq_false, not_false_eq_true, false_imp_iff, Nat.zero_ne_one, Nat.one_ne_zero, Bool.false_eq_true, reduceCtorEq, ne_eq, Nat.add_zero, Nat.reduceBEq, Bool.or_false, Bool.or_true, Bool.false_or, Bool.true_or, or_self, entL, List.flatMap_cons, List.flatMap_nil, List.reduceReplicate, ↓reduceIte, cat_j, lg_0, lg_1, lg_2, lg_3, lg_4, lg_5, lg_6, lg_7, lg_8, lg_9, lg_10, ls_0, ls_1, ls_2, ls_3, ls_4, ls_5, ls_6, ls_7, ls_8, ls_9, ls_10, st_0, st_1, st_2, st_3, st_4, st_5, st_6, nI_2, nI_3, k1, k2]
  refine call0 (hT.mono fun r w2 hr => ?_)
  obtain ⟨rfl, hI2⟩ := hr
  refine go_ok hJ (fun p => p == 729) 60 ?_
  simp -implicitDefEqProofs only [e_L_652, s_icmp_eq, e_L_655, s_iconst, e_L_656, s_ireturn, i1_0, up_n, ret_b, bI_0, pk_us, pk_un, up_e, up_up, Decidable.not_not, nI_1, Int32.add_zero, Int32.zero_add, vz_0, tn_0, vz_1, tn_1, vz_2, tn_2, vz_3, tn_3, vz_4, tn_4, vz_5, tn_5, vz_6, tn_6, vz_7, tn_7, vz_8, tn_8, vz_9, tn_9, vz_10, tn_10, vz_11, tn_11, vz_12, tn_12, vz_13, tn_13, vz_14, tn_14, vz_15, tn_15, vz_160, tn_160, vz_161, tn_161, vz_162, tn_162, vz_163, tn_163, vz_164, tn_164, vs_0, vs_1, vs_2, vs_3, vs_4, vs_5, run_s, run_e, run_0, true_and, and_true, and_self, or_true, true_or, or_false, false_or, List.length_cons, List.length_nil, Option.toList_some, Option.toList_none, List.cons_append, List.nil_append, isI_t, isJ_t, isA_t, vI_t, nI32_t, isF_t, gF_t, sF_t, isO_t, isP_t, isP0_t, gE_t, sE_t, isR_t, gO_t, sO_t, isS_t, vS_t, isSc_t, nSc_t, pok_i, pok_o, pok_a, pok_0, pok_1, ret_i, ret_0, ret_1, ret_v, clr_i, clr_j, clr_r, clr_n, cat_i, cat_r, kk0, kk1, kk2, eq_self, Nat.reduceEqDiff, Nat.reduceLeDiff, Nat.reduceAdd, Nat.reduceLT, Nat.reduceSub, Nat.reduceMul, forall_const, imp_false, not_true_eq_false, not_false_eq_true, false_imp_iff, Nat.zero_ne_one, Nat.one_ne_zero, Bool.false_eq_true, reduceCtorEq, ne_eq, Nat.add_zero, Nat.reduceBEq, Bool.or_false, Bool.or_true, Bool.false_or, Bool.true_or, or_self, entL, List.flatMap_cons, List.flatMap_nil, List.reduceReplicate, ↓reduceIte, cat_j, lg_0, lg_1, lg_2, lg_3, lg_4, lg_5, lg_6, lg_7, lg_8, lg_9, lg_10, ls_0, ls_1, ls_2, ls_3, ls_4, ls_5, ls_6, ls_7, ls_8, ls_9, ls_10, st_0, st_1, st_2, st_3, st_4, st_5, st_6, nI_2, nI_3]
  exact he w2 hI2
theorem L_carryOut (hJ : LJ G J Rt) (hI : IV b L xs w) (hi : i + 4 ≤ L) (hL : L ≤ 2048) (hb : b ≤ 900000) (he : ∀ w2, IV (b + 400) L xs w2 → J 729 [.ref 1000, .ref 0, .ref 137, .int (nI i)] [] 145 w2) : J 657 [.ref 1000, .ref 0, .ref 137, .int (nI i)] [] 145 w := by
  obtain ⟨⟨x0, f0, m0⟩, a0⟩ := hI.kp
  have v1 : vp_in (nI (i + 1)) L = True := eq_true (vpl (by omega) (by omega))
  have c1 : (nI (i + 1)).toNatClampNeg = i + 1 := nI_clamp (by omega)
  have v2 : vp_in (nI (i + 2)) L = True := eq_true (vpl (by omega) (by omega))
  have c2 : (nI (i + 2)).toNatClampNeg = i + 2 := nI_clamp (by omega)
  have v3 : vp_in (nI (i + 3)) L = True := eq_true (vpl (by omega) (by omega))
  have c3 : (nI (i + 3)).toNatClampNeg = i + 3 := nI_clamp (by omega)
  refine go_ok hJ (fun _ => false) 60 ?_
  simp -implicitDefEqProofs only [e_L_657, s_aload_n, e_L_658, s_invokevirtual, rM_8_96, iv4_1, hc_86, i1_0, up_n, ret_b, bI_0, pk_us, pk_un, up_e, up_up, Decidable.not_not, nI_1, Int32.add_zero, Int32.zero_add, vz_0, tn_0, vz_1, tn_1, vz_2, tn_2, vz_3, tn_3, vz_4, tn_4, vz_5, tn_5, vz_6, tn_6, vz_7, tn_7, vz_8, tn_8, vz_9, tn_9, vz_10, tn_10, vz_11, tn_11, vz_12, tn_12, vz_13, tn_13, vz_14, tn_14, vz_15, tn_15, vz_160, tn_160, vz_161, tn_161, vz_162, tn_162, vz_163, tn_163, vz_164, tn_164, vs_0, vs_1, vs_2, vs_3, vs_4, vs_5, run_s, run_e, run_0, true_and, and_true, and_self, or_true, true_or, or_false, false_or, List.length_cons, List.length_nil, Option.toList_some, Option.toList_none, List.cons_append, List.nil_append, isI_t, isJ_t, isA_t, vI_t, nI32_t, isF_t, gF_t, sF_t, isO_t, isP_t, isP0_t, gE_t, sE_t, isR_t, gO_t, sO_t, isS_t, vS_t, isSc_t, nSc_t, pok_i, pok_o, pok_a, pok_0, pok_1, ret_i, ret_0, ret_1, ret_v, clr_i, clr_j, clr_r, clr_n, cat_i, cat_r, kk0, kk1, kk2, eq_self, Nat.reduceEqDiff, Nat.reduceLeDiff, Nat.reduceAdd, Nat.reduceLT, Nat.reduceSub, Nat.reduceMul, forall_const, imp_false, not_true_eq_false, not_false_eq_true, false_imp_iff, Nat.zero_ne_one, Nat.one_ne_zero, Bool.false_eq_true, reduceCtorEq, ne_eq, Nat.add_zero, Nat.reduceBEq, Bool.or_false, Bool.or_true, Bool.false_or, Bool.true_or, or_self, entL, List.flatMap_cons, List.flatMap_nil, List.reduceReplicate, ↓reduceIte, cat_j, lg_0, lg_1, lg_2, lg_3, lg_4, lg_5, lg_6, lg_7, lg_8, lg_9, lg_10, ls_0, ls_1, ls_2, ls_3, ls_4, ls_5, ls_6, ls_7, ls_8, ls_9, ls_10, st_0, st_1, st_2, st_3, st_4, st_5, st_6, nI_2, nI_3, x0, a0]
  refine call0 ((P_carryOut hI).mono fun r w1 hr => ?_)
  obtain ⟨v, rfl, ⟨k1, fs, k2⟩, hT⟩ := hr
  refine go_ok hJ (fun _ => false) 60 ?_
  simp -implicitDefEqProofs only [e_L_661, s_aload_n, e_L_662, s_invokevirtual, rM_8_99, iv4_1, hc_160, i1_0, up_n, ret_b, bI_0, pk_us, pk_un, up_e, up_up, Decidable.not_not, nI_1, Int32.add_zero, Int32.zero_add, vz_0, tn_0, vz_1, tn_1, vz_2, tn_2, vz_3, tn_3, vz_4, tn_4, vz_5, tn_5, vz_6, tn_6, vz_7, tn_7, vz_8, tn_8, vz_9, tn_9, vz_10, tn_10, vz_11, tn_11, vz_12, tn_12, vz_13, tn_13, vz_14, tn_14, vz_15, tn_15, vz_160, tn_160, vz_161, tn_161, vz_162, tn_162, vz_163, tn_163, vz_164, tn_164, vs_0, vs_1, vs_2, vs_3, vs_4, vs_5, run_s, run_e, run_0, true_and, and_true, and_self, or_true, true_or, or_false, false_or, List.length_cons, List.length_nil, Option.toList_some, Option.toList_none, List.cons_append, List.nil_append, isI_t, isJ_t, isA_t, vI_t, nI32_t, isF_t, gF_t, sF_t, isO_t, isP_t, isP0_t, gE_t, sE_t, isR_t, gO_t, sO_t, isS_t, vS_t, isSc_t, nSc_t, pok_i, pok_o, pok_a, pok_0, pok_1, ret_i, ret_0, ret_1, ret_v, clr_i, clr_j, clr_r, clr_n, cat_i, cat_r, kk0, kk1, kk2, eq_self, Nat.reduceEqDiff, Nat.reduceLeDiff, Nat.reduceAdd, Nat.reduceLT, Nat.reduceSub, Nat.reduceMul, forall_const, imp_false, not_true_eq_false, not_false_eq_true, false_imp_iff, Nat.zero_ne_one, Nat.one_ne_zero, Bool.false_eq_true, reduceCtorEq, ne_eq, Nat.add_zero, Nat.reduceBEq, Bool.or_false, Bool.or_true, Bool.false_or, Bool.true_or, or_self, entL, List.flatMap_cons, List.flatMap_nil, List.reduceReplicate, ↓reduceIte, cat_j, lg_0, lg_1, lg_2, lg_3, lg_4, lg_5, lg_6, lg_7, lg_8, lg_9, lg_10, ls_0, ls_1, ls_2, ls_3, ls_4, ls_5, ls_6, ls_7, ls_8, ls_9, ls_10, st_0, st_1, st_2, st_3, st_4, st_5, st_6, nI_2, nI_3, k1, k2]
  refine call0 (hT.mono fun r w2 hr => ?_)
  obtain ⟨rfl, hI2⟩ := hr
  refine go_ok hJ (fun p => p == 729) 60 ?_
  simp -implicitDefEqProofs only [e_L_665, s_icmp_eq, e_L_668, s_iconst, e_L_669, s_ireturn, i1_0, up_n, ret_b, bI_0, pk_us, pk_un, up_e, up_up, Decidable.not_not, nI_1, Int32.add_zero, Int32.zero_add, vz_0, tn_0, vz_1, tn_1, vz_2, tn_2, vz_3, tn_3, vz_4, tn_4, vz_5, tn_5, vz_6, tn_6, vz_7, tn_7, vz_8, tn_8, vz_9, tn_9, vz_10, tn_10, vz_11, tn_11, vz_12, tn_12, vz_13, tn_13, vz_14, tn_14, vz_15, tn_15, vz_160, tn_160, vz_161, tn_161, vz_162, tn_162, vz_163, tn_163, vz_164, tn_164, vs_0, vs_1, vs_2, vs_3, vs_4, vs_5, run_s, run_e, run_0, true_and, and_true, and_self, or_true, true_or, or_false, false_or, List.length_cons, List.length_nil, Option.toList_some, Option.toList_none, List.cons_append, List.nil_append, isI_t, isJ_t, isA_t, vI_t, nI32_t, isF_t, gF_t, sF_t, isO_t, isP_t, isP0_t, gE_t, sE_t, isR_t, gO_t, sO_t, isS_t, vS_t, isSc_t, nSc_t, pok_i, pok_o, pok_a, pok_0, pok_1, ret_i, ret_0, ret_1, ret_v, clr_i, clr_j, clr_r, clr_n, cat_i, cat_r, kk0, kk1, kk2, eq_self, Nat.reduceEqDiff, Nat.reduceLeDiff, Nat.reduceAdd, Nat.reduceLT, Nat.reduceSub, Nat.reduceMul, forall_const, imp_false, not_true_eq_false, not_false_eq_true, false_imp_iff, Nat.zero_ne_one, Nat.one_ne_zero, Bool.false_eq_true, reduceCtorEq, ne_eq, Nat.add_zero, Nat.reduceBEq, Bool.or_false, Bool.or_true, Bool.false_or, Bool.true_or, or_self, entL, List.flatMap_cons, List.flatMap_nil, List.reduceReplicate, ↓reduceIte, cat_j, lg_0, lg_1, lg_2, lg_3, lg_4, lg_5, lg_6, lg_7, lg_8, lg_9, lg_10, ls_0, ls_1, ls_2, ls_3, ls_4, ls_5, ls_6, ls_7, ls_8, ls_9, ls_10, st_0, st_1, st_2, st_3, st_4, st_5, st_6, nI_2, nI_3]
  exact he w2 hI2
theorem L_undo (hJ : LJ G J Rt) (hI : IV b L xs w) (hi : i + 4 ≤ L) (hL : L ≤ 2048) (hb : b ≤ 900000) (he : ∀ w2, IV (b + 400) L xs w2 → J 729 [.ref 1000, .ref 0, .ref 137, .int (nI i)] [] 145 w2) : J 670 [.ref 1000, .ref 0, .ref 137, .int (nI i)] [] 145 w := by
  obtain ⟨⟨x0, f0, m0⟩, a0⟩ := hI.kp
  have v1 : vp_in (nI (i + 1)) L = True := eq_true (vpl (by omega) (by omega))
  have c1 : (nI (i + 1)).toNatClampNeg = i + 1 := nI_clamp (by omega)
  have v2 : vp_in (nI (i + 2)) L = True := eq_true (vpl (by omega) (by omega))
  have c2 : (nI (i + 2)).toNatClampNeg = i + 2 := nI_clamp (by omega)
  have v3 : vp_in (nI (i + 3)) L = True := eq_true (vpl (by omega) (by omega))
  have c3 : (nI (i + 3)).toNatClampNeg = i + 3 := nI_clamp (by omega)
  refine go_ok hJ (fun _ => false) 60 ?_
  simp -implicitDefEqProofs only [e_L_670, s_aload_n, e_L_671, s_invokevirtual, rM_8_100, iv4_1, hc_88, i1_0, up_n, ret_b, bI_0, pk_us, pk_un, up_e, up_up, Decidable.not_not, nI_1, Int32.add_zero, Int32.zero_add, vz_0, tn_0, vz_1, tn_1, vz_2, tn_2, vz_3, tn_3, vz_4, tn_4, vz_5, tn_5, vz_6, tn_6, vz_7, tn_7, vz_8, tn_8, vz_9, tn_9, vz_10, tn_10, vz_11, tn_11, vz_12, tn_12, vz_13, tn_13, vz_14, tn_14, vz_15, tn_15, vz_160, tn_160, vz_161, tn_161, vz_162, tn_162, vz_163, tn_163, vz_164, tn_164, vs_0, vs_1, vs_2, vs_3, vs_4, vs_5, run_s, run_e, run_0, true_and, and_true, and_self, or_true, true_or, or_false, false_or, List.length_cons, List.length_nil, Option.toList_some, Option.toList_none, List.cons_append, List.nil_append, isI_t, isJ_t, isA_t, vI_t, nI32_t, isF_t, gF_t, sF_t, isO_t, isP_t, isP0_t, gE_t, sE_t, isR_t, gO_t, sO_t, isS_t, vS_t, isSc_t, nSc_t, pok_i, pok_o, pok_a, pok_0, pok_1, ret_i, ret_0, ret_1, ret_v, clr_i, clr_j, clr_r, clr_n, cat_i, cat_r, kk0, kk1, kk2, eq_self, Nat.reduceEqDiff, Nat.reduceLeDiff, Nat.reduceAdd, Nat.reduceLT, Nat.reduceSub, Nat.reduceMul, forall_const, imp_false, not_true_eq_false, not_false_eq_true, false_imp_iff, Nat.zero_ne_one, Nat.one_ne_zero, Bool.false_eq_true, reduceCtorEq, ne_eq, Nat.add_zero, Nat.reduceBEq, Bool.or_false, Bool.or_true, Bool.false_or, Bool.true_or, or_self, entL, List.flatMap_cons, List.flatMap_nil, List.reduceReplicate, ↓reduceIte, cat_j, lg_0, lg_1, lg_2, lg_3, lg_4, lg_5, lg_6, lg_7, lg_8, lg_9, lg_10, ls_0, ls_1, ls_2, ls_3, ls_4, ls_5, ls_6, ls_7, ls_8, ls_9, ls_10, st_0, st_1, st_2, st_3, st_4, st_5, st_6, nI_2, nI_3, x0, a0]
  refine call0 ((P_undo hI).mono fun r w1 hr => ?_)
  obtain ⟨v, rfl, ⟨k1, fs, k2⟩, hT⟩ := hr
  refine go_ok hJ (fun _ => false) 60 ?_
  simp -implicitDefEqProofs only [e_L_674, s_aload_n, e_L_675, s_invokevirtual, rM_8_103, iv4_1, hc_102, i1_0, up_n, ret_b, bI_0, pk_us, pk_un, up_e, up_up, Decidable.not_not, nI_1, Int32.add_zero, Int32.zero_add, vz_0, tn_0, vz_1, tn_1, vz_2, tn_2, vz_3, tn_3, vz_4, tn_4, vz_5, tn_5, vz_6, tn_6, vz_7, tn_7, vz_8, tn_8, vz_9, tn_9, vz_10, tn_10, vz_11, tn_11, vz_12, tn_12, vz_13, tn_13, vz_14, tn_14, vz_15, tn_15, vz_160, tn_160, vz_161, tn_161, vz_162, tn_162, vz_163, tn_163, vz_164, tn_164, vs_0, vs_1, vs_2, vs_3, vs_4, vs_5, run_s, run_e, run_0, true_and, and_true, and_self, or_true, true_or, or_false, false_or, List.length_cons, List.length_nil, Option.toList_some, Option.toList_none, List.cons_append, List.nil_append, isI_t, isJ_t, isA_t, vI_t, nI32_t, isF_t, gF_t, sF_t, isO_t, isP_t, isP0_t, gE_t, sE_t, isR_t, gO_t, sO_t, isS_t, vS_t, isSc_t, nSc_t, pok_i, pok_o, pok_a, pok_0, pok_1, ret_i, ret_0, ret_1, ret_v, clr_i, clr_j, clr_r, clr_n, cat_i, cat_r, kk0, kk1, kk2, eq_self, Nat.reduceEqDiff, Nat.reduceLeDiff, Nat.reduceAdd, Nat.reduceLT, Nat.reduceSub, Nat.reduceMul, forall_const, imp_false, not_true_eq_false, not_false_eq_true, false_imp_iff, Nat.zero_ne_one, Nat.one_ne_zero, Bool.false_eq_true, reduceCtorEq, ne_eq, Nat.add_zero, Nat.reduceBEq, Bool.or_false, Bool.or_true, Bool.false_or, Bool.true_or, or_self, entL, List.flatMap_cons, List.flatMap_nil, List.reduceReplicate, ↓reduceIte, cat_j, lg_0, lg_1, lg_2, lg_3, lg_4, lg_5, lg_6, lg_7, lg_8, lg_9, lg_10, ls_0, ls_1, ls_2, ls_3, ls_4, ls_5, ls_6, ls_7, ls_8, ls_9, ls_10, st_0, st_1, st_2, st_3, st_4, st_5, st_6, nI_2, nI_3, k1, k2]
  refine call0 (hT.mono fun r w2 hr => ?_)
  obtain ⟨rfl, hI2⟩ := hr
  refine go_ok hJ (fun p => p == 729) 60 ?_
  simp -implicitDefEqProofs only [e_L_678, s_icmp_eq, e_L_681, s_iconst, e_L_682, s_ireturn, i1_0, up_n, ret_b, bI_0, pk_us, pk_un, up_e, up_up, Decidable.not_not, nI_1, Int32.add_zero, Int32.zero_add, vz_0, tn_0, vz_1, tn_1, vz_2, tn_2, vz_3, tn_3, vz_4, tn_4, vz_5, tn_5, vz_6, tn_6, vz_7, tn_7, vz_8, tn_8, vz_9, tn_9, vz_10, tn_10, vz_11, tn_11, vz_12, tn_12, vz_13, tn_13, vz_14, tn_14, vz_15, tn_15, vz_160, tn_160, vz_161, tn_161, vz_162, tn_162, vz_163, tn_163, vz_164, tn_164, vs_0, vs_1, vs_2, vs_3, vs_4, vs_5, run_s, run_e, run_0, true_and, and_true, and_self, or_true, true_or, or_false, false_or, List.length_cons, List.length_nil, Option.toList_some, Option.toList_none, List.cons_append, List.nil_append, isI_t, isJ_t, isA_t, vI_t, nI32_t, isF_t, gF_t, sF_t, isO_t, isP_t, isP0_t, gE_t, sE_t, isR_t, gO_t, sO_t, isS_t, vS_t, isSc_t, nSc_t, pok_i, pok_o, pok_a, pok_0, pok_1, ret_i, ret_0, ret_1, ret_v, clr_i, clr_j, clr_r, clr_n, cat_i, cat_r, kk0, kk1, kk2, eq_self, Nat.reduceEqDiff, Nat.reduceLeDiff, Nat.reduceAdd, Nat.reduceLT, Nat.reduceSub, Nat.reduceMul, forall_const, imp_false, not_true_eq_false, not_false_eq_true, false_imp_iff, Nat.zero_ne_one, Nat.one_ne_zero, Bool.false_eq_true, reduceCtorEq, ne_eq, Nat.add_zero, Nat.reduceBEq, Bool.or_false, Bool.or_true, Bool.false_or, Bool.true_or, or_self, entL, List.flatMap_cons, List.flatMap_nil, List.reduceReplicate, ↓reduceIte, cat_j, lg_0, lg_1, lg_2, lg_3, lg_4, lg_5, lg_6, lg_7, lg_8, lg_9, lg_10, ls_0, ls_1, ls_2, ls_3, ls_4, ls_5, ls_6, ls_7, ls_8, ls_9, ls_10, st_0, st_1, st_2, st_3, st_4, st_5, st_6, nI_2, nI_3]
  exact he w2 hI2
theorem L_save (hJ : LJ G J Rt) (hI : IV b L xs w) (hi : i + 4 ≤ L) (hL : L ≤ 2048) (hb : b ≤ 900000) (he : ∀ w2, IV (b + 400) L xs w2 → J 729 [.ref 1000, .ref 0, .ref 137, .int (nI i)] [] 145 w2) : J 683 [.ref 1000, .ref 0, .ref 137, .int (nI i)] [] 145 w := by
  obtain ⟨⟨x0, f0, m0⟩, a0⟩ := hI.kp
  have v1 : vp_in (nI (i + 1)) L = True := eq_true (vpl (by omega) (by omega))
  have c1 : (nI (i + 1)).toNatClampNeg = i + 1 := nI_clamp (by omega)
  have v2 : vp_in (nI (i + 2)) L = True := eq_true (vpl (by omega) (by omega))
  have c2 : (nI (i + 2)).toNatClampNeg = i + 2 := nI_clamp (by omega)
  have v3 : vp_in (nI (i + 3)) L = True := eq_true (vpl (by omega) (by omega))
  have c3 : (nI (i + 3)).toNatClampNeg = i + 3 := nI_clamp (by omega)
  refine go_ok hJ (fun _ => false) 60 ?_
  simp -implicitDefEqProofs only [e_L_683, s_aload_n, e_L_684, e_L_685, s_iload_n, e_L_686, s_iconst, e_L_687, s_iadd, e_L_688, s_iaload, e_L_689, s_invokevirtual, rM_8_104, iv4_2, hc_89, i1_0, up_n, ret_b, bI_0, pk_us, pk_un, up_e, up_up, Decidable.not_not, nI_1, Int32.add_zero, Int32.zero_add, vz_0, tn_0, vz_1, tn_1, vz_2, tn_2, vz_3, tn_3, vz_4, tn_4, vz_5, tn_5, vz_6, tn_6, vz_7, tn_7, vz_8, tn_8, vz_9, tn_9, vz_10, tn_10, vz_11, tn_11, vz_12, tn_12, vz_13, tn_13, vz_14, tn_14, vz_15, tn_15, vz_160, tn_160, vz_161, tn_161, vz_162, tn_162, vz_163, tn_163, vz_164, tn_164, vs_0, vs_1, vs_2, vs_3, vs_4, vs_5, run_s, run_e, run_0, true_and, and_true, and_self, or_true, true_or, or_false, false_or, List.length_cons, List.length_nil, Option.toList_some, Option.toList_none, List.cons_append, List.nil_append, isI_t, isJ_t, isA_t, vI_t, nI32_t, isF_t, gF_t, sF_t, isO_t, isP_t, isP0_t, gE_t, sE_t, isR_t, gO_t, sO_t, isS_t, vS_t, isSc_t, nSc_t, pok_i, pok_o, pok_a, pok_0, pok_1, ret_i, ret_0, ret_1, ret_v, clr_i, clr_j, clr_r, clr_n, cat_i, cat_r, kk0, kk1, kk2, eq_self, Nat.reduceEqDiff, Nat.reduceLeDiff, Nat.reduceAdd, Nat.reduceLT, Nat.reduceSub, Nat.reduceMul, forall_const, imp_false, not_true_eq_false, not_false_eq_true, false_imp_iff, Nat.zero_ne_one, Nat.one_ne_zero, Bool.false_eq_true, reduceCtorEq, ne_eq, Nat.add_zero, Nat.reduceBEq, Bool.or_false, Bool.or_true, Bool.false_or, Bool.true_or, or_self, entL, List.flatMap_cons, List.flatMap_nil, List.reduceReplicate, ↓reduceIte, cat_j, lg_0, lg_1, lg_2, lg_3, lg_4, lg_5, lg_6, lg_7, lg_8, lg_9, lg_10, ls_0, ls_1, ls_2, ls_3, ls_4, ls_5, ls_6, ls_7, ls_8, ls_9, ls_10, st_0, st_1, st_2, st_3, st_4, st_5, st_6, nI_2, nI_3, x0, a0, v1, c1]
  refine call0 ((P_save hI _).mono fun r w1 hr => ?_)
  obtain ⟨v, rfl, ⟨k1, fs, k2⟩, hT⟩ := hr
  refine go_ok hJ (fun _ => false) 60 ?_
  simp -implicitDefEqProofs only [e_L_692, s_aload_n, e_L_693, e_L_694, s_iload_n, e_L_695, s_iconst, e_L_696, s_iadd, e_L_697, s_iaload, e_L_698, s_invokevirtual, rM_8_107, iv4_2, hc_103, i1_0, up_n, ret_b, bI_0, pk_us, pk_un, up_e, up_up, Decidable.not_not, nI_1, Int32.add_zero, Int32.zero_add, vz_0, tn_0, vz_1, tn_1, vz_2, tn_2, vz_3, tn_3, vz_4, tn_4, vz_5, tn_5, vz_6, tn_6, vz_7, tn_7, vz_8, tn_8, vz_9, tn_9, vz_10, tn_10, vz_11, tn_11, vz_12, tn_12, vz_13, tn_13, vz_14, tn_14, vz_15, tn_15, vz_160, tn_160, vz_161, tn_161, vz_162, tn_162, vz_163, tn_163, vz_164, tn_164, vs_0, vs_1, vs_2, vs_3, vs_4, vs_5, run_s, run_e, run_0, true_and, and_true, and_self, or_true, true_or, or_false, false_or, List.length_cons, List.length_nil, Option.toList_some, Option.toList_none, List.cons_append, List.nil_append, isI_t, isJ_t, isA_t, vI_t, nI32_t, isF_t, gF_t, sF_t, isO_t, isP_t, isP0_t, gE_t, sE_t, isR_t, gO_t, sO_t, isS_t, vS_t, isSc_t, nSc_t, pok_i, pok_o, pok_a, pok_0, pok_1, ret_i, ret_0, ret_1, ret_v, clr_i, clr_j, clr_r, clr_n, cat_i, cat_r, kk0, kk1, kk2, eq_self, Nat.reduceEqDiff, Nat.reduceLeDiff, Nat.reduceAdd, Nat.reduceLT, Nat.reduceSub, Nat.reduceMul, forall_const, imp_false, not_true_eq_false, not_false_eq_true, false_imp_iff, Nat.zero_ne_one, Nat.one_ne_zero, Bool.false_eq_true, reduceCtorEq, ne_eq, Nat.add_zero, Nat.reduceBEq, Bool.or_false, Bool.or_true, Bool.false_or, Bool.true_or, or_self, entL, List.flatMap_cons, List.flatMap_nil, List.reduceReplicate, ↓reduceIte, cat_j, lg_0, lg_1, lg_2, lg_3, lg_4, lg_5, lg_6, lg_7, lg_8, lg_9, lg_10, ls_0, ls_1, ls_2, ls_3, ls_4, ls_5, ls_6, ls_7, ls_8, ls_9, ls_10, st_0, st_1, st_2, st_3, st_4, st_5, st_6, nI_2, nI_3, k1, k2, v1, c1]
  refine call0 (hT.mono fun r w2 hr => ?_)
  obtain ⟨rfl, hI2⟩ := hr
  refine go_ok hJ (fun p => p == 729) 60 ?_
  simp -implicitDefEqProofs only [e_L_701, s_icmp_eq, e_L_704, s_iconst, e_L_705, s_ireturn, i1_0, up_n, ret_b, bI_0, pk_us, pk_un, up_e, up_up, Decidable.not_not, nI_1, Int32.add_zero, Int32.zero_add, vz_0, tn_0, vz_1, tn_1, vz_2, tn_2, vz_3, tn_3, vz_4, tn_4, vz_5, tn_5, vz_6, tn_6, vz_7, tn_7, vz_8, tn_8, vz_9, tn_9, vz_10, tn_10, vz_11, tn_11, vz_12, tn_12, vz_13, tn_13, vz_14, tn_14, vz_15, tn_15, vz_160, tn_160, vz_161, tn_161, vz_162, tn_162, vz_163, tn_163, vz_164, tn_164, vs_0, vs_1, vs_2, vs_3, vs_4, vs_5, run_s, run_e, run_0, true_and, and_true, and_self, or_true, true_or, or_false, false_or, List.length_cons, List.length_nil, Option.toList_some, Option.toList_none, List.cons_append, List.nil_append, isI_t, isJ_t, isA_t, vI_t, nI32_t, isF_t, gF_t, sF_t, isO_t, isP_t, isP0_t, gE_t, sE_t, isR_t, gO_t, sO_t, isS_t, vS_t, isSc_t, nSc_t, pok_i, pok_o, pok_a, pok_0, pok_1, ret_i, ret_0, ret_1, ret_v, clr_i, clr_j, clr_r, clr_n, cat_i, cat_r, kk0, kk1, kk2, eq_self, Nat.reduceEqDiff, Nat.reduceLeDiff, Nat.reduceAdd, Nat.reduceLT, Nat.reduceSub, Nat.reduceMul, forall_const, imp_false, not_true_eq_false, not_false_eq_true, false_imp_iff, Nat.zero_ne_one, Nat.one_ne_zero, Bool.false_eq_true, reduceCtorEq, ne_eq, Nat.add_zero, Nat.reduceBEq, Bool.or_false, Bool.or_true, Bool.false_or, Bool.true_or, or_self, entL, List.flatMap_cons, List.flatMap_nil, List.reduceReplicate, ↓reduceIte, cat_j, lg_0, lg_1, lg_2, lg_3, lg_4, lg_5, lg_6, lg_7, lg_8, lg_9, lg_10, ls_0, ls_1, ls_2, ls_3, ls_4, ls_5, ls_6, ls_7, ls_8, ls_9, ls_10, st_0, st_1, st_2, st_3, st_4, st_5, st_6, nI_2, nI_3]
  exact he w2 hI2
theorem L_restore (hJ : LJ G J Rt) (hI : IV b L xs w) (hi : i + 4 ≤ L) (hL : L ≤ 2048) (hb : b ≤ 900000) (he : ∀ w2, IV (b + 400) L xs w2 → J 729 [.ref 1000, .ref 0, .ref 137, .int (nI i)] [] 145 w2) : J 706 [.ref 1000, .ref 0, .ref 137, .int (nI i)] [] 145 w := by
  obtain ⟨⟨x0, f0, m0⟩, a0⟩ := hI.kp
  have v1 : vp_in (nI (i + 1)) L = True := eq_true (vpl (by omega) (by omega))
  have c1 : (nI (i + 1)).toNatClampNeg = i + 1 := nI_clamp (by omega)
  have v2 : vp_in (nI (i + 2)) L = True := eq_true (vpl (by omega) (by omega))
  have c2 : (nI (i + 2)).toNatClampNeg = i + 2 := nI_clamp (by omega)
  have v3 : vp_in (nI (i + 3)) L = True := eq_true (vpl (by omega) (by omega))
  have c3 : (nI (i + 3)).toNatClampNeg = i + 3 := nI_clamp (by omega)
  refine go_ok hJ (fun _ => false) 60 ?_
  simp -implicitDefEqProofs only [e_L_706, s_aload_n, e_L_707, e_L_708, s_iload_n, e_L_709, s_iconst, e_L_710, s_iadd, e_L_711, s_iaload, e_L_712, s_invokevirtual, rM_8_108, iv4_2, hc_90, i1_0, up_n, ret_b, bI_0, pk_us, pk_un, up_e, up_up, Decidable.not_not, nI_1, Int32.add_zero, Int32.zero_add, vz_0, tn_0, vz_1, tn_1, vz_2, tn_2, vz_3, tn_3, vz_4, tn_4, vz_5, tn_5, vz_6, tn_6, vz_7, tn_7, vz_8, tn_8, vz_9, tn_9, vz_10, tn_10, vz_11, tn_11, vz_12, tn_12, vz_13, tn_13, vz_14, tn_14, vz_15, tn_15, vz_160, tn_160, vz_161, tn_161, vz_162, tn_162, vz_163, tn_163, vz_164, tn_164, vs_0, vs_1, vs_2, vs_3, vs_4, vs_5, run_s, run_e, run_0, true_and, and_true, and_self, or_true, true_or, or_false, false_or, List.length_cons, List.length_nil, Option.toList_some, Option.toList_none, List.cons_append, List.nil_append, isI_t, isJ_t, isA_t, vI_t, nI32_t, isF_t, gF_t, sF_t, isO_t, isP_t, isP0_t, gE_t, sE_t, isR_t, gO_t, sO_t, isS_t, vS_t, isSc_t, nSc_t, pok_i, pok_o, pok_a, pok_0, pok_1, ret_i, ret_0, ret_1, ret_v, clr_i, clr_j, clr_r, clr_n, cat_i, cat_r, kk0, kk1, kk2, eq_self, Nat.reduceEqDiff, Nat.reduceLeDiff, Nat.reduceAdd, Nat.reduceLT, Nat.reduceSub, Nat.reduceMul, forall_const, imp_false, not_true_eq_false, not_false_eq_true, false_imp_iff, Nat.zero_ne_one, Nat.one_ne_zero, Bool.false_eq_true, reduceCtorEq, ne_eq, Nat.add_zero, Nat.reduceBEq, Bool.or_false, Bool.or_true, Bool.false_or, Bool.true_or, or_self, entL, List.flatMap_cons, List.flatMap_nil, List.reduceReplicate, ↓reduceIte, cat_j, lg_0, lg_1, lg_2, lg_3, lg_4, lg_5, lg_6, lg_7, lg_8, lg_9, lg_10, ls_0, ls_1, ls_2, ls_3, ls_4, ls_5, ls_6, ls_7, ls_8, ls_9, ls_10, st_0, st_1, st_2, st_3, st_4, st_5, st_6, nI_2, nI_3, x0, a0, v1, c1]
  refine call0 ((P_restore hI _).mono fun r w1 hr => ?_)
  obtain ⟨v, rfl, ⟨k1, fs, k2⟩, hT⟩ := hr
  refine go_ok hJ (fun _ => false) 60 ?_
  simp -implicitDefEqProofs only [e_L_715, s_aload_n, e_L_716, e_L_717, s_iload_n, e_L_718, s_iconst, e_L_719, s_iadd, e_L_720, s_iaload, e_L_721, s_invokevirtual, rM_8_111, iv4_2, hc_104, i1_0, up_n, ret_b, bI_0, pk_us, pk_un, up_e, up_up, Decidable.not_not, nI_1, Int32.add_zero, Int32.zero_add, vz_0, tn_0, vz_1, tn_1, vz_2, tn_2, vz_3, tn_3, vz_4, tn_4, vz_5, tn_5, vz_6, tn_6, vz_7, tn_7, vz_8, tn_8, vz_9, tn_9, vz_10, tn_10, vz_11, tn_11, vz_12, tn_12, vz_13, tn_13, vz_14, tn_14, vz_15, tn_15, vz_160, tn_160, vz_161, tn_161, vz_162, tn_162, vz_163, tn_163, vz_164, tn_164, vs_0, vs_1, vs_2, vs_3, vs_4, vs_5, run_s, run_e, run_0, true_and, and_true, and_self, or_true, true_or, or_false, false_or, List.length_cons, List.length_nil, Option.toList_some, Option.toList_none, List.cons_append, List.nil_append, isI_t, isJ_t, isA_t, vI_t, nI32_t, isF_t, gF_t, sF_t, isO_t, isP_t, isP0_t, gE_t, sE_t, isR_t, gO_t, sO_t, isS_t, vS_t, isSc_t, nSc_t, pok_i, pok_o, pok_a, pok_0, pok_1, ret_i, ret_0, ret_1, ret_v, clr_i, clr_j, clr_r, clr_n, cat_i, cat_r, kk0, kk1, kk2, eq_self, Nat.reduceEqDiff, Nat.reduceLeDiff, Nat.reduceAdd, Nat.reduceLT, Nat.reduceSub, Nat.reduceMul, forall_const, imp_false, not_true_eq_false, not_false_eq_true, false_imp_iff, Nat.zero_ne_one, Nat.one_ne_zero, Bool.false_eq_true, reduceCtorEq, ne_eq, Nat.add_zero, Nat.reduceBEq, Bool.or_false, Bool.or_true, Bool.false_or, Bool.true_or, or_self, entL, List.flatMap_cons, List.flatMap_nil, List.reduceReplicate, ↓reduceIte, cat_j, lg_0, lg_1, lg_2, lg_3, lg_4, lg_5, lg_6, lg_7, lg_8, lg_9, lg_10, ls_0, ls_1, ls_2, ls_3, ls_4, ls_5, ls_6, ls_7, ls_8, ls_9, ls_10, st_0, st_1, st_2, st_3, st_4, st_5, st_6, nI_2, nI_3, k1, k2, v1, c1]
  refine call0 (hT.mono fun r w2 hr => ?_)
  obtain ⟨rfl, hI2⟩ := hr
  refine go_ok hJ (fun p => p == 729) 60 ?_
  simp -implicitDefEqProofs only [e_L_724, s_icmp_eq, e_L_727, s_iconst, e_L_728, s_ireturn, i1_0, up_n, ret_b, bI_0, pk_us, pk_un, up_e, up_up, Decidable.not_not, nI_1, Int32.add_zero, Int32.zero_add, vz_0, tn_0, vz_1, tn_1, vz_2, tn_2, vz_3, tn_3, vz_4, tn_4, vz_5, tn_5, vz_6, tn_6, vz_7, tn_7, vz_8, tn_8, vz_9, tn_9, vz_10, tn_10, vz_11, tn_11, vz_12, tn_12, vz_13, tn_13, vz_14, tn_14, vz_15, tn_15, vz_160, tn_160, vz_161, tn_161, vz_162, tn_162, vz_163, tn_163, vz_164, tn_164, vs_0, vs_1, vs_2, vs_3, vs_4, vs_5, run_s, run_e, run_0, true_and, and_true, and_self, or_true, true_or, or_false, false_or, List.length_cons, List.length_nil, Option.toList_some, Option.toList_none, List.cons_append, List.nil_append, isI_t, isJ_t, isA_t, vI_t, nI32_t, isF_t, gF_t, sF_t, isO_t, isP_t, isP0_t, gE_t, sE_t, isR_t, gO_t, sO_t, isS_t, vS_t, isSc_t, nSc_t, pok_i, pok_o, pok_a, pok_0, pok_1, ret_i, ret_0, ret_1, ret_v, clr_i, clr_j, clr_r, clr_n, cat_i, cat_r, kk0, kk1, kk2, eq_self, Nat.reduceEqDiff, Nat.reduceLeDiff, Nat.reduceAdd, Nat.reduceLT, Nat.reduceSub, Nat.reduceMul, forall_const, imp_false, not_true_eq_false, not_false_eq_true, false_imp_iff, Nat.zero_ne_one, Nat.one_ne_zero, Bool.false_eq_true, reduceCtorEq, ne_eq, Nat.add_zero, Nat.reduceBEq, Bool.or_false, Bool.or_true, Bool.false_or, Bool.true_or, or_self, entL, List.flatMap_cons, List.flatMap_nil, List.reduceReplicate, ↓reduceIte, cat_j, lg_0, lg_1, lg_2, lg_3, lg_4, lg_5, lg_6, lg_7, lg_8, lg_9, lg_10, ls_0, ls_1, ls_2, ls_3, ls_4, ls_5, ls_6, ls_7, ls_8, ls_9, ls_10, st_0, st_1, st_2, st_3, st_4, st_5, st_6, nI_2, nI_3]
  exact he w2 hI2
end LAW
