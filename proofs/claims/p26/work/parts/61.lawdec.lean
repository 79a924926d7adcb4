/-! the law's entry decoded -/
theorem e_99_0 : dec code 0 = some (.new 15, 3, 0, 0) := by decide +kernel
theorem e_99_3 : dec code 3 = some (.dup, 4, 0, 0) := by decide +kernel
theorem e_99_4 : dec code 4 = some (.invokespecial 97, 7, 0, 0) := by decide +kernel
theorem e_99_7 : dec code 7 = some (.astore_n 1, 8, 1, 0) := by decide +kernel
theorem e_99_8 : dec code 8 = some (.aload_n 1, 9, 1, 0) := by decide +kernel
theorem e_99_9 : dec code 9 = some (.invokevirtual 98, 12, 0, 0) := by decide +kernel
theorem e_99_12 : dec code 12 = some (.bipush (-5), 14, 0, (-5)) := by decide +kernel
theorem e_99_14 : dec code 14 = some (.if_icmp .ne 114, 17, 128, 0) := by decide +kernel
theorem e_99_17 : dec code 17 = some (.aload_n 1, 18, 1, 0) := by decide +kernel
theorem e_99_18 : dec code 18 = some (.iconst 0, 19, 0, 0) := by decide +kernel
theorem e_99_19 : dec code 19 = some (.invokevirtual 74, 22, 0, 0) := by decide +kernel
theorem e_99_22 : dec code 22 = some (.bipush (-5), 24, 0, (-5)) := by decide +kernel
theorem e_99_24 : dec code 24 = some (.if_icmp .ne 104, 27, 128, 0) := by decide +kernel
theorem e_99_27 : dec code 27 = some (.aload_n 1, 28, 1, 0) := by decide +kernel
theorem e_99_28 : dec code 28 = some (.iconst 1, 29, 0, 1) := by decide +kernel
theorem e_99_29 : dec code 29 = some (.invokevirtual 74, 32, 0, 0) := by decide +kernel
theorem e_99_32 : dec code 32 = some (.bipush (-5), 34, 0, (-5)) := by decide +kernel
theorem e_99_34 : dec code 34 = some (.if_icmp .ne 94, 37, 128, 0) := by decide +kernel
theorem e_99_37 : dec code 37 = some (.aload_n 1, 38, 1, 0) := by decide +kernel
theorem e_99_38 : dec code 38 = some (.bipush 12, 40, 0, 12) := by decide +kernel
theorem e_99_40 : dec code 40 = some (.invokevirtual 14, 43, 0, 0) := by decide +kernel
theorem e_99_43 : dec code 43 = some (.iconst 2, 44, 0, 2) := by decide +kernel
theorem e_99_44 : dec code 44 = some (.if_icmp .ne 84, 47, 128, 0) := by decide +kernel
theorem e_99_47 : dec code 47 = some (.aload_n 1, 48, 1, 0) := by decide +kernel
theorem e_99_48 : dec code 48 = some (.bipush 13, 50, 0, 13) := by decide +kernel
theorem e_99_50 : dec code 50 = some (.invokevirtual 14, 53, 0, 0) := by decide +kernel
theorem e_99_53 : dec code 53 = some (.bipush 20, 55, 0, 20) := by decide +kernel
theorem e_99_55 : dec code 55 = some (.if_icmp .ne 73, 58, 128, 0) := by decide +kernel
theorem e_99_58 : dec code 58 = some (.aload_n 1, 59, 1, 0) := by decide +kernel
theorem e_99_59 : dec code 59 = some (.bipush 14, 61, 0, 14) := by decide +kernel
theorem e_99_61 : dec code 61 = some (.invokevirtual 14, 64, 0, 0) := by decide +kernel
theorem e_99_64 : dec code 64 = some (.bipush 12, 66, 0, 12) := by decide +kernel
theorem e_99_66 : dec code 66 = some (.if_icmp .ne 62, 69, 128, 0) := by decide +kernel
theorem e_99_69 : dec code 69 = some (.aload_n 1, 70, 1, 0) := by decide +kernel
theorem e_99_70 : dec code 70 = some (.bipush 15, 72, 0, 15) := by decide +kernel
theorem e_99_72 : dec code 72 = some (.invokevirtual 14, 75, 0, 0) := by decide +kernel
theorem e_99_75 : dec code 75 = some (.bipush 45, 77, 0, 45) := by decide +kernel
theorem e_99_77 : dec code 77 = some (.if_icmp .ne 51, 80, 128, 0) := by decide +kernel
theorem e_99_80 : dec code 80 = some (.aload_n 1, 81, 1, 0) := by decide +kernel
theorem e_99_81 : dec code 81 = some (.bipush 16, 83, 0, 16) := by decide +kernel
theorem e_99_83 : dec code 83 = some (.invokevirtual 14, 86, 0, 0) := by decide +kernel
theorem e_99_86 : dec code 86 = some (.iconst 3, 87, 0, 3) := by decide +kernel
theorem e_99_87 : dec code 87 = some (.if_icmp .ne 41, 90, 128, 0) := by decide +kernel
theorem e_99_90 : dec code 90 = some (.aload_n 1, 91, 1, 0) := by decide +kernel
theorem e_99_91 : dec code 91 = some (.bipush 17, 93, 0, 17) := by decide +kernel
theorem e_99_93 : dec code 93 = some (.invokevirtual 14, 96, 0, 0) := by decide +kernel
theorem e_99_96 : dec code 96 = some (.iconst 2, 97, 0, 2) := by decide +kernel
theorem e_99_97 : dec code 97 = some (.if_icmp .ne 31, 100, 128, 0) := by decide +kernel
theorem e_99_100 : dec code 100 = some (.aload_n 1, 101, 1, 0) := by decide +kernel
theorem e_99_101 : dec code 101 = some (.iconst 0, 102, 0, 0) := by decide +kernel
theorem e_99_102 : dec code 102 = some (.invokestatic 101, 105, 0, 0) := by decide +kernel
theorem e_99_105 : dec code 105 = some (.ifCond .eq 23, 108, 128, 0) := by decide +kernel
theorem e_99_108 : dec code 108 = some (.aload_n 1, 109, 1, 0) := by decide +kernel
theorem e_99_109 : dec code 109 = some (.iconst 1, 110, 0, 1) := by decide +kernel
theorem e_99_110 : dec code 110 = some (.invokestatic 101, 113, 0, 0) := by decide +kernel
theorem e_99_113 : dec code 113 = some (.ifCond .eq 15, 116, 128, 0) := by decide +kernel
theorem e_99_116 : dec code 116 = some (.aload_n 1, 117, 1, 0) := by decide +kernel
theorem e_99_117 : dec code 117 = some (.iconst 1, 118, 0, 1) := by decide +kernel
theorem e_99_118 : dec code 118 = some (.invokevirtual 71, 121, 0, 0) := by decide +kernel
theorem e_99_121 : dec code 121 = some (.ifCond .ne 7, 124, 128, 0) := by decide +kernel
theorem e_99_124 : dec code 124 = some (.iconst 1, 125, 0, 1) := by decide +kernel
theorem e_99_125 : dec code 125 = some (.goto 4, 128, 129, 0) := by decide +kernel
theorem e_99_128 : dec code 128 = some (.iconst 0, 129, 0, 0) := by decide +kernel
theorem e_99_129 : dec code 129 = some (.istore_n 2, 130, 2, 0) := by decide +kernel
theorem e_99_130 : dec code 130 = some (.iconst 0, 131, 0, 0) := by decide +kernel
theorem e_99_131 : dec code 131 = some (.istore_n 3, 132, 3, 0) := by decide +kernel
theorem e_99_132 : dec code 132 = some (.iload_n 3, 133, 3, 0) := by decide +kernel
theorem e_99_133 : dec code 133 = some (.bipush 70, 135, 0, 70) := by decide +kernel
theorem e_99_135 : dec code 135 = some (.if_icmp .ge 242, 138, 377, 0) := by decide +kernel
theorem e_99_138 : dec code 138 = some (.iload_n 2, 139, 2, 0) := by decide +kernel
theorem e_99_139 : dec code 139 = some (.ifCond .eq 238, 142, 377, 0) := by decide +kernel
theorem e_99_142 : dec code 142 = some (.aload_n 0, 143, 0, 0) := by decide +kernel
theorem e_99_143 : dec code 143 = some (.iload_n 3, 144, 3, 0) := by decide +kernel
theorem e_99_144 : dec code 144 = some (.invokestatic 104, 147, 0, 0) := by decide +kernel
theorem e_99_147 : dec code 147 = some (.istore 4, 149, 4, 0) := by decide +kernel
theorem e_99_149 : dec code 149 = some (.aload_n 1, 150, 1, 0) := by decide +kernel
theorem e_99_150 : dec code 150 = some (.invokestatic 86, 153, 0, 0) := by decide +kernel
theorem e_99_153 : dec code 153 = some (.lstore 5, 155, 5, 0) := by decide +kernel
theorem e_99_155 : dec code 155 = some (.aload_n 1, 156, 1, 0) := by decide +kernel
theorem e_99_156 : dec code 156 = some (.bipush 19, 158, 0, 19) := by decide +kernel
theorem e_99_158 : dec code 158 = some (.invokevirtual 14, 161, 0, 0) := by decide +kernel
theorem e_99_161 : dec code 161 = some (.istore 7, 163, 7, 0) := by decide +kernel
theorem e_99_163 : dec code 163 = some (.aload_n 1, 164, 1, 0) := by decide +kernel
theorem e_99_164 : dec code 164 = some (.iload 4, 166, 4, 0) := by decide +kernel
theorem e_99_166 : dec code 166 = some (.invokestatic 108, 169, 0, 0) := by decide +kernel
theorem e_99_169 : dec code 169 = some (.istore 8, 171, 8, 0) := by decide +kernel
theorem e_99_171 : dec code 171 = some (.aload_n 1, 172, 1, 0) := by decide +kernel
theorem e_99_172 : dec code 172 = some (.bipush 19, 174, 0, 19) := by decide +kernel
theorem e_99_174 : dec code 174 = some (.invokevirtual 14, 177, 0, 0) := by decide +kernel
theorem e_99_177 : dec code 177 = some (.istore 9, 179, 9, 0) := by decide +kernel
theorem e_99_179 : dec code 179 = some (.iload 8, 181, 8, 0) := by decide +kernel
theorem e_99_181 : dec code 181 = some (.ifCond .lt 94, 184, 275, 0) := by decide +kernel
theorem e_99_184 : dec code 184 = some (.iload 8, 186, 8, 0) := by decide +kernel
theorem e_99_186 : dec code 186 = some (.ifCond .ne 23, 189, 209, 0) := by decide +kernel
theorem e_99_189 : dec code 189 = some (.iload 9, 191, 9, 0) := by decide +kernel
theorem e_99_191 : dec code 191 = some (.iload 7, 193, 7, 0) := by decide +kernel
theorem e_99_193 : dec code 193 = some (.if_icmp .ne 82, 196, 275, 0) := by decide +kernel
theorem e_99_196 : dec code 196 = some (.aload_n 1, 197, 1, 0) := by decide +kernel
theorem e_99_197 : dec code 197 = some (.invokestatic 86, 200, 0, 0) := by decide +kernel
theorem e_99_200 : dec code 200 = some (.lload 5, 202, 5, 0) := by decide +kernel
theorem e_99_202 : dec code 202 = some (.lcmp, 203, 0, 0) := by decide +kernel
theorem e_99_203 : dec code 203 = some (.ifCond .ne 72, 206, 275, 0) := by decide +kernel
theorem e_99_206 : dec code 206 = some (.goto 24, 209, 230, 0) := by decide +kernel
theorem e_99_209 : dec code 209 = some (.iload 9, 211, 9, 0) := by decide +kernel
theorem e_99_211 : dec code 211 = some (.iload 7, 213, 7, 0) := by decide +kernel
theorem e_99_213 : dec code 213 = some (.bipush 6, 215, 0, 6) := by decide +kernel
theorem e_99_215 : dec code 215 = some (.if_icmp .ge 10, 218, 225, 0) := by decide +kernel
theorem e_99_218 : dec code 218 = some (.iload 7, 220, 7, 0) := by decide +kernel
theorem e_99_220 : dec code 220 = some (.iconst 1, 221, 0, 1) := by decide +kernel
theorem e_99_221 : dec code 221 = some (.iadd, 222, 0, 0) := by decide +kernel
theorem e_99_222 : dec code 222 = some (.goto 5, 225, 227, 0) := by decide +kernel
theorem e_99_225 : dec code 225 = some (.bipush 6, 227, 0, 6) := by decide +kernel
theorem e_99_227 : dec code 227 = some (.if_icmp .ne 48, 230, 275, 0) := by decide +kernel
theorem e_99_230 : dec code 230 = some (.aload_n 1, 231, 1, 0) := by decide +kernel
theorem e_99_231 : dec code 231 = some (.invokestatic 112, 234, 0, 0) := by decide +kernel
theorem e_99_234 : dec code 234 = some (.ifCond .eq 41, 237, 275, 0) := by decide +kernel
theorem e_99_237 : dec code 237 = some (.iload_n 3, 238, 3, 0) := by decide +kernel
theorem e_99_238 : dec code 238 = some (.iconst 2, 239, 0, 2) := by decide +kernel
theorem e_99_239 : dec code 239 = some (.irem, 240, 0, 0) := by decide +kernel
theorem e_99_240 : dec code 240 = some (.ifCond .eq 10, 243, 250, 0) := by decide +kernel
theorem e_99_243 : dec code 243 = some (.aload_n 1, 244, 1, 0) := by decide +kernel
theorem e_99_244 : dec code 244 = some (.invokestatic 116, 247, 0, 0) := by decide +kernel
theorem e_99_247 : dec code 247 = some (.ifCond .eq 28, 250, 275, 0) := by decide +kernel
theorem e_99_250 : dec code 250 = some (.iload_n 3, 251, 3, 0) := by decide +kernel
theorem e_99_251 : dec code 251 = some (.bipush 7, 253, 0, 7) := by decide +kernel
theorem e_99_253 : dec code 253 = some (.irem, 254, 0, 0) := by decide +kernel
theorem e_99_254 : dec code 254 = some (.bipush 6, 256, 0, 6) := by decide +kernel
theorem e_99_256 : dec code 256 = some (.if_icmp .ne 15, 259, 271, 0) := by decide +kernel
theorem e_99_259 : dec code 259 = some (.aload_n 1, 260, 1, 0) := by decide +kernel
theorem e_99_260 : dec code 260 = some (.iload 4, 262, 4, 0) := by decide +kernel
theorem e_99_262 : dec code 262 = some (.bipush 7, 264, 0, 7) := by decide +kernel
theorem e_99_264 : dec code 264 = some (.idiv, 265, 0, 0) := by decide +kernel
theorem e_99_265 : dec code 265 = some (.invokestatic 101, 268, 0, 0) := by decide +kernel
theorem e_99_268 : dec code 268 = some (.ifCond .eq 7, 271, 275, 0) := by decide +kernel
theorem e_99_271 : dec code 271 = some (.iconst 1, 272, 0, 1) := by decide +kernel
theorem e_99_272 : dec code 272 = some (.goto 4, 275, 276, 0) := by decide +kernel
theorem e_99_275 : dec code 275 = some (.iconst 0, 276, 0, 0) := by decide +kernel
theorem e_99_276 : dec code 276 = some (.istore_n 2, 277, 2, 0) := by decide +kernel
theorem e_99_277 : dec code 277 = some (.iload_n 2, 278, 2, 0) := by decide +kernel
theorem e_99_278 : dec code 278 = some (.ifCond .eq 93, 281, 371, 0) := by decide +kernel
theorem e_99_281 : dec code 281 = some (.iload 8, 283, 8, 0) := by decide +kernel
theorem e_99_283 : dec code 283 = some (.iconst 1, 284, 0, 1) := by decide +kernel
theorem e_99_284 : dec code 284 = some (.if_icmp .ne 87, 287, 371, 0) := by decide +kernel
theorem e_99_287 : dec code 287 = some (.iload 4, 289, 4, 0) := by decide +kernel
theorem e_99_289 : dec code 289 = some (.bipush 17, 291, 0, 17) := by decide +kernel
theorem e_99_291 : dec code 291 = some (.idiv, 292, 0, 0) := by decide +kernel
theorem e_99_292 : dec code 292 = some (.iconst 4, 293, 0, 4) := by decide +kernel
theorem e_99_293 : dec code 293 = some (.irem, 294, 0, 0) := by decide +kernel
theorem e_99_294 : dec code 294 = some (.ifCond .ne 77, 297, 371, 0) := by decide +kernel
theorem e_99_297 : dec code 297 = some (.aload_n 1, 298, 1, 0) := by decide +kernel
theorem e_99_298 : dec code 298 = some (.invokestatic 86, 301, 0, 0) := by decide +kernel
theorem e_99_301 : dec code 301 = some (.lstore 10, 303, 10, 0) := by decide +kernel
theorem e_99_303 : dec code 303 = some (.aload_n 1, 304, 1, 0) := by decide +kernel
theorem e_99_304 : dec code 304 = some (.iconst 0, 305, 0, 0) := by decide +kernel
theorem e_99_305 : dec code 305 = some (.invokevirtual 71, 308, 0, 0) := by decide +kernel
theorem e_99_308 : dec code 308 = some (.istore 12, 310, 12, 0) := by decide +kernel
theorem e_99_310 : dec code 310 = some (.iload 12, 312, 12, 0) := by decide +kernel
theorem e_99_312 : dec code 312 = some (.ifCond .lt 57, 315, 369, 0) := by decide +kernel
theorem e_99_315 : dec code 315 = some (.aload_n 1, 316, 1, 0) := by decide +kernel
theorem e_99_316 : dec code 316 = some (.invokevirtual 98, 319, 0, 0) := by decide +kernel
theorem e_99_319 : dec code 319 = some (.iload 7, 321, 7, 0) := by decide +kernel
theorem e_99_321 : dec code 321 = some (.bipush 6, 323, 0, 6) := by decide +kernel
theorem e_99_323 : dec code 323 = some (.if_icmp .ge 8, 326, 331, 0) := by decide +kernel
theorem e_99_326 : dec code 326 = some (.iload 7, 328, 7, 0) := by decide +kernel
theorem e_99_328 : dec code 328 = some (.goto 4, 331, 332, 0) := by decide +kernel
theorem e_99_331 : dec code 331 = some (.iconst 5, 332, 0, 5) := by decide +kernel
theorem e_99_332 : dec code 332 = some (.if_icmp .ne 37, 335, 369, 0) := by decide +kernel
theorem e_99_335 : dec code 335 = some (.aload_n 1, 336, 1, 0) := by decide +kernel
theorem e_99_336 : dec code 336 = some (.invokestatic 86, 339, 0, 0) := by decide +kernel
theorem e_99_339 : dec code 339 = some (.lload 5, 341, 5, 0) := by decide +kernel
theorem e_99_341 : dec code 341 = some (.lcmp, 342, 0, 0) := by decide +kernel
theorem e_99_342 : dec code 342 = some (.ifCond .ne 27, 345, 369, 0) := by decide +kernel
theorem e_99_345 : dec code 345 = some (.aload_n 1, 346, 1, 0) := by decide +kernel
theorem e_99_346 : dec code 346 = some (.iconst 0, 347, 0, 0) := by decide +kernel
theorem e_99_347 : dec code 347 = some (.invokevirtual 74, 350, 0, 0) := by decide +kernel
theorem e_99_350 : dec code 350 = some (.iload 12, 352, 12, 0) := by decide +kernel
theorem e_99_352 : dec code 352 = some (.if_icmp .ne 17, 355, 369, 0) := by decide +kernel
theorem e_99_355 : dec code 355 = some (.aload_n 1, 356, 1, 0) := by decide +kernel
theorem e_99_356 : dec code 356 = some (.invokestatic 86, 359, 0, 0) := by decide +kernel
theorem e_99_359 : dec code 359 = some (.lload 10, 361, 10, 0) := by decide +kernel
theorem e_99_361 : dec code 361 = some (.lcmp, 362, 0, 0) := by decide +kernel
theorem e_99_362 : dec code 362 = some (.ifCond .ne 7, 365, 369, 0) := by decide +kernel
theorem e_99_365 : dec code 365 = some (.iconst 1, 366, 0, 1) := by decide +kernel
theorem e_99_366 : dec code 366 = some (.goto 4, 369, 370, 0) := by decide +kernel
theorem e_99_369 : dec code 369 = some (.iconst 0, 370, 0, 0) := by decide +kernel
theorem e_99_370 : dec code 370 = some (.istore_n 2, 371, 2, 0) := by decide +kernel
theorem e_99_371 : dec code 371 = some (.iinc 3 1, 374, 3, 1) := by decide +kernel
theorem e_99_374 : dec code 374 = some (.goto (-242), 377, 132, 0) := by decide +kernel
theorem e_99_377 : dec code 377 = some (.iload_n 2, 378, 2, 0) := by decide +kernel
theorem e_99_378 : dec code 378 = some (.ifCond .eq 37, 381, 415, 0) := by decide +kernel
theorem e_99_381 : dec code 381 = some (.aload_n 1, 382, 1, 0) := by decide +kernel
theorem e_99_382 : dec code 382 = some (.iconst 1, 383, 0, 1) := by decide +kernel
theorem e_99_383 : dec code 383 = some (.invokevirtual 74, 386, 0, 0) := by decide +kernel
theorem e_99_386 : dec code 386 = some (.ifCond .ne 29, 389, 415, 0) := by decide +kernel
theorem e_99_389 : dec code 389 = some (.aload_n 1, 390, 1, 0) := by decide +kernel
theorem e_99_390 : dec code 390 = some (.iconst 3, 391, 0, 3) := by decide +kernel
theorem e_99_391 : dec code 391 = some (.invokevirtual 14, 394, 0, 0) := by decide +kernel
theorem e_99_394 : dec code 394 = some (.ifCond .ne 21, 397, 415, 0) := by decide +kernel
theorem e_99_397 : dec code 397 = some (.aload_n 1, 398, 1, 0) := by decide +kernel
theorem e_99_398 : dec code 398 = some (.invokevirtual 98, 401, 0, 0) := by decide +kernel
theorem e_99_401 : dec code 401 = some (.ifCond .lt 14, 404, 415, 0) := by decide +kernel
theorem e_99_404 : dec code 404 = some (.aload_n 1, 405, 1, 0) := by decide +kernel
theorem e_99_405 : dec code 405 = some (.invokestatic 116, 408, 0, 0) := by decide +kernel
theorem e_99_408 : dec code 408 = some (.ifCond .eq 7, 411, 415, 0) := by decide +kernel
theorem e_99_411 : dec code 411 = some (.iconst 1, 412, 0, 1) := by decide +kernel
theorem e_99_412 : dec code 412 = some (.goto 4, 415, 416, 0) := by decide +kernel
theorem e_99_415 : dec code 415 = some (.iconst 0, 416, 0, 0) := by decide +kernel
theorem e_99_416 : dec code 416 = some (.ireturn, 417, 0, 0) := by decide +kernel
