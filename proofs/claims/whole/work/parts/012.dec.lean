theorem dX12_init_0 : decode cX12_init 0 = .ok (.aload_n 0, 1) := by decide +kernel
theorem dX12_init_1 : decode cX12_init 1 = .ok (.invokespecial 1, 3) := by decide +kernel
theorem dX12_init_4 : decode cX12_init 4 = .ok (.aload_n 0, 1) := by decide +kernel
theorem dX12_init_5 : decode cX12_init 5 = .ok (.sipush 469, 3) := by decide +kernel
theorem dX12_init_8 : decode cX12_init 8 = .ok (.newarray .int, 2) := by decide +kernel
theorem dX12_init_10 : decode cX12_init 10 = .ok (.putfield 7, 3) := by decide +kernel
theorem dX12_init_13 : decode cX12_init 13 = .ok (.aload_n 0, 1) := by decide +kernel
theorem dX12_init_14 : decode cX12_init 14 = .ok (.sipush 469, 3) := by decide +kernel
theorem dX12_init_17 : decode cX12_init 17 = .ok (.newarray .int, 2) := by decide +kernel
theorem dX12_init_19 : decode cX12_init 19 = .ok (.putfield 13, 3) := by decide +kernel
theorem dX12_init_22 : decode cX12_init 22 = .ok (.aload_n 0, 1) := by decide +kernel
theorem dX12_init_23 : decode cX12_init 23 = .ok (.sipush 938, 3) := by decide +kernel
theorem dX12_init_26 : decode cX12_init 26 = .ok (.newarray .int, 2) := by decide +kernel
theorem dX12_init_28 : decode cX12_init 28 = .ok (.putfield 16, 3) := by decide +kernel
theorem dX12_init_31 : decode cX12_init 31 = .ok (.aload_n 0, 1) := by decide +kernel
theorem dX12_init_32 : decode cX12_init 32 = .ok (.iconst 2, 1) := by decide +kernel
theorem dX12_init_33 : decode cX12_init 33 = .ok (.newarray .boolean, 2) := by decide +kernel
theorem dX12_init_35 : decode cX12_init 35 = .ok (.putfield 19, 3) := by decide +kernel
theorem dX12_init_38 : decode cX12_init 38 = .ok (.aload_n 0, 1) := by decide +kernel
theorem dX12_init_39 : decode cX12_init 39 = .ok (.bipush 126, 2) := by decide +kernel
theorem dX12_init_41 : decode cX12_init 41 = .ok (.newarray .boolean, 2) := by decide +kernel
theorem dX12_init_43 : decode cX12_init 43 = .ok (.putfield 23, 3) := by decide +kernel
theorem dX12_init_46 : decode cX12_init 46 = .ok (.aload_n 0, 1) := by decide +kernel
theorem dX12_init_47 : decode cX12_init 47 = .ok (.bipush 24, 2) := by decide +kernel
theorem dX12_init_49 : decode cX12_init 49 = .ok (.newarray .boolean, 2) := by decide +kernel
theorem dX12_init_51 : decode cX12_init 51 = .ok (.putfield 26, 3) := by decide +kernel
theorem dX12_init_54 : decode cX12_init 54 = .ok (.aload_n 0, 1) := by decide +kernel
theorem dX12_init_55 : decode cX12_init 55 = .ok (.bipush 6, 2) := by decide +kernel
theorem dX12_init_57 : decode cX12_init 57 = .ok (.newarray .int, 2) := by decide +kernel
theorem dX12_init_59 : decode cX12_init 59 = .ok (.putfield 29, 3) := by decide +kernel
theorem dX12_init_62 : decode cX12_init 62 = .ok (.aload_n 0, 1) := by decide +kernel
theorem dX12_init_63 : decode cX12_init 63 = .ok (.bipush 24, 2) := by decide +kernel
theorem dX12_init_65 : decode cX12_init 65 = .ok (.newarray .int, 2) := by decide +kernel
theorem dX12_init_67 : decode cX12_init 67 = .ok (.putfield 32, 3) := by decide +kernel
theorem dX12_init_70 : decode cX12_init 70 = .ok (.aload_n 0, 1) := by decide +kernel
theorem dX12_init_71 : decode cX12_init 71 = .ok (.bipush 24, 2) := by decide +kernel
theorem dX12_init_73 : decode cX12_init 73 = .ok (.newarray .int, 2) := by decide +kernel
theorem dX12_init_75 : decode cX12_init 75 = .ok (.putfield 35, 3) := by decide +kernel
theorem dX12_init_78 : decode cX12_init 78 = .ok (.aload_n 0, 1) := by decide +kernel
theorem dX12_init_79 : decode cX12_init 79 = .ok (.bipush 8, 2) := by decide +kernel
theorem dX12_init_81 : decode cX12_init 81 = .ok (.newarray .int, 2) := by decide +kernel
theorem dX12_init_83 : decode cX12_init 83 = .ok (.putfield 38, 3) := by decide +kernel
theorem dX12_init_86 : decode cX12_init 86 = .ok (.aload_n 0, 1) := by decide +kernel
theorem dX12_init_87 : decode cX12_init 87 = .ok (.bipush 24, 2) := by decide +kernel
theorem dX12_init_89 : decode cX12_init 89 = .ok (.newarray .int, 2) := by decide +kernel
theorem dX12_init_91 : decode cX12_init 91 = .ok (.putfield 41, 3) := by decide +kernel
theorem dX12_init_94 : decode cX12_init 94 = .ok (.aload_n 0, 1) := by decide +kernel
theorem dX12_init_95 : decode cX12_init 95 = .ok (.bipush 24, 2) := by decide +kernel
theorem dX12_init_97 : decode cX12_init 97 = .ok (.newarray .int, 2) := by decide +kernel
theorem dX12_init_99 : decode cX12_init 99 = .ok (.putfield 44, 3) := by decide +kernel
theorem dX12_init_102 : decode cX12_init 102 = .ok (.aload_n 0, 1) := by decide +kernel
theorem dX12_init_103 : decode cX12_init 103 = .ok (.bipush 8, 2) := by decide +kernel
theorem dX12_init_105 : decode cX12_init 105 = .ok (.newarray .int, 2) := by decide +kernel
theorem dX12_init_107 : decode cX12_init 107 = .ok (.putfield 47, 3) := by decide +kernel
theorem dX12_init_110 : decode cX12_init 110 = .ok (.aload_n 0, 1) := by decide +kernel
theorem dX12_init_111 : decode cX12_init 111 = .ok (.bipush 8, 2) := by decide +kernel
theorem dX12_init_113 : decode cX12_init 113 = .ok (.newarray .int, 2) := by decide +kernel
theorem dX12_init_115 : decode cX12_init 115 = .ok (.putfield 50, 3) := by decide +kernel
theorem dX12_init_118 : decode cX12_init 118 = .ok (.aload_n 0, 1) := by decide +kernel
theorem dX12_init_119 : decode cX12_init 119 = .ok (.bipush 8, 2) := by decide +kernel
theorem dX12_init_121 : decode cX12_init 121 = .ok (.newarray .int, 2) := by decide +kernel
theorem dX12_init_123 : decode cX12_init 123 = .ok (.putfield 53, 3) := by decide +kernel
theorem dX12_init_126 : decode cX12_init 126 = .ok (.aload_n 0, 1) := by decide +kernel
theorem dX12_init_127 : decode cX12_init 127 = .ok (.sipush 600, 3) := by decide +kernel
theorem dX12_init_130 : decode cX12_init 130 = .ok (.newarray .byte, 2) := by decide +kernel
theorem dX12_init_132 : decode cX12_init 132 = .ok (.putfield 56, 3) := by decide +kernel
theorem dX12_init_135 : decode cX12_init 135 = .ok (.aload_n 0, 1) := by decide +kernel
theorem dX12_init_136 : decode cX12_init 136 = .ok (.iconst (-1), 1) := by decide +kernel
theorem dX12_init_137 : decode cX12_init 137 = .ok (.putfield 60, 3) := by decide +kernel
theorem dX12_init_140 : decode cX12_init 140 = .ok (.aload_n 0, 1) := by decide +kernel
theorem dX12_init_141 : decode cX12_init 141 = .ok (.bipush 74, 2) := by decide +kernel
theorem dX12_init_143 : decode cX12_init 143 = .ok (.newarray .byte, 2) := by decide +kernel
theorem dX12_init_145 : decode cX12_init 145 = .ok (.dup, 1) := by decide +kernel
theorem dX12_init_146 : decode cX12_init 146 = .ok (.iconst 0, 1) := by decide +kernel
theorem dX12_init_147 : decode cX12_init 147 = .ok (.bipush 104, 2) := by decide +kernel
theorem dX12_init_149 : decode cX12_init 149 = .ok (.bastore, 1) := by decide +kernel
theorem dX12_init_150 : decode cX12_init 150 = .ok (.dup, 1) := by decide +kernel
theorem dX12_init_151 : decode cX12_init 151 = .ok (.iconst 1, 1) := by decide +kernel
theorem dX12_init_152 : decode cX12_init 152 = .ok (.bipush 97, 2) := by decide +kernel
theorem dX12_init_154 : decode cX12_init 154 = .ok (.bastore, 1) := by decide +kernel
theorem dX12_init_155 : decode cX12_init 155 = .ok (.dup, 1) := by decide +kernel
theorem dX12_init_156 : decode cX12_init 156 = .ok (.iconst 2, 1) := by decide +kernel
theorem dX12_init_157 : decode cX12_init 157 = .ok (.bipush 108, 2) := by decide +kernel
theorem dX12_init_159 : decode cX12_init 159 = .ok (.bastore, 1) := by decide +kernel
theorem dX12_init_160 : decode cX12_init 160 = .ok (.dup, 1) := by decide +kernel
theorem dX12_init_161 : decode cX12_init 161 = .ok (.iconst 3, 1) := by decide +kernel
theorem dX12_init_162 : decode cX12_init 162 = .ok (.bipush 108, 2) := by decide +kernel
theorem dX12_init_164 : decode cX12_init 164 = .ok (.bastore, 1) := by decide +kernel
theorem dX12_init_165 : decode cX12_init 165 = .ok (.dup, 1) := by decide +kernel
theorem dX12_init_166 : decode cX12_init 166 = .ok (.iconst 4, 1) := by decide +kernel
theorem dX12_init_167 : decode cX12_init 167 = .ok (.bipush 32, 2) := by decide +kernel
theorem dX12_init_169 : decode cX12_init 169 = .ok (.bastore, 1) := by decide +kernel
theorem dX12_init_170 : decode cX12_init 170 = .ok (.dup, 1) := by decide +kernel
theorem dX12_init_171 : decode cX12_init 171 = .ok (.iconst 5, 1) := by decide +kernel
theorem dX12_init_172 : decode cX12_init 172 = .ok (.bipush 105, 2) := by decide +kernel
theorem dX12_init_174 : decode cX12_init 174 = .ok (.bastore, 1) := by decide +kernel
theorem dX12_init_175 : decode cX12_init 175 = .ok (.dup, 1) := by decide +kernel
theorem dX12_init_176 : decode cX12_init 176 = .ok (.bipush 6, 2) := by decide +kernel
theorem dX12_init_178 : decode cX12_init 178 = .ok (.bipush 116, 2) := by decide +kernel
theorem dX12_init_180 : decode cX12_init 180 = .ok (.bastore, 1) := by decide +kernel
theorem dX12_init_181 : decode cX12_init 181 = .ok (.dup, 1) := by decide +kernel
theorem dX12_init_182 : decode cX12_init 182 = .ok (.bipush 7, 2) := by decide +kernel
theorem dX12_init_184 : decode cX12_init 184 = .ok (.bipush 101, 2) := by decide +kernel
theorem dX12_init_186 : decode cX12_init 186 = .ok (.bastore, 1) := by decide +kernel
theorem dX12_init_187 : decode cX12_init 187 = .ok (.dup, 1) := by decide +kernel
theorem dX12_init_188 : decode cX12_init 188 = .ok (.bipush 8, 2) := by decide +kernel
theorem dX12_init_190 : decode cX12_init 190 = .ok (.bipush 109, 2) := by decide +kernel
theorem dX12_init_192 : decode cX12_init 192 = .ok (.bastore, 1) := by decide +kernel
theorem dX12_init_193 : decode cX12_init 193 = .ok (.dup, 1) := by decide +kernel
theorem dX12_init_194 : decode cX12_init 194 = .ok (.bipush 9, 2) := by decide +kernel
theorem dX12_init_196 : decode cX12_init 196 = .ok (.bipush 32, 2) := by decide +kernel
theorem dX12_init_198 : decode cX12_init 198 = .ok (.bastore, 1) := by decide +kernel
theorem dX12_init_199 : decode cX12_init 199 = .ok (.dup, 1) := by decide +kernel
theorem dX12_init_200 : decode cX12_init 200 = .ok (.bipush 10, 2) := by decide +kernel
theorem dX12_init_202 : decode cX12_init 202 = .ok (.bipush 111, 2) := by decide +kernel
theorem dX12_init_204 : decode cX12_init 204 = .ok (.bastore, 1) := by decide +kernel
theorem dX12_init_205 : decode cX12_init 205 = .ok (.dup, 1) := by decide +kernel
theorem dX12_init_206 : decode cX12_init 206 = .ok (.bipush 11, 2) := by decide +kernel
theorem dX12_init_208 : decode cX12_init 208 = .ok (.bipush 114, 2) := by decide +kernel
theorem dX12_init_210 : decode cX12_init 210 = .ok (.bastore, 1) := by decide +kernel
theorem dX12_init_211 : decode cX12_init 211 = .ok (.dup, 1) := by decide +kernel
theorem dX12_init_212 : decode cX12_init 212 = .ok (.bipush 12, 2) := by decide +kernel
theorem dX12_init_214 : decode cX12_init 214 = .ok (.bipush 100, 2) := by decide +kernel
theorem dX12_init_216 : decode cX12_init 216 = .ok (.bastore, 1) := by decide +kernel
theorem dX12_init_217 : decode cX12_init 217 = .ok (.dup, 1) := by decide +kernel
theorem dX12_init_218 : decode cX12_init 218 = .ok (.bipush 13, 2) := by decide +kernel
theorem dX12_init_220 : decode cX12_init 220 = .ok (.bipush 101, 2) := by decide +kernel
theorem dX12_init_222 : decode cX12_init 222 = .ok (.bastore, 1) := by decide +kernel
theorem dX12_init_223 : decode cX12_init 223 = .ok (.dup, 1) := by decide +kernel
theorem dX12_init_224 : decode cX12_init 224 = .ok (.bipush 14, 2) := by decide +kernel
theorem dX12_init_226 : decode cX12_init 226 = .ok (.bipush 114, 2) := by decide +kernel
theorem dX12_init_228 : decode cX12_init 228 = .ok (.bastore, 1) := by decide +kernel
theorem dX12_init_229 : decode cX12_init 229 = .ok (.dup, 1) := by decide +kernel
theorem dX12_init_230 : decode cX12_init 230 = .ok (.bipush 15, 2) := by decide +kernel
theorem dX12_init_232 : decode cX12_init 232 = .ok (.bipush 32, 2) := by decide +kernel
theorem dX12_init_234 : decode cX12_init 234 = .ok (.bastore, 1) := by decide +kernel
theorem dX12_init_235 : decode cX12_init 235 = .ok (.dup, 1) := by decide +kernel
theorem dX12_init_236 : decode cX12_init 236 = .ok (.bipush 16, 2) := by decide +kernel
theorem dX12_init_238 : decode cX12_init 238 = .ok (.bipush 108, 2) := by decide +kernel
theorem dX12_init_240 : decode cX12_init 240 = .ok (.bastore, 1) := by decide +kernel
theorem dX12_init_241 : decode cX12_init 241 = .ok (.dup, 1) := by decide +kernel
theorem dX12_init_242 : decode cX12_init 242 = .ok (.bipush 17, 2) := by decide +kernel
theorem dX12_init_244 : decode cX12_init 244 = .ok (.bipush 105, 2) := by decide +kernel
theorem dX12_init_246 : decode cX12_init 246 = .ok (.bastore, 1) := by decide +kernel
theorem dX12_init_247 : decode cX12_init 247 = .ok (.dup, 1) := by decide +kernel
theorem dX12_init_248 : decode cX12_init 248 = .ok (.bipush 18, 2) := by decide +kernel
theorem dX12_init_250 : decode cX12_init 250 = .ok (.bipush 110, 2) := by decide +kernel
theorem dX12_init_252 : decode cX12_init 252 = .ok (.bastore, 1) := by decide +kernel
theorem dX12_init_253 : decode cX12_init 253 = .ok (.dup, 1) := by decide +kernel
theorem dX12_init_254 : decode cX12_init 254 = .ok (.bipush 19, 2) := by decide +kernel
theorem dX12_init_256 : decode cX12_init 256 = .ok (.bipush 101, 2) := by decide +kernel
theorem dX12_init_258 : decode cX12_init 258 = .ok (.bastore, 1) := by decide +kernel
theorem dX12_init_259 : decode cX12_init 259 = .ok (.dup, 1) := by decide +kernel
theorem dX12_init_260 : decode cX12_init 260 = .ok (.bipush 20, 2) := by decide +kernel
theorem dX12_init_262 : decode cX12_init 262 = .ok (.bipush 32, 2) := by decide +kernel
theorem dX12_init_264 : decode cX12_init 264 = .ok (.bastore, 1) := by decide +kernel
theorem dX12_init_265 : decode cX12_init 265 = .ok (.dup, 1) := by decide +kernel
theorem dX12_init_266 : decode cX12_init 266 = .ok (.bipush 21, 2) := by decide +kernel
theorem dX12_init_268 : decode cX12_init 268 = .ok (.bipush 122, 2) := by decide +kernel
theorem dX12_init_270 : decode cX12_init 270 = .ok (.bastore, 1) := by decide +kernel
theorem dX12_init_271 : decode cX12_init 271 = .ok (.dup, 1) := by decide +kernel
theorem dX12_init_272 : decode cX12_init 272 = .ok (.bipush 22, 2) := by decide +kernel
theorem dX12_init_274 : decode cX12_init 274 = .ok (.bipush 111, 2) := by decide +kernel
theorem dX12_init_276 : decode cX12_init 276 = .ok (.bastore, 1) := by decide +kernel
theorem dX12_init_277 : decode cX12_init 277 = .ok (.dup, 1) := by decide +kernel
theorem dX12_init_278 : decode cX12_init 278 = .ok (.bipush 23, 2) := by decide +kernel
theorem dX12_init_280 : decode cX12_init 280 = .ok (.bipush 110, 2) := by decide +kernel
theorem dX12_init_282 : decode cX12_init 282 = .ok (.bastore, 1) := by decide +kernel
theorem dX12_init_283 : decode cX12_init 283 = .ok (.dup, 1) := by decide +kernel
theorem dX12_init_284 : decode cX12_init 284 = .ok (.bipush 24, 2) := by decide +kernel
theorem dX12_init_286 : decode cX12_init 286 = .ok (.bipush 101, 2) := by decide +kernel
theorem dX12_init_288 : decode cX12_init 288 = .ok (.bastore, 1) := by decide +kernel
theorem dX12_init_289 : decode cX12_init 289 = .ok (.dup, 1) := by decide +kernel
theorem dX12_init_290 : decode cX12_init 290 = .ok (.bipush 25, 2) := by decide +kernel
theorem dX12_init_292 : decode cX12_init 292 = .ok (.bipush 115, 2) := by decide +kernel
theorem dX12_init_294 : decode cX12_init 294 = .ok (.bastore, 1) := by decide +kernel
theorem dX12_init_295 : decode cX12_init 295 = .ok (.dup, 1) := by decide +kernel
theorem dX12_init_296 : decode cX12_init 296 = .ok (.bipush 26, 2) := by decide +kernel
theorem dX12_init_298 : decode cX12_init 298 = .ok (.bipush 32, 2) := by decide +kernel
theorem dX12_init_300 : decode cX12_init 300 = .ok (.bastore, 1) := by decide +kernel
theorem dX12_init_301 : decode cX12_init 301 = .ok (.dup, 1) := by decide +kernel
theorem dX12_init_302 : decode cX12_init 302 = .ok (.bipush 27, 2) := by decide +kernel
theorem dX12_init_304 : decode cX12_init 304 = .ok (.bipush 98, 2) := by decide +kernel
theorem dX12_init_306 : decode cX12_init 306 = .ok (.bastore, 1) := by decide +kernel
theorem dX12_init_307 : decode cX12_init 307 = .ok (.dup, 1) := by decide +kernel
theorem dX12_init_308 : decode cX12_init 308 = .ok (.bipush 28, 2) := by decide +kernel
theorem dX12_init_310 : decode cX12_init 310 = .ok (.bipush 117, 2) := by decide +kernel
theorem dX12_init_312 : decode cX12_init 312 = .ok (.bastore, 1) := by decide +kernel
theorem dX12_init_313 : decode cX12_init 313 = .ok (.dup, 1) := by decide +kernel
theorem dX12_init_314 : decode cX12_init 314 = .ok (.bipush 29, 2) := by decide +kernel
theorem dX12_init_316 : decode cX12_init 316 = .ok (.bipush 102, 2) := by decide +kernel
theorem dX12_init_318 : decode cX12_init 318 = .ok (.bastore, 1) := by decide +kernel
theorem dX12_init_319 : decode cX12_init 319 = .ok (.dup, 1) := by decide +kernel
theorem dX12_init_320 : decode cX12_init 320 = .ok (.bipush 30, 2) := by decide +kernel
theorem dX12_init_322 : decode cX12_init 322 = .ok (.bipush 102, 2) := by decide +kernel
theorem dX12_init_324 : decode cX12_init 324 = .ok (.bastore, 1) := by decide +kernel
theorem dX12_init_325 : decode cX12_init 325 = .ok (.dup, 1) := by decide +kernel
theorem dX12_init_326 : decode cX12_init 326 = .ok (.bipush 31, 2) := by decide +kernel
theorem dX12_init_328 : decode cX12_init 328 = .ok (.bipush 101, 2) := by decide +kernel
theorem dX12_init_330 : decode cX12_init 330 = .ok (.bastore, 1) := by decide +kernel
theorem dX12_init_331 : decode cX12_init 331 = .ok (.dup, 1) := by decide +kernel
theorem dX12_init_332 : decode cX12_init 332 = .ok (.bipush 32, 2) := by decide +kernel
theorem dX12_init_334 : decode cX12_init 334 = .ok (.bipush 114, 2) := by decide +kernel
theorem dX12_init_336 : decode cX12_init 336 = .ok (.bastore, 1) := by decide +kernel
theorem dX12_init_337 : decode cX12_init 337 = .ok (.dup, 1) := by decide +kernel
theorem dX12_init_338 : decode cX12_init 338 = .ok (.bipush 33, 2) := by decide +kernel
theorem dX12_init_340 : decode cX12_init 340 = .ok (.bipush 32, 2) := by decide +kernel
theorem dX12_init_342 : decode cX12_init 342 = .ok (.bastore, 1) := by decide +kernel
theorem dX12_init_343 : decode cX12_init 343 = .ok (.dup, 1) := by decide +kernel
theorem dX12_init_344 : decode cX12_init 344 = .ok (.bipush 34, 2) := by decide +kernel
theorem dX12_init_346 : decode cX12_init 346 = .ok (.bipush 116, 2) := by decide +kernel
theorem dX12_init_348 : decode cX12_init 348 = .ok (.bastore, 1) := by decide +kernel
theorem dX12_init_349 : decode cX12_init 349 = .ok (.dup, 1) := by decide +kernel
theorem dX12_init_350 : decode cX12_init 350 = .ok (.bipush 35, 2) := by decide +kernel
theorem dX12_init_352 : decode cX12_init 352 = .ok (.bipush 105, 2) := by decide +kernel
theorem dX12_init_354 : decode cX12_init 354 = .ok (.bastore, 1) := by decide +kernel
theorem dX12_init_355 : decode cX12_init 355 = .ok (.dup, 1) := by decide +kernel
theorem dX12_init_356 : decode cX12_init 356 = .ok (.bipush 36, 2) := by decide +kernel
theorem dX12_init_358 : decode cX12_init 358 = .ok (.bipush 109, 2) := by decide +kernel
theorem dX12_init_360 : decode cX12_init 360 = .ok (.bastore, 1) := by decide +kernel
theorem dX12_init_361 : decode cX12_init 361 = .ok (.dup, 1) := by decide +kernel
theorem dX12_init_362 : decode cX12_init 362 = .ok (.bipush 37, 2) := by decide +kernel
theorem dX12_init_364 : decode cX12_init 364 = .ok (.bipush 101, 2) := by decide +kernel
theorem dX12_init_366 : decode cX12_init 366 = .ok (.bastore, 1) := by decide +kernel
theorem dX12_init_367 : decode cX12_init 367 = .ok (.dup, 1) := by decide +kernel
theorem dX12_init_368 : decode cX12_init 368 = .ok (.bipush 38, 2) := by decide +kernel
theorem dX12_init_370 : decode cX12_init 370 = .ok (.bipush 115, 2) := by decide +kernel
theorem dX12_init_372 : decode cX12_init 372 = .ok (.bastore, 1) := by decide +kernel
theorem dX12_init_373 : decode cX12_init 373 = .ok (.dup, 1) := by decide +kernel
theorem dX12_init_374 : decode cX12_init 374 = .ok (.bipush 39, 2) := by decide +kernel
theorem dX12_init_376 : decode cX12_init 376 = .ok (.bipush 32, 2) := by decide +kernel
theorem dX12_init_378 : decode cX12_init 378 = .ok (.bastore, 1) := by decide +kernel
theorem dX12_init_379 : decode cX12_init 379 = .ok (.dup, 1) := by decide +kernel
theorem dX12_init_380 : decode cX12_init 380 = .ok (.bipush 40, 2) := by decide +kernel
theorem dX12_init_382 : decode cX12_init 382 = .ok (.bipush 112, 2) := by decide +kernel
theorem dX12_init_384 : decode cX12_init 384 = .ok (.bastore, 1) := by decide +kernel
theorem dX12_init_385 : decode cX12_init 385 = .ok (.dup, 1) := by decide +kernel
theorem dX12_init_386 : decode cX12_init 386 = .ok (.bipush 41, 2) := by decide +kernel
theorem dX12_init_388 : decode cX12_init 388 = .ok (.bipush 111, 2) := by decide +kernel
theorem dX12_init_390 : decode cX12_init 390 = .ok (.bastore, 1) := by decide +kernel
theorem dX12_init_391 : decode cX12_init 391 = .ok (.dup, 1) := by decide +kernel
theorem dX12_init_392 : decode cX12_init 392 = .ok (.bipush 42, 2) := by decide +kernel
theorem dX12_init_394 : decode cX12_init 394 = .ok (.bipush 108, 2) := by decide +kernel
theorem dX12_init_396 : decode cX12_init 396 = .ok (.bastore, 1) := by decide +kernel
theorem dX12_init_397 : decode cX12_init 397 = .ok (.dup, 1) := by decide +kernel
theorem dX12_init_398 : decode cX12_init 398 = .ok (.bipush 43, 2) := by decide +kernel
theorem dX12_init_400 : decode cX12_init 400 = .ok (.bipush 105, 2) := by decide +kernel
theorem dX12_init_402 : decode cX12_init 402 = .ok (.bastore, 1) := by decide +kernel
theorem dX12_init_403 : decode cX12_init 403 = .ok (.dup, 1) := by decide +kernel
theorem dX12_init_404 : decode cX12_init 404 = .ok (.bipush 44, 2) := by decide +kernel
theorem dX12_init_406 : decode cX12_init 406 = .ok (.bipush 99, 2) := by decide +kernel
theorem dX12_init_408 : decode cX12_init 408 = .ok (.bastore, 1) := by decide +kernel
theorem dX12_init_409 : decode cX12_init 409 = .ok (.dup, 1) := by decide +kernel
theorem dX12_init_410 : decode cX12_init 410 = .ok (.bipush 45, 2) := by decide +kernel
theorem dX12_init_412 : decode cX12_init 412 = .ok (.bipush 121, 2) := by decide +kernel
theorem dX12_init_414 : decode cX12_init 414 = .ok (.bastore, 1) := by decide +kernel
theorem dX12_init_415 : decode cX12_init 415 = .ok (.dup, 1) := by decide +kernel
theorem dX12_init_416 : decode cX12_init 416 = .ok (.bipush 46, 2) := by decide +kernel
theorem dX12_init_418 : decode cX12_init 418 = .ok (.bipush 32, 2) := by decide +kernel
theorem dX12_init_420 : decode cX12_init 420 = .ok (.bastore, 1) := by decide +kernel
theorem dX12_init_421 : decode cX12_init 421 = .ok (.dup, 1) := by decide +kernel
theorem dX12_init_422 : decode cX12_init 422 = .ok (.bipush 47, 2) := by decide +kernel
theorem dX12_init_424 : decode cX12_init 424 = .ok (.bipush 114, 2) := by decide +kernel
theorem dX12_init_426 : decode cX12_init 426 = .ok (.bastore, 1) := by decide +kernel
theorem dX12_init_427 : decode cX12_init 427 = .ok (.dup, 1) := by decide +kernel
theorem dX12_init_428 : decode cX12_init 428 = .ok (.bipush 48, 2) := by decide +kernel
theorem dX12_init_430 : decode cX12_init 430 = .ok (.bipush 101, 2) := by decide +kernel
theorem dX12_init_432 : decode cX12_init 432 = .ok (.bastore, 1) := by decide +kernel
theorem dX12_init_433 : decode cX12_init 433 = .ok (.dup, 1) := by decide +kernel
theorem dX12_init_434 : decode cX12_init 434 = .ok (.bipush 49, 2) := by decide +kernel
theorem dX12_init_436 : decode cX12_init 436 = .ok (.bipush 116, 2) := by decide +kernel
theorem dX12_init_438 : decode cX12_init 438 = .ok (.bastore, 1) := by decide +kernel
theorem dX12_init_439 : decode cX12_init 439 = .ok (.dup, 1) := by decide +kernel
theorem dX12_init_440 : decode cX12_init 440 = .ok (.bipush 50, 2) := by decide +kernel
theorem dX12_init_442 : decode cX12_init 442 = .ok (.bipush 117, 2) := by decide +kernel
theorem dX12_init_444 : decode cX12_init 444 = .ok (.bastore, 1) := by decide +kernel
theorem dX12_init_445 : decode cX12_init 445 = .ok (.dup, 1) := by decide +kernel
theorem dX12_init_446 : decode cX12_init 446 = .ok (.bipush 51, 2) := by decide +kernel
theorem dX12_init_448 : decode cX12_init 448 = .ok (.bipush 114, 2) := by decide +kernel
theorem dX12_init_450 : decode cX12_init 450 = .ok (.bastore, 1) := by decide +kernel
theorem dX12_init_451 : decode cX12_init 451 = .ok (.dup, 1) := by decide +kernel
theorem dX12_init_452 : decode cX12_init 452 = .ok (.bipush 52, 2) := by decide +kernel
theorem dX12_init_454 : decode cX12_init 454 = .ok (.bipush 110, 2) := by decide +kernel
theorem dX12_init_456 : decode cX12_init 456 = .ok (.bastore, 1) := by decide +kernel
theorem dX12_init_457 : decode cX12_init 457 = .ok (.dup, 1) := by decide +kernel
theorem dX12_init_458 : decode cX12_init 458 = .ok (.bipush 53, 2) := by decide +kernel
theorem dX12_init_460 : decode cX12_init 460 = .ok (.bipush 32, 2) := by decide +kernel
theorem dX12_init_462 : decode cX12_init 462 = .ok (.bastore, 1) := by decide +kernel
theorem dX12_init_463 : decode cX12_init 463 = .ok (.dup, 1) := by decide +kernel
theorem dX12_init_464 : decode cX12_init 464 = .ok (.bipush 54, 2) := by decide +kernel
theorem dX12_init_466 : decode cX12_init 466 = .ok (.bipush 115, 2) := by decide +kernel
theorem dX12_init_468 : decode cX12_init 468 = .ok (.bastore, 1) := by decide +kernel
theorem dX12_init_469 : decode cX12_init 469 = .ok (.dup, 1) := by decide +kernel
theorem dX12_init_470 : decode cX12_init 470 = .ok (.bipush 55, 2) := by decide +kernel
theorem dX12_init_472 : decode cX12_init 472 = .ok (.bipush 115, 2) := by decide +kernel
theorem dX12_init_474 : decode cX12_init 474 = .ok (.bastore, 1) := by decide +kernel
theorem dX12_init_475 : decode cX12_init 475 = .ok (.dup, 1) := by decide +kernel
theorem dX12_init_476 : decode cX12_init 476 = .ok (.bipush 56, 2) := by decide +kernel
theorem dX12_init_478 : decode cX12_init 478 = .ok (.bipush 104, 2) := by decide +kernel
theorem dX12_init_480 : decode cX12_init 480 = .ok (.bastore, 1) := by decide +kernel
theorem dX12_init_481 : decode cX12_init 481 = .ok (.dup, 1) := by decide +kernel
theorem dX12_init_482 : decode cX12_init 482 = .ok (.bipush 57, 2) := by decide +kernel
theorem dX12_init_484 : decode cX12_init 484 = .ok (.bipush 97, 2) := by decide +kernel
theorem dX12_init_486 : decode cX12_init 486 = .ok (.bastore, 1) := by decide +kernel
theorem dX12_init_487 : decode cX12_init 487 = .ok (.dup, 1) := by decide +kernel
theorem dX12_init_488 : decode cX12_init 488 = .ok (.bipush 58, 2) := by decide +kernel
theorem dX12_init_490 : decode cX12_init 490 = .ok (.bipush 112, 2) := by decide +kernel
theorem dX12_init_492 : decode cX12_init 492 = .ok (.bastore, 1) := by decide +kernel
theorem dX12_init_493 : decode cX12_init 493 = .ok (.dup, 1) := by decide +kernel
theorem dX12_init_494 : decode cX12_init 494 = .ok (.bipush 59, 2) := by decide +kernel
theorem dX12_init_496 : decode cX12_init 496 = .ok (.bipush 101, 2) := by decide +kernel
theorem dX12_init_498 : decode cX12_init 498 = .ok (.bastore, 1) := by decide +kernel
theorem dX12_init_499 : decode cX12_init 499 = .ok (.dup, 1) := by decide +kernel
theorem dX12_init_500 : decode cX12_init 500 = .ok (.bipush 60, 2) := by decide +kernel
theorem dX12_init_502 : decode cX12_init 502 = .ok (.bipush 32, 2) := by decide +kernel
theorem dX12_init_504 : decode cX12_init 504 = .ok (.bastore, 1) := by decide +kernel
theorem dX12_init_505 : decode cX12_init 505 = .ok (.dup, 1) := by decide +kernel
theorem dX12_init_506 : decode cX12_init 506 = .ok (.bipush 61, 2) := by decide +kernel
theorem dX12_init_508 : decode cX12_init 508 = .ok (.bipush 103, 2) := by decide +kernel
theorem dX12_init_510 : decode cX12_init 510 = .ok (.bastore, 1) := by decide +kernel
theorem dX12_init_511 : decode cX12_init 511 = .ok (.dup, 1) := by decide +kernel
theorem dX12_init_512 : decode cX12_init 512 = .ok (.bipush 62, 2) := by decide +kernel
theorem dX12_init_514 : decode cX12_init 514 = .ok (.bipush 97, 2) := by decide +kernel
theorem dX12_init_516 : decode cX12_init 516 = .ok (.bastore, 1) := by decide +kernel
theorem dX12_init_517 : decode cX12_init 517 = .ok (.dup, 1) := by decide +kernel
theorem dX12_init_518 : decode cX12_init 518 = .ok (.bipush 63, 2) := by decide +kernel
theorem dX12_init_520 : decode cX12_init 520 = .ok (.bipush 112, 2) := by decide +kernel
theorem dX12_init_522 : decode cX12_init 522 = .ok (.bastore, 1) := by decide +kernel
theorem dX12_init_523 : decode cX12_init 523 = .ok (.dup, 1) := by decide +kernel
theorem dX12_init_524 : decode cX12_init 524 = .ok (.bipush 64, 2) := by decide +kernel
theorem dX12_init_526 : decode cX12_init 526 = .ok (.bipush 32, 2) := by decide +kernel
theorem dX12_init_528 : decode cX12_init 528 = .ok (.bastore, 1) := by decide +kernel
theorem dX12_init_529 : decode cX12_init 529 = .ok (.dup, 1) := by decide +kernel
theorem dX12_init_530 : decode cX12_init 530 = .ok (.bipush 65, 2) := by decide +kernel
theorem dX12_init_532 : decode cX12_init 532 = .ok (.bipush 99, 2) := by decide +kernel
theorem dX12_init_534 : decode cX12_init 534 = .ok (.bastore, 1) := by decide +kernel
theorem dX12_init_535 : decode cX12_init 535 = .ok (.dup, 1) := by decide +kernel
theorem dX12_init_536 : decode cX12_init 536 = .ok (.bipush 66, 2) := by decide +kernel
theorem dX12_init_538 : decode cX12_init 538 = .ok (.bipush 111, 2) := by decide +kernel
theorem dX12_init_540 : decode cX12_init 540 = .ok (.bastore, 1) := by decide +kernel
theorem dX12_init_541 : decode cX12_init 541 = .ok (.dup, 1) := by decide +kernel
theorem dX12_init_542 : decode cX12_init 542 = .ok (.bipush 67, 2) := by decide +kernel
theorem dX12_init_544 : decode cX12_init 544 = .ok (.bipush 109, 2) := by decide +kernel
theorem dX12_init_546 : decode cX12_init 546 = .ok (.bastore, 1) := by decide +kernel
theorem dX12_init_547 : decode cX12_init 547 = .ok (.dup, 1) := by decide +kernel
theorem dX12_init_548 : decode cX12_init 548 = .ok (.bipush 68, 2) := by decide +kernel
theorem dX12_init_550 : decode cX12_init 550 = .ok (.bipush 98, 2) := by decide +kernel
theorem dX12_init_552 : decode cX12_init 552 = .ok (.bastore, 1) := by decide +kernel
theorem dX12_init_553 : decode cX12_init 553 = .ok (.dup, 1) := by decide +kernel
theorem dX12_init_554 : decode cX12_init 554 = .ok (.bipush 69, 2) := by decide +kernel
theorem dX12_init_556 : decode cX12_init 556 = .ok (.bipush 105, 2) := by decide +kernel
theorem dX12_init_558 : decode cX12_init 558 = .ok (.bastore, 1) := by decide +kernel
theorem dX12_init_559 : decode cX12_init 559 = .ok (.dup, 1) := by decide +kernel
theorem dX12_init_560 : decode cX12_init 560 = .ok (.bipush 70, 2) := by decide +kernel
theorem dX12_init_562 : decode cX12_init 562 = .ok (.bipush 110, 2) := by decide +kernel
theorem dX12_init_564 : decode cX12_init 564 = .ok (.bastore, 1) := by decide +kernel
theorem dX12_init_565 : decode cX12_init 565 = .ok (.dup, 1) := by decide +kernel
theorem dX12_init_566 : decode cX12_init 566 = .ok (.bipush 71, 2) := by decide +kernel
theorem dX12_init_568 : decode cX12_init 568 = .ok (.bipush 101, 2) := by decide +kernel
theorem dX12_init_570 : decode cX12_init 570 = .ok (.bastore, 1) := by decide +kernel
theorem dX12_init_571 : decode cX12_init 571 = .ok (.dup, 1) := by decide +kernel
theorem dX12_init_572 : decode cX12_init 572 = .ok (.bipush 72, 2) := by decide +kernel
theorem dX12_init_574 : decode cX12_init 574 = .ok (.bipush 100, 2) := by decide +kernel
theorem dX12_init_576 : decode cX12_init 576 = .ok (.bastore, 1) := by decide +kernel
theorem dX12_init_577 : decode cX12_init 577 = .ok (.dup, 1) := by decide +kernel
theorem dX12_init_578 : decode cX12_init 578 = .ok (.bipush 73, 2) := by decide +kernel
theorem dX12_init_580 : decode cX12_init 580 = .ok (.bipush 32, 2) := by decide +kernel
theorem dX12_init_582 : decode cX12_init 582 = .ok (.bastore, 1) := by decide +kernel
theorem dX12_init_583 : decode cX12_init 583 = .ok (.putfield 64, 3) := by decide +kernel
theorem dX12_init_586 : decode cX12_init 586 = .ok (.aload_n 0, 1) := by decide +kernel
theorem dX12_init_587 : decode cX12_init 587 = .ok (.invokevirtual 67, 3) := by decide +kernel
theorem dX12_init_590 : decode cX12_init 590 = .ok (.return_, 1) := by decide +kernel
theorem dX12_thrown_0 : decode cX12_thrown 0 = .ok (.aload_n 0, 1) := by decide +kernel
theorem dX12_thrown_1 : decode cX12_thrown 1 = .ok (.getfield 70, 3) := by decide +kernel
theorem dX12_thrown_4 : decode cX12_thrown 4 = .ok (.ireturn, 1) := by decide +kernel
theorem dX12_begins_0 : decode cX12_begins 0 = .ok (.iconst 0, 1) := by decide +kernel
theorem dX12_begins_1 : decode cX12_begins 1 = .ok (.istore_n 1, 1) := by decide +kernel
theorem dX12_begins_2 : decode cX12_begins 2 = .ok (.iload_n 1, 1) := by decide +kernel
theorem dX12_begins_3 : decode cX12_begins 3 = .ok (.sipush 469, 3) := by decide +kernel
theorem dX12_begins_6 : decode cX12_begins 6 = .ok (.if_icmp .ge 16, 3) := by decide +kernel
theorem dX12_begins_9 : decode cX12_begins 9 = .ok (.aload_n 0, 1) := by decide +kernel
theorem dX12_begins_10 : decode cX12_begins 10 = .ok (.getfield 7, 3) := by decide +kernel
theorem dX12_begins_13 : decode cX12_begins 13 = .ok (.iload_n 1, 1) := by decide +kernel
theorem dX12_begins_14 : decode cX12_begins 14 = .ok (.iconst 0, 1) := by decide +kernel
theorem dX12_begins_15 : decode cX12_begins 15 = .ok (.iastore, 1) := by decide +kernel
theorem dX12_begins_16 : decode cX12_begins 16 = .ok (.iinc 1 1, 3) := by decide +kernel
theorem dX12_begins_19 : decode cX12_begins 19 = .ok (.goto (-17), 3) := by decide +kernel
theorem dX12_begins_22 : decode cX12_begins 22 = .ok (.aload_n 0, 1) := by decide +kernel
theorem dX12_begins_23 : decode cX12_begins 23 = .ok (.getfield 7, 3) := by decide +kernel
theorem dX12_begins_26 : decode cX12_begins 26 = .ok (.iconst 0, 1) := by decide +kernel
theorem dX12_begins_27 : decode cX12_begins 27 = .ok (.iconst 4, 1) := by decide +kernel
theorem dX12_begins_28 : decode cX12_begins 28 = .ok (.iastore, 1) := by decide +kernel
theorem dX12_begins_29 : decode cX12_begins 29 = .ok (.aload_n 0, 1) := by decide +kernel
theorem dX12_begins_30 : decode cX12_begins 30 = .ok (.getfield 7, 3) := by decide +kernel
theorem dX12_begins_33 : decode cX12_begins 33 = .ok (.iconst 1, 1) := by decide +kernel
theorem dX12_begins_34 : decode cX12_begins 34 = .ok (.bipush 10, 2) := by decide +kernel
theorem dX12_begins_36 : decode cX12_begins 36 = .ok (.iastore, 1) := by decide +kernel
theorem dX12_begins_37 : decode cX12_begins 37 = .ok (.aload_n 0, 1) := by decide +kernel
theorem dX12_begins_38 : decode cX12_begins 38 = .ok (.getfield 7, 3) := by decide +kernel
theorem dX12_begins_41 : decode cX12_begins 41 = .ok (.iconst 2, 1) := by decide +kernel
theorem dX12_begins_42 : decode cX12_begins 42 = .ok (.iconst 2, 1) := by decide +kernel
theorem dX12_begins_43 : decode cX12_begins 43 = .ok (.iastore, 1) := by decide +kernel
theorem dX12_begins_44 : decode cX12_begins 44 = .ok (.aload_n 0, 1) := by decide +kernel
theorem dX12_begins_45 : decode cX12_begins 45 = .ok (.getfield 7, 3) := by decide +kernel
theorem dX12_begins_48 : decode cX12_begins 48 = .ok (.bipush 7, 2) := by decide +kernel
theorem dX12_begins_50 : decode cX12_begins 50 = .ok (.iconst (-1), 1) := by decide +kernel
theorem dX12_begins_51 : decode cX12_begins 51 = .ok (.iastore, 1) := by decide +kernel
theorem dX12_begins_52 : decode cX12_begins 52 = .ok (.aload_n 0, 1) := by decide +kernel
theorem dX12_begins_53 : decode cX12_begins 53 = .ok (.getfield 7, 3) := by decide +kernel
theorem dX12_begins_56 : decode cX12_begins 56 = .ok (.bipush 8, 2) := by decide +kernel
theorem dX12_begins_58 : decode cX12_begins 58 = .ok (.iconst (-1), 1) := by decide +kernel
theorem dX12_begins_59 : decode cX12_begins 59 = .ok (.iastore, 1) := by decide +kernel
theorem dX12_begins_60 : decode cX12_begins 60 = .ok (.aload_n 0, 1) := by decide +kernel
theorem dX12_begins_61 : decode cX12_begins 61 = .ok (.getfield 7, 3) := by decide +kernel
theorem dX12_begins_64 : decode cX12_begins 64 = .ok (.bipush 9, 2) := by decide +kernel
theorem dX12_begins_66 : decode cX12_begins 66 = .ok (.iconst 1, 1) := by decide +kernel
theorem dX12_begins_67 : decode cX12_begins 67 = .ok (.iastore, 1) := by decide +kernel
theorem dX12_begins_68 : decode cX12_begins 68 = .ok (.aload_n 0, 1) := by decide +kernel
theorem dX12_begins_69 : decode cX12_begins 69 = .ok (.getfield 7, 3) := by decide +kernel
theorem dX12_begins_72 : decode cX12_begins 72 = .ok (.bipush 10, 2) := by decide +kernel
theorem dX12_begins_74 : decode cX12_begins 74 = .ok (.iconst 1, 1) := by decide +kernel
theorem dX12_begins_75 : decode cX12_begins 75 = .ok (.iastore, 1) := by decide +kernel
theorem dX12_begins_76 : decode cX12_begins 76 = .ok (.aload_n 0, 1) := by decide +kernel
theorem dX12_begins_77 : decode cX12_begins 77 = .ok (.getfield 7, 3) := by decide +kernel
theorem dX12_begins_80 : decode cX12_begins 80 = .ok (.bipush 12, 2) := by decide +kernel
theorem dX12_begins_82 : decode cX12_begins 82 = .ok (.iconst 1, 1) := by decide +kernel
theorem dX12_begins_83 : decode cX12_begins 83 = .ok (.iastore, 1) := by decide +kernel
theorem dX12_begins_84 : decode cX12_begins 84 = .ok (.return_, 1) := by decide +kernel
theorem dX12_in_0 : decode cX12_in 0 = .ok (.iload_n 0, 1) := by decide +kernel
theorem dX12_in_1 : decode cX12_in 1 = .ok (.iload_n 1, 1) := by decide +kernel
theorem dX12_in_2 : decode cX12_in 2 = .ok (.if_icmp .lt 12, 3) := by decide +kernel
theorem dX12_in_5 : decode cX12_in 5 = .ok (.iload_n 0, 1) := by decide +kernel
theorem dX12_in_6 : decode cX12_in 6 = .ok (.iload_n 2, 1) := by decide +kernel
theorem dX12_in_7 : decode cX12_in 7 = .ok (.if_icmp .gt 7, 3) := by decide +kernel
theorem dX12_in_10 : decode cX12_in 10 = .ok (.iconst 1, 1) := by decide +kernel
theorem dX12_in_11 : decode cX12_in 11 = .ok (.goto 4, 3) := by decide +kernel
theorem dX12_in_14 : decode cX12_in 14 = .ok (.iconst 0, 1) := by decide +kernel
theorem dX12_in_15 : decode cX12_in 15 = .ok (.ireturn, 1) := by decide +kernel
theorem dX12_has_0 : decode cX12_has 0 = .ok (.iload_n 0, 1) := by decide +kernel
theorem dX12_has_1 : decode cX12_has 1 = .ok (.iload_n 1, 1) := by decide +kernel
theorem dX12_has_2 : decode cX12_has 2 = .ok (.ishr, 1) := by decide +kernel
theorem dX12_has_3 : decode cX12_has 3 = .ok (.iconst 1, 1) := by decide +kernel
theorem dX12_has_4 : decode cX12_has 4 = .ok (.iand, 1) := by decide +kernel
theorem dX12_has_5 : decode cX12_has 5 = .ok (.iconst 1, 1) := by decide +kernel
theorem dX12_has_6 : decode cX12_has 6 = .ok (.if_icmp .ne 7, 3) := by decide +kernel
theorem dX12_has_9 : decode cX12_has 9 = .ok (.iconst 1, 1) := by decide +kernel
theorem dX12_has_10 : decode cX12_has 10 = .ok (.goto 4, 3) := by decide +kernel
theorem dX12_has_13 : decode cX12_has 13 = .ok (.iconst 0, 1) := by decide +kernel
theorem dX12_has_14 : decode cX12_has 14 = .ok (.ireturn, 1) := by decide +kernel
theorem dX12_ones_0 : decode cX12_ones 0 = .ok (.iconst 0, 1) := by decide +kernel
theorem dX12_ones_1 : decode cX12_ones 1 = .ok (.istore_n 1, 1) := by decide +kernel
theorem dX12_ones_2 : decode cX12_ones 2 = .ok (.iload_n 0, 1) := by decide +kernel
theorem dX12_ones_3 : decode cX12_ones 3 = .ok (.istore_n 2, 1) := by decide +kernel
theorem dX12_ones_4 : decode cX12_ones 4 = .ok (.iload_n 2, 1) := by decide +kernel
theorem dX12_ones_5 : decode cX12_ones 5 = .ok (.ifCond .eq 15, 3) := by decide +kernel
theorem dX12_ones_8 : decode cX12_ones 8 = .ok (.iinc 1 1, 3) := by decide +kernel
theorem dX12_ones_11 : decode cX12_ones 11 = .ok (.iload_n 2, 1) := by decide +kernel
theorem dX12_ones_12 : decode cX12_ones 12 = .ok (.iload_n 2, 1) := by decide +kernel
theorem dX12_ones_13 : decode cX12_ones 13 = .ok (.iconst 1, 1) := by decide +kernel
theorem dX12_ones_14 : decode cX12_ones 14 = .ok (.isub, 1) := by decide +kernel
theorem dX12_ones_15 : decode cX12_ones 15 = .ok (.iand, 1) := by decide +kernel
theorem dX12_ones_16 : decode cX12_ones 16 = .ok (.istore_n 2, 1) := by decide +kernel
theorem dX12_ones_17 : decode cX12_ones 17 = .ok (.goto (-13), 3) := by decide +kernel
theorem dX12_ones_20 : decode cX12_ones 20 = .ok (.iload_n 1, 1) := by decide +kernel
theorem dX12_ones_21 : decode cX12_ones 21 = .ok (.ireturn, 1) := by decide +kernel
theorem dX12_greater_0 : decode cX12_greater 0 = .ok (.iload_n 0, 1) := by decide +kernel
theorem dX12_greater_1 : decode cX12_greater 1 = .ok (.iload_n 1, 1) := by decide +kernel
theorem dX12_greater_2 : decode cX12_greater 2 = .ok (.if_icmp .le 7, 3) := by decide +kernel
theorem dX12_greater_5 : decode cX12_greater 5 = .ok (.iload_n 0, 1) := by decide +kernel
theorem dX12_greater_6 : decode cX12_greater 6 = .ok (.goto 4, 3) := by decide +kernel
theorem dX12_greater_9 : decode cX12_greater 9 = .ok (.iload_n 1, 1) := by decide +kernel
theorem dX12_greater_10 : decode cX12_greater 10 = .ok (.ireturn, 1) := by decide +kernel
theorem dX12_isAisle_0 : decode cX12_isAisle 0 = .ok (.iload_n 1, 1) := by decide +kernel
theorem dX12_isAisle_1 : decode cX12_isAisle 1 = .ok (.iconst 0, 1) := by decide +kernel
theorem dX12_isAisle_2 : decode cX12_isAisle 2 = .ok (.aload_n 0, 1) := by decide +kernel
theorem dX12_isAisle_3 : decode cX12_isAisle 3 = .ok (.getfield 7, 3) := by decide +kernel
theorem dX12_isAisle_6 : decode cX12_isAisle 6 = .ok (.iconst 0, 1) := by decide +kernel
theorem dX12_isAisle_7 : decode cX12_isAisle 7 = .ok (.iaload, 1) := by decide +kernel
theorem dX12_isAisle_8 : decode cX12_isAisle 8 = .ok (.iconst 1, 1) := by decide +kernel
theorem dX12_isAisle_9 : decode cX12_isAisle 9 = .ok (.isub, 1) := by decide +kernel
theorem dX12_isAisle_10 : decode cX12_isAisle 10 = .ok (.invokestatic 73, 3) := by decide +kernel
theorem dX12_isAisle_13 : decode cX12_isAisle 13 = .ok (.ireturn, 1) := by decide +kernel
theorem dX12_isItem_0 : decode cX12_isItem 0 = .ok (.iload_n 1, 1) := by decide +kernel
theorem dX12_isItem_1 : decode cX12_isItem 1 = .ok (.iconst 0, 1) := by decide +kernel
theorem dX12_isItem_2 : decode cX12_isItem 2 = .ok (.aload_n 0, 1) := by decide +kernel
theorem dX12_isItem_3 : decode cX12_isItem 3 = .ok (.getfield 7, 3) := by decide +kernel
theorem dX12_isItem_6 : decode cX12_isItem 6 = .ok (.iconst 3, 1) := by decide +kernel
theorem dX12_isItem_7 : decode cX12_isItem 7 = .ok (.iaload, 1) := by decide +kernel
theorem dX12_isItem_8 : decode cX12_isItem 8 = .ok (.iconst 1, 1) := by decide +kernel
theorem dX12_isItem_9 : decode cX12_isItem 9 = .ok (.isub, 1) := by decide +kernel
theorem dX12_isItem_10 : decode cX12_isItem 10 = .ok (.invokestatic 73, 3) := by decide +kernel
theorem dX12_isItem_13 : decode cX12_isItem 13 = .ok (.ireturn, 1) := by decide +kernel
theorem dX12_isOrder_0 : decode cX12_isOrder 0 = .ok (.iload_n 1, 1) := by decide +kernel
theorem dX12_isOrder_1 : decode cX12_isOrder 1 = .ok (.iconst 0, 1) := by decide +kernel
theorem dX12_isOrder_2 : decode cX12_isOrder 2 = .ok (.aload_n 0, 1) := by decide +kernel
theorem dX12_isOrder_3 : decode cX12_isOrder 3 = .ok (.getfield 7, 3) := by decide +kernel
theorem dX12_isOrder_6 : decode cX12_isOrder 6 = .ok (.iconst 4, 1) := by decide +kernel
theorem dX12_isOrder_7 : decode cX12_isOrder 7 = .ok (.iaload, 1) := by decide +kernel
theorem dX12_isOrder_8 : decode cX12_isOrder 8 = .ok (.iconst 1, 1) := by decide +kernel
theorem dX12_isOrder_9 : decode cX12_isOrder 9 = .ok (.isub, 1) := by decide +kernel
theorem dX12_isOrder_10 : decode cX12_isOrder 10 = .ok (.invokestatic 73, 3) := by decide +kernel
theorem dX12_isOrder_13 : decode cX12_isOrder 13 = .ok (.ireturn, 1) := by decide +kernel
theorem dX12_isBatch_0 : decode cX12_isBatch 0 = .ok (.iload_n 1, 1) := by decide +kernel
theorem dX12_isBatch_1 : decode cX12_isBatch 1 = .ok (.iconst 0, 1) := by decide +kernel
theorem dX12_isBatch_2 : decode cX12_isBatch 2 = .ok (.aload_n 0, 1) := by decide +kernel
theorem dX12_isBatch_3 : decode cX12_isBatch 3 = .ok (.getfield 7, 3) := by decide +kernel
theorem dX12_isBatch_6 : decode cX12_isBatch 6 = .ok (.iconst 5, 1) := by decide +kernel
theorem dX12_isBatch_7 : decode cX12_isBatch 7 = .ok (.iaload, 1) := by decide +kernel
theorem dX12_isBatch_8 : decode cX12_isBatch 8 = .ok (.iconst 1, 1) := by decide +kernel
theorem dX12_isBatch_9 : decode cX12_isBatch 9 = .ok (.isub, 1) := by decide +kernel
theorem dX12_isBatch_10 : decode cX12_isBatch 10 = .ok (.invokestatic 73, 3) := by decide +kernel
theorem dX12_isBatch_13 : decode cX12_isBatch 13 = .ok (.ireturn, 1) := by decide +kernel
theorem dX12_zones_0 : decode cX12_zones 0 = .ok (.aload_n 0, 1) := by decide +kernel
theorem dX12_zones_1 : decode cX12_zones 1 = .ok (.getfield 7, 3) := by decide +kernel
theorem dX12_zones_4 : decode cX12_zones 4 = .ok (.bipush 7, 2) := by decide +kernel
theorem dX12_zones_6 : decode cX12_zones 6 = .ok (.iaload, 1) := by decide +kernel
theorem dX12_zones_7 : decode cX12_zones 7 = .ok (.iconst (-1), 1) := by decide +kernel
theorem dX12_zones_8 : decode cX12_zones 8 = .ok (.if_icmp .ne 7, 3) := by decide +kernel
theorem dX12_zones_11 : decode cX12_zones 11 = .ok (.iconst 1, 1) := by decide +kernel
theorem dX12_zones_12 : decode cX12_zones 12 = .ok (.goto 19, 3) := by decide +kernel
theorem dX12_zones_15 : decode cX12_zones 15 = .ok (.aload_n 0, 1) := by decide +kernel
theorem dX12_zones_16 : decode cX12_zones 16 = .ok (.getfield 7, 3) := by decide +kernel
theorem dX12_zones_19 : decode cX12_zones 19 = .ok (.bipush 8, 2) := by decide +kernel
theorem dX12_zones_21 : decode cX12_zones 21 = .ok (.iaload, 1) := by decide +kernel
theorem dX12_zones_22 : decode cX12_zones 22 = .ok (.iconst (-1), 1) := by decide +kernel
theorem dX12_zones_23 : decode cX12_zones 23 = .ok (.if_icmp .ne 7, 3) := by decide +kernel
theorem dX12_zones_26 : decode cX12_zones 26 = .ok (.iconst 2, 1) := by decide +kernel
theorem dX12_zones_27 : decode cX12_zones 27 = .ok (.goto 4, 3) := by decide +kernel
theorem dX12_zones_30 : decode cX12_zones 30 = .ok (.iconst 3, 1) := by decide +kernel
theorem dX12_zones_31 : decode cX12_zones 31 = .ok (.ireturn, 1) := by decide +kernel
theorem dX12_isZone_0 : decode cX12_isZone 0 = .ok (.iload_n 1, 1) := by decide +kernel
theorem dX12_isZone_1 : decode cX12_isZone 1 = .ok (.iconst 0, 1) := by decide +kernel
theorem dX12_isZone_2 : decode cX12_isZone 2 = .ok (.aload_n 0, 1) := by decide +kernel
theorem dX12_isZone_3 : decode cX12_isZone 3 = .ok (.invokevirtual 77, 3) := by decide +kernel
theorem dX12_isZone_6 : decode cX12_isZone 6 = .ok (.iconst 1, 1) := by decide +kernel
theorem dX12_isZone_7 : decode cX12_isZone 7 = .ok (.isub, 1) := by decide +kernel
theorem dX12_isZone_8 : decode cX12_isZone 8 = .ok (.invokestatic 73, 3) := by decide +kernel
theorem dX12_isZone_11 : decode cX12_isZone 11 = .ok (.ireturn, 1) := by decide +kernel
theorem dX12_ofItem_0 : decode cX12_ofItem 0 = .ok (.aload_n 0, 1) := by decide +kernel
theorem dX12_ofItem_1 : decode cX12_ofItem 1 = .ok (.getfield 7, 3) := by decide +kernel
theorem dX12_ofItem_4 : decode cX12_ofItem 4 = .ok (.bipush 13, 2) := by decide +kernel
theorem dX12_ofItem_6 : decode cX12_ofItem 6 = .ok (.iconst 4, 1) := by decide +kernel
theorem dX12_ofItem_7 : decode cX12_ofItem 7 = .ok (.iload_n 1, 1) := by decide +kernel
theorem dX12_ofItem_8 : decode cX12_ofItem 8 = .ok (.imul, 1) := by decide +kernel
theorem dX12_ofItem_9 : decode cX12_ofItem 9 = .ok (.iadd, 1) := by decide +kernel
theorem dX12_ofItem_10 : decode cX12_ofItem 10 = .ok (.iload_n 2, 1) := by decide +kernel
theorem dX12_ofItem_11 : decode cX12_ofItem 11 = .ok (.iadd, 1) := by decide +kernel
theorem dX12_ofItem_12 : decode cX12_ofItem 12 = .ok (.iaload, 1) := by decide +kernel
theorem dX12_ofItem_13 : decode cX12_ofItem 13 = .ok (.ireturn, 1) := by decide +kernel
theorem dX12_orderAt_0 : decode cX12_orderAt 0 = .ok (.bipush 109, 2) := by decide +kernel
theorem dX12_orderAt_2 : decode cX12_orderAt 2 = .ok (.bipush 22, 2) := by decide +kernel
theorem dX12_orderAt_4 : decode cX12_orderAt 4 = .ok (.iload_n 0, 1) := by decide +kernel
theorem dX12_orderAt_5 : decode cX12_orderAt 5 = .ok (.imul, 1) := by decide +kernel
theorem dX12_orderAt_6 : decode cX12_orderAt 6 = .ok (.iadd, 1) := by decide +kernel
theorem dX12_orderAt_7 : decode cX12_orderAt 7 = .ok (.ireturn, 1) := by decide +kernel
theorem dX12_lineAt_0 : decode cX12_lineAt 0 = .ok (.bipush 109, 2) := by decide +kernel
theorem dX12_lineAt_2 : decode cX12_lineAt 2 = .ok (.bipush 22, 2) := by decide +kernel
theorem dX12_lineAt_4 : decode cX12_lineAt 4 = .ok (.iload_n 0, 1) := by decide +kernel
theorem dX12_lineAt_5 : decode cX12_lineAt 5 = .ok (.imul, 1) := by decide +kernel
theorem dX12_lineAt_6 : decode cX12_lineAt 6 = .ok (.iadd, 1) := by decide +kernel
theorem dX12_lineAt_7 : decode cX12_lineAt 7 = .ok (.iconst 4, 1) := by decide +kernel
theorem dX12_lineAt_8 : decode cX12_lineAt 8 = .ok (.iadd, 1) := by decide +kernel
theorem dX12_lineAt_9 : decode cX12_lineAt 9 = .ok (.iconst 3, 1) := by decide +kernel
theorem dX12_lineAt_10 : decode cX12_lineAt 10 = .ok (.iload_n 1, 1) := by decide +kernel
theorem dX12_lineAt_11 : decode cX12_lineAt 11 = .ok (.imul, 1) := by decide +kernel
theorem dX12_lineAt_12 : decode cX12_lineAt 12 = .ok (.iadd, 1) := by decide +kernel
theorem dX12_lineAt_13 : decode cX12_lineAt 13 = .ok (.ireturn, 1) := by decide +kernel
theorem dX12_setLayout_0 : decode cX12_setLayout 0 = .ok (.aload_n 0, 1) := by decide +kernel
theorem dX12_setLayout_1 : decode cX12_setLayout 1 = .ok (.iload_n 1, 1) := by decide +kernel
theorem dX12_setLayout_2 : decode cX12_setLayout 2 = .ok (.iconst 1, 1) := by decide +kernel
theorem dX12_setLayout_3 : decode cX12_setLayout 3 = .ok (.bipush 6, 2) := by decide +kernel
theorem dX12_setLayout_5 : decode cX12_setLayout 5 = .ok (.invokestatic 73, 3) := by decide +kernel
theorem dX12_setLayout_8 : decode cX12_setLayout 8 = .ok (.ifCond .eq 23, 3) := by decide +kernel
theorem dX12_setLayout_11 : decode cX12_setLayout 11 = .ok (.iload_n 2, 1) := by decide +kernel
theorem dX12_setLayout_12 : decode cX12_setLayout 12 = .ok (.iconst 2, 1) := by decide +kernel
theorem dX12_setLayout_13 : decode cX12_setLayout 13 = .ok (.bipush 20, 2) := by decide +kernel
theorem dX12_setLayout_15 : decode cX12_setLayout 15 = .ok (.invokestatic 73, 3) := by decide +kernel
theorem dX12_setLayout_18 : decode cX12_setLayout 18 = .ok (.ifCond .eq 13, 3) := by decide +kernel
theorem dX12_setLayout_21 : decode cX12_setLayout 21 = .ok (.iload_n 3, 1) := by decide +kernel
theorem dX12_setLayout_22 : decode cX12_setLayout 22 = .ok (.iconst 1, 1) := by decide +kernel
theorem dX12_setLayout_23 : decode cX12_setLayout 23 = .ok (.bipush 9, 2) := by decide +kernel
theorem dX12_setLayout_25 : decode cX12_setLayout 25 = .ok (.invokestatic 73, 3) := by decide +kernel
theorem dX12_setLayout_28 : decode cX12_setLayout 28 = .ok (.ifCond .ne 7, 3) := by decide +kernel
theorem dX12_setLayout_31 : decode cX12_setLayout 31 = .ok (.iconst 1, 1) := by decide +kernel
theorem dX12_setLayout_32 : decode cX12_setLayout 32 = .ok (.goto 17, 3) := by decide +kernel
theorem dX12_setLayout_35 : decode cX12_setLayout 35 = .ok (.aload_n 0, 1) := by decide +kernel
theorem dX12_setLayout_36 : decode cX12_setLayout 36 = .ok (.getfield 7, 3) := by decide +kernel
theorem dX12_setLayout_39 : decode cX12_setLayout 39 = .ok (.iconst 3, 1) := by decide +kernel
theorem dX12_setLayout_40 : decode cX12_setLayout 40 = .ok (.iaload, 1) := by decide +kernel
theorem dX12_setLayout_41 : decode cX12_setLayout 41 = .ok (.ifCond .le 7, 3) := by decide +kernel
theorem dX12_setLayout_44 : decode cX12_setLayout 44 = .ok (.iconst 2, 1) := by decide +kernel
theorem dX12_setLayout_45 : decode cX12_setLayout 45 = .ok (.goto 4, 3) := by decide +kernel
theorem dX12_setLayout_48 : decode cX12_setLayout 48 = .ok (.iconst 0, 1) := by decide +kernel
theorem dX12_setLayout_49 : decode cX12_setLayout 49 = .ok (.putfield 70, 3) := by decide +kernel
theorem dX12_setLayout_52 : decode cX12_setLayout 52 = .ok (.aload_n 0, 1) := by decide +kernel
theorem dX12_setLayout_53 : decode cX12_setLayout 53 = .ok (.getfield 70, 3) := by decide +kernel
theorem dX12_setLayout_56 : decode cX12_setLayout 56 = .ok (.ifCond .le 5, 3) := by decide +kernel
theorem dX12_setLayout_59 : decode cX12_setLayout 59 = .ok (.iconst 0, 1) := by decide +kernel
theorem dX12_setLayout_60 : decode cX12_setLayout 60 = .ok (.ireturn, 1) := by decide +kernel
theorem dX12_setLayout_61 : decode cX12_setLayout 61 = .ok (.aload_n 0, 1) := by decide +kernel
theorem dX12_setLayout_62 : decode cX12_setLayout 62 = .ok (.iload_n 1, 1) := by decide +kernel
theorem dX12_setLayout_63 : decode cX12_setLayout 63 = .ok (.iload_n 2, 1) := by decide +kernel
theorem dX12_setLayout_64 : decode cX12_setLayout 64 = .ok (.iload_n 3, 1) := by decide +kernel
theorem dX12_setLayout_65 : decode cX12_setLayout 65 = .ok (.invokevirtual 81, 3) := by decide +kernel
theorem dX12_setLayout_68 : decode cX12_setLayout 68 = .ok (.iload_n 1, 1) := by decide +kernel
theorem dX12_setLayout_69 : decode cX12_setLayout 69 = .ok (.iload_n 2, 1) := by decide +kernel
theorem dX12_setLayout_70 : decode cX12_setLayout 70 = .ok (.imul, 1) := by decide +kernel
theorem dX12_setLayout_71 : decode cX12_setLayout 71 = .ok (.ireturn, 1) := by decide +kernel
theorem dX12_laysHall_0 : decode cX12_laysHall 0 = .ok (.aload_n 0, 1) := by decide +kernel
theorem dX12_laysHall_1 : decode cX12_laysHall 1 = .ok (.getfield 7, 3) := by decide +kernel
theorem dX12_laysHall_4 : decode cX12_laysHall 4 = .ok (.iconst 0, 1) := by decide +kernel
theorem dX12_laysHall_5 : decode cX12_laysHall 5 = .ok (.iload_n 1, 1) := by decide +kernel
theorem dX12_laysHall_6 : decode cX12_laysHall 6 = .ok (.iastore, 1) := by decide +kernel
theorem dX12_laysHall_7 : decode cX12_laysHall 7 = .ok (.aload_n 0, 1) := by decide +kernel
theorem dX12_laysHall_8 : decode cX12_laysHall 8 = .ok (.getfield 7, 3) := by decide +kernel
theorem dX12_laysHall_11 : decode cX12_laysHall 11 = .ok (.iconst 1, 1) := by decide +kernel
theorem dX12_laysHall_12 : decode cX12_laysHall 12 = .ok (.iload_n 2, 1) := by decide +kernel
theorem dX12_laysHall_13 : decode cX12_laysHall 13 = .ok (.iastore, 1) := by decide +kernel
theorem dX12_laysHall_14 : decode cX12_laysHall 14 = .ok (.aload_n 0, 1) := by decide +kernel
theorem dX12_laysHall_15 : decode cX12_laysHall 15 = .ok (.getfield 7, 3) := by decide +kernel
theorem dX12_laysHall_18 : decode cX12_laysHall 18 = .ok (.iconst 2, 1) := by decide +kernel
theorem dX12_laysHall_19 : decode cX12_laysHall 19 = .ok (.iload_n 3, 1) := by decide +kernel
theorem dX12_laysHall_20 : decode cX12_laysHall 20 = .ok (.iastore, 1) := by decide +kernel
theorem dX12_laysHall_21 : decode cX12_laysHall 21 = .ok (.aload_n 0, 1) := by decide +kernel
theorem dX12_laysHall_22 : decode cX12_laysHall 22 = .ok (.getfield 7, 3) := by decide +kernel
theorem dX12_laysHall_25 : decode cX12_laysHall 25 = .ok (.bipush 7, 2) := by decide +kernel
theorem dX12_laysHall_27 : decode cX12_laysHall 27 = .ok (.iconst (-1), 1) := by decide +kernel
theorem dX12_laysHall_28 : decode cX12_laysHall 28 = .ok (.iastore, 1) := by decide +kernel
theorem dX12_laysHall_29 : decode cX12_laysHall 29 = .ok (.aload_n 0, 1) := by decide +kernel
theorem dX12_laysHall_30 : decode cX12_laysHall 30 = .ok (.getfield 7, 3) := by decide +kernel
theorem dX12_laysHall_33 : decode cX12_laysHall 33 = .ok (.bipush 8, 2) := by decide +kernel
theorem dX12_laysHall_35 : decode cX12_laysHall 35 = .ok (.iconst (-1), 1) := by decide +kernel
theorem dX12_laysHall_36 : decode cX12_laysHall 36 = .ok (.iastore, 1) := by decide +kernel
theorem dX12_laysHall_37 : decode cX12_laysHall 37 = .ok (.return_, 1) := by decide +kernel
theorem dX12_aisleCount_0 : decode cX12_aisleCount 0 = .ok (.aload_n 0, 1) := by decide +kernel
theorem dX12_aisleCount_1 : decode cX12_aisleCount 1 = .ok (.iconst 0, 1) := by decide +kernel
theorem dX12_aisleCount_2 : decode cX12_aisleCount 2 = .ok (.putfield 70, 3) := by decide +kernel
theorem dX12_aisleCount_5 : decode cX12_aisleCount 5 = .ok (.aload_n 0, 1) := by decide +kernel
theorem dX12_aisleCount_6 : decode cX12_aisleCount 6 = .ok (.getfield 7, 3) := by decide +kernel
theorem dX12_aisleCount_9 : decode cX12_aisleCount 9 = .ok (.iconst 0, 1) := by decide +kernel
theorem dX12_aisleCount_10 : decode cX12_aisleCount 10 = .ok (.iaload, 1) := by decide +kernel
theorem dX12_aisleCount_11 : decode cX12_aisleCount 11 = .ok (.ireturn, 1) := by decide +kernel
theorem dX12_addItem_0 : decode cX12_addItem 0 = .ok (.aload_n 0, 1) := by decide +kernel
theorem dX12_addItem_1 : decode cX12_addItem 1 = .ok (.iload_n 1, 1) := by decide +kernel
theorem dX12_addItem_2 : decode cX12_addItem 2 = .ok (.invokevirtual 85, 3) := by decide +kernel
theorem dX12_addItem_5 : decode cX12_addItem 5 = .ok (.ifCond .eq 21, 3) := by decide +kernel
theorem dX12_addItem_8 : decode cX12_addItem 8 = .ok (.iload_n 2, 1) := by decide +kernel
theorem dX12_addItem_9 : decode cX12_addItem 9 = .ok (.iconst 1, 1) := by decide +kernel
theorem dX12_addItem_10 : decode cX12_addItem 10 = .ok (.aload_n 0, 1) := by decide +kernel
theorem dX12_addItem_11 : decode cX12_addItem 11 = .ok (.getfield 7, 3) := by decide +kernel
theorem dX12_addItem_14 : decode cX12_addItem 14 = .ok (.iconst 1, 1) := by decide +kernel
theorem dX12_addItem_15 : decode cX12_addItem 15 = .ok (.iaload, 1) := by decide +kernel
theorem dX12_addItem_16 : decode cX12_addItem 16 = .ok (.invokestatic 73, 3) := by decide +kernel
theorem dX12_addItem_19 : decode cX12_addItem 19 = .ok (.ifCond .eq 7, 3) := by decide +kernel
theorem dX12_addItem_22 : decode cX12_addItem 22 = .ok (.iconst 1, 1) := by decide +kernel
theorem dX12_addItem_23 : decode cX12_addItem 23 = .ok (.goto 4, 3) := by decide +kernel
theorem dX12_addItem_26 : decode cX12_addItem 26 = .ok (.iconst 0, 1) := by decide +kernel
theorem dX12_addItem_27 : decode cX12_addItem 27 = .ok (.istore 5, 2) := by decide +kernel
theorem dX12_addItem_29 : decode cX12_addItem 29 = .ok (.aload_n 0, 1) := by decide +kernel
theorem dX12_addItem_30 : decode cX12_addItem 30 = .ok (.iload 5, 2) := by decide +kernel
theorem dX12_addItem_32 : decode cX12_addItem 32 = .ok (.ifCond .ne 7, 3) := by decide +kernel
theorem dX12_addItem_35 : decode cX12_addItem 35 = .ok (.iconst 1, 1) := by decide +kernel
theorem dX12_addItem_36 : decode cX12_addItem 36 = .ok (.goto 45, 3) := by decide +kernel
theorem dX12_addItem_39 : decode cX12_addItem 39 = .ok (.iload_n 3, 1) := by decide +kernel
theorem dX12_addItem_40 : decode cX12_addItem 40 = .ok (.iconst 1, 1) := by decide +kernel
theorem dX12_addItem_41 : decode cX12_addItem 41 = .ok (.bipush 50, 2) := by decide +kernel
theorem dX12_addItem_43 : decode cX12_addItem 43 = .ok (.invokestatic 73, 3) := by decide +kernel
theorem dX12_addItem_46 : decode cX12_addItem 46 = .ok (.ifCond .eq 15, 3) := by decide +kernel
theorem dX12_addItem_49 : decode cX12_addItem 49 = .ok (.iload 4, 2) := by decide +kernel
theorem dX12_addItem_51 : decode cX12_addItem 51 = .ok (.iconst 0, 1) := by decide +kernel
theorem dX12_addItem_52 : decode cX12_addItem 52 = .ok (.sipush 999, 3) := by decide +kernel
theorem dX12_addItem_55 : decode cX12_addItem 55 = .ok (.invokestatic 73, 3) := by decide +kernel
theorem dX12_addItem_58 : decode cX12_addItem 58 = .ok (.ifCond .ne 7, 3) := by decide +kernel
theorem dX12_addItem_61 : decode cX12_addItem 61 = .ok (.iconst 2, 1) := by decide +kernel
theorem dX12_addItem_62 : decode cX12_addItem 62 = .ok (.goto 19, 3) := by decide +kernel
theorem dX12_addItem_65 : decode cX12_addItem 65 = .ok (.aload_n 0, 1) := by decide +kernel
theorem dX12_addItem_66 : decode cX12_addItem 66 = .ok (.getfield 7, 3) := by decide +kernel
theorem dX12_addItem_69 : decode cX12_addItem 69 = .ok (.iconst 3, 1) := by decide +kernel
theorem dX12_addItem_70 : decode cX12_addItem 70 = .ok (.iaload, 1) := by decide +kernel
theorem dX12_addItem_71 : decode cX12_addItem 71 = .ok (.bipush 24, 2) := by decide +kernel
theorem dX12_addItem_73 : decode cX12_addItem 73 = .ok (.if_icmp .ne 7, 3) := by decide +kernel
theorem dX12_addItem_76 : decode cX12_addItem 76 = .ok (.iconst 3, 1) := by decide +kernel
theorem dX12_addItem_77 : decode cX12_addItem 77 = .ok (.goto 4, 3) := by decide +kernel
theorem dX12_addItem_80 : decode cX12_addItem 80 = .ok (.iconst 0, 1) := by decide +kernel
theorem dX12_addItem_81 : decode cX12_addItem 81 = .ok (.putfield 70, 3) := by decide +kernel
theorem dX12_addItem_84 : decode cX12_addItem 84 = .ok (.aload_n 0, 1) := by decide +kernel
theorem dX12_addItem_85 : decode cX12_addItem 85 = .ok (.getfield 70, 3) := by decide +kernel
theorem dX12_addItem_88 : decode cX12_addItem 88 = .ok (.ifCond .le 7, 3) := by decide +kernel
theorem dX12_addItem_91 : decode cX12_addItem 91 = .ok (.iconst 0, 1) := by decide +kernel
theorem dX12_addItem_92 : decode cX12_addItem 92 = .ok (.goto 12, 3) := by decide +kernel
theorem dX12_addItem_95 : decode cX12_addItem 95 = .ok (.aload_n 0, 1) := by decide +kernel
theorem dX12_addItem_96 : decode cX12_addItem 96 = .ok (.iload_n 1, 1) := by decide +kernel
theorem dX12_addItem_97 : decode cX12_addItem 97 = .ok (.iload_n 2, 1) := by decide +kernel
theorem dX12_addItem_98 : decode cX12_addItem 98 = .ok (.iload_n 3, 1) := by decide +kernel
theorem dX12_addItem_99 : decode cX12_addItem 99 = .ok (.iload 4, 2) := by decide +kernel
theorem dX12_addItem_101 : decode cX12_addItem 101 = .ok (.invokevirtual 89, 3) := by decide +kernel
theorem dX12_addItem_104 : decode cX12_addItem 104 = .ok (.ireturn, 1) := by decide +kernel
theorem dX12_adds_0 : decode cX12_adds 0 = .ok (.bipush 13, 2) := by decide +kernel
theorem dX12_adds_2 : decode cX12_adds 2 = .ok (.iconst 4, 1) := by decide +kernel
theorem dX12_adds_3 : decode cX12_adds 3 = .ok (.aload_n 0, 1) := by decide +kernel
theorem dX12_adds_4 : decode cX12_adds 4 = .ok (.getfield 7, 3) := by decide +kernel
theorem dX12_adds_7 : decode cX12_adds 7 = .ok (.iconst 3, 1) := by decide +kernel
theorem dX12_adds_8 : decode cX12_adds 8 = .ok (.iaload, 1) := by decide +kernel
theorem dX12_adds_9 : decode cX12_adds 9 = .ok (.imul, 1) := by decide +kernel
theorem dX12_adds_10 : decode cX12_adds 10 = .ok (.iadd, 1) := by decide +kernel
theorem dX12_adds_11 : decode cX12_adds 11 = .ok (.istore 5, 2) := by decide +kernel
theorem dX12_adds_13 : decode cX12_adds 13 = .ok (.aload_n 0, 1) := by decide +kernel
theorem dX12_adds_14 : decode cX12_adds 14 = .ok (.getfield 7, 3) := by decide +kernel
theorem dX12_adds_17 : decode cX12_adds 17 = .ok (.iload 5, 2) := by decide +kernel
theorem dX12_adds_19 : decode cX12_adds 19 = .ok (.iload_n 1, 1) := by decide +kernel
theorem dX12_adds_20 : decode cX12_adds 20 = .ok (.iastore, 1) := by decide +kernel
theorem dX12_adds_21 : decode cX12_adds 21 = .ok (.aload_n 0, 1) := by decide +kernel
theorem dX12_adds_22 : decode cX12_adds 22 = .ok (.getfield 7, 3) := by decide +kernel
theorem dX12_adds_25 : decode cX12_adds 25 = .ok (.iload 5, 2) := by decide +kernel
theorem dX12_adds_27 : decode cX12_adds 27 = .ok (.iconst 1, 1) := by decide +kernel
theorem dX12_adds_28 : decode cX12_adds 28 = .ok (.iadd, 1) := by decide +kernel
theorem dX12_adds_29 : decode cX12_adds 29 = .ok (.iload_n 2, 1) := by decide +kernel
theorem dX12_adds_30 : decode cX12_adds 30 = .ok (.iastore, 1) := by decide +kernel
theorem dX12_adds_31 : decode cX12_adds 31 = .ok (.aload_n 0, 1) := by decide +kernel
theorem dX12_adds_32 : decode cX12_adds 32 = .ok (.getfield 7, 3) := by decide +kernel
theorem dX12_adds_35 : decode cX12_adds 35 = .ok (.iload 5, 2) := by decide +kernel
theorem dX12_adds_37 : decode cX12_adds 37 = .ok (.iconst 2, 1) := by decide +kernel
theorem dX12_adds_38 : decode cX12_adds 38 = .ok (.iadd, 1) := by decide +kernel
theorem dX12_adds_39 : decode cX12_adds 39 = .ok (.iload_n 3, 1) := by decide +kernel
theorem dX12_adds_40 : decode cX12_adds 40 = .ok (.iastore, 1) := by decide +kernel
theorem dX12_adds_41 : decode cX12_adds 41 = .ok (.aload_n 0, 1) := by decide +kernel
theorem dX12_adds_42 : decode cX12_adds 42 = .ok (.getfield 7, 3) := by decide +kernel
theorem dX12_adds_45 : decode cX12_adds 45 = .ok (.iload 5, 2) := by decide +kernel
theorem dX12_adds_47 : decode cX12_adds 47 = .ok (.iconst 3, 1) := by decide +kernel
theorem dX12_adds_48 : decode cX12_adds 48 = .ok (.iadd, 1) := by decide +kernel
theorem dX12_adds_49 : decode cX12_adds 49 = .ok (.iload 4, 2) := by decide +kernel
theorem dX12_adds_51 : decode cX12_adds 51 = .ok (.iastore, 1) := by decide +kernel
theorem dX12_adds_52 : decode cX12_adds 52 = .ok (.aload_n 0, 1) := by decide +kernel
theorem dX12_adds_53 : decode cX12_adds 53 = .ok (.getfield 7, 3) := by decide +kernel
theorem dX12_adds_56 : decode cX12_adds 56 = .ok (.iconst 3, 1) := by decide +kernel
theorem dX12_adds_57 : decode cX12_adds 57 = .ok (.dup2, 1) := by decide +kernel
theorem dX12_adds_58 : decode cX12_adds 58 = .ok (.iaload, 1) := by decide +kernel
theorem dX12_adds_59 : decode cX12_adds 59 = .ok (.iconst 1, 1) := by decide +kernel
theorem dX12_adds_60 : decode cX12_adds 60 = .ok (.iadd, 1) := by decide +kernel
theorem dX12_adds_61 : decode cX12_adds 61 = .ok (.iastore, 1) := by decide +kernel
theorem dX12_adds_62 : decode cX12_adds 62 = .ok (.aload_n 0, 1) := by decide +kernel
theorem dX12_adds_63 : decode cX12_adds 63 = .ok (.getfield 7, 3) := by decide +kernel
theorem dX12_adds_66 : decode cX12_adds 66 = .ok (.iconst 3, 1) := by decide +kernel
theorem dX12_adds_67 : decode cX12_adds 67 = .ok (.iaload, 1) := by decide +kernel
theorem dX12_adds_68 : decode cX12_adds 68 = .ok (.iconst 1, 1) := by decide +kernel
theorem dX12_adds_69 : decode cX12_adds 69 = .ok (.isub, 1) := by decide +kernel
theorem dX12_adds_70 : decode cX12_adds 70 = .ok (.ireturn, 1) := by decide +kernel
theorem dX12_itemCount_0 : decode cX12_itemCount 0 = .ok (.aload_n 0, 1) := by decide +kernel
theorem dX12_itemCount_1 : decode cX12_itemCount 1 = .ok (.iconst 0, 1) := by decide +kernel
theorem dX12_itemCount_2 : decode cX12_itemCount 2 = .ok (.putfield 70, 3) := by decide +kernel
theorem dX12_itemCount_5 : decode cX12_itemCount 5 = .ok (.aload_n 0, 1) := by decide +kernel
theorem dX12_itemCount_6 : decode cX12_itemCount 6 = .ok (.getfield 7, 3) := by decide +kernel
theorem dX12_itemCount_9 : decode cX12_itemCount 9 = .ok (.iconst 3, 1) := by decide +kernel
theorem dX12_itemCount_10 : decode cX12_itemCount 10 = .ok (.iaload, 1) := by decide +kernel
theorem dX12_itemCount_11 : decode cX12_itemCount 11 = .ok (.ireturn, 1) := by decide +kernel
theorem dX12_stock_0 : decode cX12_stock 0 = .ok (.aload_n 0, 1) := by decide +kernel
theorem dX12_stock_1 : decode cX12_stock 1 = .ok (.aload_n 0, 1) := by decide +kernel
theorem dX12_stock_2 : decode cX12_stock 2 = .ok (.iload_n 1, 1) := by decide +kernel
theorem dX12_stock_3 : decode cX12_stock 3 = .ok (.invokevirtual 93, 3) := by decide +kernel
theorem dX12_stock_6 : decode cX12_stock 6 = .ok (.ifCond .eq 7, 3) := by decide +kernel
theorem dX12_stock_9 : decode cX12_stock 9 = .ok (.iconst 0, 1) := by decide +kernel
theorem dX12_stock_10 : decode cX12_stock 10 = .ok (.goto 4, 3) := by decide +kernel
theorem dX12_stock_13 : decode cX12_stock 13 = .ok (.iconst 1, 1) := by decide +kernel
theorem dX12_stock_14 : decode cX12_stock 14 = .ok (.putfield 70, 3) := by decide +kernel
theorem dX12_stock_17 : decode cX12_stock 17 = .ok (.aload_n 0, 1) := by decide +kernel
theorem dX12_stock_18 : decode cX12_stock 18 = .ok (.getfield 70, 3) := by decide +kernel
theorem dX12_stock_21 : decode cX12_stock 21 = .ok (.ifCond .le 7, 3) := by decide +kernel
theorem dX12_stock_24 : decode cX12_stock 24 = .ok (.iconst 0, 1) := by decide +kernel
theorem dX12_stock_25 : decode cX12_stock 25 = .ok (.goto 9, 3) := by decide +kernel
theorem dX12_stock_28 : decode cX12_stock 28 = .ok (.aload_n 0, 1) := by decide +kernel
theorem dX12_stock_29 : decode cX12_stock 29 = .ok (.iload_n 1, 1) := by decide +kernel
theorem dX12_stock_30 : decode cX12_stock 30 = .ok (.iconst 3, 1) := by decide +kernel
theorem dX12_stock_31 : decode cX12_stock 31 = .ok (.invokevirtual 96, 3) := by decide +kernel
theorem dX12_stock_34 : decode cX12_stock 34 = .ok (.ireturn, 1) := by decide +kernel
theorem dX12_restock_0 : decode cX12_restock 0 = .ok (.aload_n 0, 1) := by decide +kernel
theorem dX12_restock_1 : decode cX12_restock 1 = .ok (.aload_n 0, 1) := by decide +kernel
theorem dX12_restock_2 : decode cX12_restock 2 = .ok (.iload_n 1, 1) := by decide +kernel
theorem dX12_restock_3 : decode cX12_restock 3 = .ok (.invokevirtual 93, 3) := by decide +kernel
theorem dX12_restock_6 : decode cX12_restock 6 = .ok (.ifCond .ne 7, 3) := by decide +kernel
theorem dX12_restock_9 : decode cX12_restock 9 = .ok (.iconst 1, 1) := by decide +kernel
theorem dX12_restock_10 : decode cX12_restock 10 = .ok (.goto 33, 3) := by decide +kernel
theorem dX12_restock_13 : decode cX12_restock 13 = .ok (.iload_n 2, 1) := by decide +kernel
theorem dX12_restock_14 : decode cX12_restock 14 = .ok (.iconst 1, 1) := by decide +kernel
theorem dX12_restock_15 : decode cX12_restock 15 = .ok (.sipush 999, 3) := by decide +kernel
theorem dX12_restock_18 : decode cX12_restock 18 = .ok (.invokestatic 73, 3) := by decide +kernel
theorem dX12_restock_21 : decode cX12_restock 21 = .ok (.ifCond .eq 17, 3) := by decide +kernel
theorem dX12_restock_24 : decode cX12_restock 24 = .ok (.aload_n 0, 1) := by decide +kernel
theorem dX12_restock_25 : decode cX12_restock 25 = .ok (.iload_n 1, 1) := by decide +kernel
theorem dX12_restock_26 : decode cX12_restock 26 = .ok (.iconst 3, 1) := by decide +kernel
theorem dX12_restock_27 : decode cX12_restock 27 = .ok (.invokevirtual 96, 3) := by decide +kernel
theorem dX12_restock_30 : decode cX12_restock 30 = .ok (.iload_n 2, 1) := by decide +kernel
theorem dX12_restock_31 : decode cX12_restock 31 = .ok (.iadd, 1) := by decide +kernel
theorem dX12_restock_32 : decode cX12_restock 32 = .ok (.sipush 999, 3) := by decide +kernel
theorem dX12_restock_35 : decode cX12_restock 35 = .ok (.if_icmp .le 7, 3) := by decide +kernel
theorem dX12_restock_38 : decode cX12_restock 38 = .ok (.iconst 2, 1) := by decide +kernel
theorem dX12_restock_39 : decode cX12_restock 39 = .ok (.goto 4, 3) := by decide +kernel
theorem dX12_restock_42 : decode cX12_restock 42 = .ok (.iconst 0, 1) := by decide +kernel
theorem dX12_restock_43 : decode cX12_restock 43 = .ok (.putfield 70, 3) := by decide +kernel
theorem dX12_restock_46 : decode cX12_restock 46 = .ok (.aload_n 0, 1) := by decide +kernel
theorem dX12_restock_47 : decode cX12_restock 47 = .ok (.getfield 70, 3) := by decide +kernel
theorem dX12_restock_50 : decode cX12_restock 50 = .ok (.ifCond .le 5, 3) := by decide +kernel
theorem dX12_restock_53 : decode cX12_restock 53 = .ok (.iconst 0, 1) := by decide +kernel
theorem dX12_restock_54 : decode cX12_restock 54 = .ok (.ireturn, 1) := by decide +kernel
theorem dX12_restock_55 : decode cX12_restock 55 = .ok (.aload_n 0, 1) := by decide +kernel
theorem dX12_restock_56 : decode cX12_restock 56 = .ok (.getfield 7, 3) := by decide +kernel
theorem dX12_restock_59 : decode cX12_restock 59 = .ok (.bipush 13, 2) := by decide +kernel
theorem dX12_restock_61 : decode cX12_restock 61 = .ok (.iconst 4, 1) := by decide +kernel
theorem dX12_restock_62 : decode cX12_restock 62 = .ok (.iload_n 1, 1) := by decide +kernel
theorem dX12_restock_63 : decode cX12_restock 63 = .ok (.imul, 1) := by decide +kernel
theorem dX12_restock_64 : decode cX12_restock 64 = .ok (.iadd, 1) := by decide +kernel
theorem dX12_restock_65 : decode cX12_restock 65 = .ok (.iconst 3, 1) := by decide +kernel
theorem dX12_restock_66 : decode cX12_restock 66 = .ok (.iadd, 1) := by decide +kernel
theorem dX12_restock_67 : decode cX12_restock 67 = .ok (.dup2, 1) := by decide +kernel
theorem dX12_restock_68 : decode cX12_restock 68 = .ok (.iaload, 1) := by decide +kernel
theorem dX12_restock_69 : decode cX12_restock 69 = .ok (.iload_n 2, 1) := by decide +kernel
theorem dX12_restock_70 : decode cX12_restock 70 = .ok (.iadd, 1) := by decide +kernel
theorem dX12_restock_71 : decode cX12_restock 71 = .ok (.iastore, 1) := by decide +kernel
theorem dX12_restock_72 : decode cX12_restock 72 = .ok (.aload_n 0, 1) := by decide +kernel
theorem dX12_restock_73 : decode cX12_restock 73 = .ok (.iload_n 1, 1) := by decide +kernel
theorem dX12_restock_74 : decode cX12_restock 74 = .ok (.iconst 3, 1) := by decide +kernel
theorem dX12_restock_75 : decode cX12_restock 75 = .ok (.invokevirtual 96, 3) := by decide +kernel
theorem dX12_restock_78 : decode cX12_restock 78 = .ok (.ireturn, 1) := by decide +kernel
theorem dX12_opensOrder_0 : decode cX12_opensOrder 0 = .ok (.aload_n 0, 1) := by decide +kernel
theorem dX12_opensOrder_1 : decode cX12_opensOrder 1 = .ok (.getfield 7, 3) := by decide +kernel
theorem dX12_opensOrder_4 : decode cX12_opensOrder 4 = .ok (.iconst 4, 1) := by decide +kernel
theorem dX12_opensOrder_5 : decode cX12_opensOrder 5 = .ok (.iaload, 1) := by decide +kernel
theorem dX12_opensOrder_6 : decode cX12_opensOrder 6 = .ok (.istore_n 2, 1) := by decide +kernel
theorem dX12_opensOrder_7 : decode cX12_opensOrder 7 = .ok (.iconst 0, 1) := by decide +kernel
theorem dX12_opensOrder_8 : decode cX12_opensOrder 8 = .ok (.istore_n 3, 1) := by decide +kernel
theorem dX12_opensOrder_9 : decode cX12_opensOrder 9 = .ok (.iload_n 3, 1) := by decide +kernel
theorem dX12_opensOrder_10 : decode cX12_opensOrder 10 = .ok (.bipush 22, 2) := by decide +kernel
theorem dX12_opensOrder_12 : decode cX12_opensOrder 12 = .ok (.if_icmp .ge 21, 3) := by decide +kernel
theorem dX12_opensOrder_15 : decode cX12_opensOrder 15 = .ok (.aload_n 0, 1) := by decide +kernel
theorem dX12_opensOrder_16 : decode cX12_opensOrder 16 = .ok (.getfield 7, 3) := by decide +kernel
theorem dX12_opensOrder_19 : decode cX12_opensOrder 19 = .ok (.iload_n 2, 1) := by decide +kernel
theorem dX12_opensOrder_20 : decode cX12_opensOrder 20 = .ok (.invokestatic 100, 3) := by decide +kernel
theorem dX12_opensOrder_23 : decode cX12_opensOrder 23 = .ok (.iload_n 3, 1) := by decide +kernel
theorem dX12_opensOrder_24 : decode cX12_opensOrder 24 = .ok (.iadd, 1) := by decide +kernel
theorem dX12_opensOrder_25 : decode cX12_opensOrder 25 = .ok (.iconst 0, 1) := by decide +kernel
theorem dX12_opensOrder_26 : decode cX12_opensOrder 26 = .ok (.iastore, 1) := by decide +kernel
theorem dX12_opensOrder_27 : decode cX12_opensOrder 27 = .ok (.iinc 3 1, 3) := by decide +kernel
theorem dX12_opensOrder_30 : decode cX12_opensOrder 30 = .ok (.goto (-21), 3) := by decide +kernel
theorem dX12_opensOrder_33 : decode cX12_opensOrder 33 = .ok (.aload_n 0, 1) := by decide +kernel
theorem dX12_opensOrder_34 : decode cX12_opensOrder 34 = .ok (.getfield 7, 3) := by decide +kernel
theorem dX12_opensOrder_37 : decode cX12_opensOrder 37 = .ok (.iload_n 2, 1) := by decide +kernel
theorem dX12_opensOrder_38 : decode cX12_opensOrder 38 = .ok (.invokestatic 100, 3) := by decide +kernel
theorem dX12_opensOrder_41 : decode cX12_opensOrder 41 = .ok (.iconst 0, 1) := by decide +kernel
theorem dX12_opensOrder_42 : decode cX12_opensOrder 42 = .ok (.iadd, 1) := by decide +kernel
theorem dX12_opensOrder_43 : decode cX12_opensOrder 43 = .ok (.iload_n 1, 1) := by decide +kernel
theorem dX12_opensOrder_44 : decode cX12_opensOrder 44 = .ok (.iastore, 1) := by decide +kernel
theorem dX12_opensOrder_45 : decode cX12_opensOrder 45 = .ok (.aload_n 0, 1) := by decide +kernel
theorem dX12_opensOrder_46 : decode cX12_opensOrder 46 = .ok (.getfield 7, 3) := by decide +kernel
theorem dX12_opensOrder_49 : decode cX12_opensOrder 49 = .ok (.iconst 4, 1) := by decide +kernel
theorem dX12_opensOrder_50 : decode cX12_opensOrder 50 = .ok (.dup2, 1) := by decide +kernel
theorem dX12_opensOrder_51 : decode cX12_opensOrder 51 = .ok (.iaload, 1) := by decide +kernel
theorem dX12_opensOrder_52 : decode cX12_opensOrder 52 = .ok (.iconst 1, 1) := by decide +kernel
theorem dX12_opensOrder_53 : decode cX12_opensOrder 53 = .ok (.iadd, 1) := by decide +kernel
theorem dX12_opensOrder_54 : decode cX12_opensOrder 54 = .ok (.iastore, 1) := by decide +kernel
theorem dX12_opensOrder_55 : decode cX12_opensOrder 55 = .ok (.iload_n 2, 1) := by decide +kernel
theorem dX12_opensOrder_56 : decode cX12_opensOrder 56 = .ok (.ireturn, 1) := by decide +kernel
theorem dX12_addOrder_0 : decode cX12_addOrder 0 = .ok (.aload_n 0, 1) := by decide +kernel
theorem dX12_addOrder_1 : decode cX12_addOrder 1 = .ok (.iload_n 1, 1) := by decide +kernel
theorem dX12_addOrder_2 : decode cX12_addOrder 2 = .ok (.iconst 0, 1) := by decide +kernel
theorem dX12_addOrder_3 : decode cX12_addOrder 3 = .ok (.sipush 9999, 3) := by decide +kernel
theorem dX12_addOrder_6 : decode cX12_addOrder 6 = .ok (.invokestatic 73, 3) := by decide +kernel
theorem dX12_addOrder_9 : decode cX12_addOrder 9 = .ok (.ifCond .ne 7, 3) := by decide +kernel
theorem dX12_addOrder_12 : decode cX12_addOrder 12 = .ok (.iconst 1, 1) := by decide +kernel
theorem dX12_addOrder_13 : decode cX12_addOrder 13 = .ok (.goto 19, 3) := by decide +kernel
theorem dX12_addOrder_16 : decode cX12_addOrder 16 = .ok (.aload_n 0, 1) := by decide +kernel
theorem dX12_addOrder_17 : decode cX12_addOrder 17 = .ok (.getfield 7, 3) := by decide +kernel
theorem dX12_addOrder_20 : decode cX12_addOrder 20 = .ok (.iconst 4, 1) := by decide +kernel
theorem dX12_addOrder_21 : decode cX12_addOrder 21 = .ok (.iaload, 1) := by decide +kernel
theorem dX12_addOrder_22 : decode cX12_addOrder 22 = .ok (.bipush 16, 2) := by decide +kernel
theorem dX12_addOrder_24 : decode cX12_addOrder 24 = .ok (.if_icmp .ne 7, 3) := by decide +kernel
theorem dX12_addOrder_27 : decode cX12_addOrder 27 = .ok (.iconst 2, 1) := by decide +kernel
theorem dX12_addOrder_28 : decode cX12_addOrder 28 = .ok (.goto 4, 3) := by decide +kernel
theorem dX12_addOrder_31 : decode cX12_addOrder 31 = .ok (.iconst 0, 1) := by decide +kernel
theorem dX12_addOrder_32 : decode cX12_addOrder 32 = .ok (.putfield 70, 3) := by decide +kernel
theorem dX12_addOrder_35 : decode cX12_addOrder 35 = .ok (.aload_n 0, 1) := by decide +kernel
theorem dX12_addOrder_36 : decode cX12_addOrder 36 = .ok (.getfield 70, 3) := by decide +kernel
theorem dX12_addOrder_39 : decode cX12_addOrder 39 = .ok (.ifCond .le 7, 3) := by decide +kernel
theorem dX12_addOrder_42 : decode cX12_addOrder 42 = .ok (.iconst 0, 1) := by decide +kernel
theorem dX12_addOrder_43 : decode cX12_addOrder 43 = .ok (.goto 8, 3) := by decide +kernel
theorem dX12_addOrder_46 : decode cX12_addOrder 46 = .ok (.aload_n 0, 1) := by decide +kernel
theorem dX12_addOrder_47 : decode cX12_addOrder 47 = .ok (.iload_n 1, 1) := by decide +kernel
theorem dX12_addOrder_48 : decode cX12_addOrder 48 = .ok (.invokevirtual 104, 3) := by decide +kernel
theorem dX12_addOrder_51 : decode cX12_addOrder 51 = .ok (.ireturn, 1) := by decide +kernel
theorem dX12_ofOrder_0 : decode cX12_ofOrder 0 = .ok (.aload_n 0, 1) := by decide +kernel
theorem dX12_ofOrder_1 : decode cX12_ofOrder 1 = .ok (.getfield 7, 3) := by decide +kernel
theorem dX12_ofOrder_4 : decode cX12_ofOrder 4 = .ok (.iload_n 1, 1) := by decide +kernel
theorem dX12_ofOrder_5 : decode cX12_ofOrder 5 = .ok (.invokestatic 100, 3) := by decide +kernel
theorem dX12_ofOrder_8 : decode cX12_ofOrder 8 = .ok (.iload_n 2, 1) := by decide +kernel
theorem dX12_ofOrder_9 : decode cX12_ofOrder 9 = .ok (.iadd, 1) := by decide +kernel
theorem dX12_ofOrder_10 : decode cX12_ofOrder 10 = .ok (.iaload, 1) := by decide +kernel
theorem dX12_ofOrder_11 : decode cX12_ofOrder 11 = .ok (.ireturn, 1) := by decide +kernel
theorem dX12_hasLine_0 : decode cX12_hasLine 0 = .ok (.iconst 0, 1) := by decide +kernel
theorem dX12_hasLine_1 : decode cX12_hasLine 1 = .ok (.istore_n 3, 1) := by decide +kernel
theorem dX12_hasLine_2 : decode cX12_hasLine 2 = .ok (.iconst 0, 1) := by decide +kernel
theorem dX12_hasLine_3 : decode cX12_hasLine 3 = .ok (.istore 4, 2) := by decide +kernel
theorem dX12_hasLine_5 : decode cX12_hasLine 5 = .ok (.iload 4, 2) := by decide +kernel
theorem dX12_hasLine_7 : decode cX12_hasLine 7 = .ok (.aload_n 0, 1) := by decide +kernel
theorem dX12_hasLine_8 : decode cX12_hasLine 8 = .ok (.iload_n 1, 1) := by decide +kernel
theorem dX12_hasLine_9 : decode cX12_hasLine 9 = .ok (.iconst 2, 1) := by decide +kernel
theorem dX12_hasLine_10 : decode cX12_hasLine 10 = .ok (.invokevirtual 107, 3) := by decide +kernel
theorem dX12_hasLine_13 : decode cX12_hasLine 13 = .ok (.if_icmp .ge 34, 3) := by decide +kernel
theorem dX12_hasLine_16 : decode cX12_hasLine 16 = .ok (.iload_n 3, 1) := by decide +kernel
theorem dX12_hasLine_17 : decode cX12_hasLine 17 = .ok (.ifCond .ne 18, 3) := by decide +kernel
theorem dX12_hasLine_20 : decode cX12_hasLine 20 = .ok (.aload_n 0, 1) := by decide +kernel
theorem dX12_hasLine_21 : decode cX12_hasLine 21 = .ok (.getfield 7, 3) := by decide +kernel
theorem dX12_hasLine_24 : decode cX12_hasLine 24 = .ok (.iload_n 1, 1) := by decide +kernel
theorem dX12_hasLine_25 : decode cX12_hasLine 25 = .ok (.iload 4, 2) := by decide +kernel
theorem dX12_hasLine_27 : decode cX12_hasLine 27 = .ok (.invokestatic 110, 3) := by decide +kernel
theorem dX12_hasLine_30 : decode cX12_hasLine 30 = .ok (.iaload, 1) := by decide +kernel
theorem dX12_hasLine_31 : decode cX12_hasLine 31 = .ok (.iload_n 2, 1) := by decide +kernel
theorem dX12_hasLine_32 : decode cX12_hasLine 32 = .ok (.if_icmp .ne 7, 3) := by decide +kernel
theorem dX12_hasLine_35 : decode cX12_hasLine 35 = .ok (.iconst 1, 1) := by decide +kernel
theorem dX12_hasLine_36 : decode cX12_hasLine 36 = .ok (.goto 4, 3) := by decide +kernel
theorem dX12_hasLine_39 : decode cX12_hasLine 39 = .ok (.iconst 0, 1) := by decide +kernel
theorem dX12_hasLine_40 : decode cX12_hasLine 40 = .ok (.istore_n 3, 1) := by decide +kernel
theorem dX12_hasLine_41 : decode cX12_hasLine 41 = .ok (.iinc 4 1, 3) := by decide +kernel
theorem dX12_hasLine_44 : decode cX12_hasLine 44 = .ok (.goto (-39), 3) := by decide +kernel
theorem dX12_hasLine_47 : decode cX12_hasLine 47 = .ok (.iload_n 3, 1) := by decide +kernel
theorem dX12_hasLine_48 : decode cX12_hasLine 48 = .ok (.ireturn, 1) := by decide +kernel
theorem dX12_addsLine_0 : decode cX12_addsLine 0 = .ok (.aload_n 0, 1) := by decide +kernel
theorem dX12_addsLine_1 : decode cX12_addsLine 1 = .ok (.iload_n 1, 1) := by decide +kernel
theorem dX12_addsLine_2 : decode cX12_addsLine 2 = .ok (.iconst 2, 1) := by decide +kernel
theorem dX12_addsLine_3 : decode cX12_addsLine 3 = .ok (.invokevirtual 107, 3) := by decide +kernel
theorem dX12_addsLine_6 : decode cX12_addsLine 6 = .ok (.istore 4, 2) := by decide +kernel
theorem dX12_addsLine_8 : decode cX12_addsLine 8 = .ok (.aload_n 0, 1) := by decide +kernel
theorem dX12_addsLine_9 : decode cX12_addsLine 9 = .ok (.getfield 7, 3) := by decide +kernel
theorem dX12_addsLine_12 : decode cX12_addsLine 12 = .ok (.iload_n 1, 1) := by decide +kernel
theorem dX12_addsLine_13 : decode cX12_addsLine 13 = .ok (.iload 4, 2) := by decide +kernel
theorem dX12_addsLine_15 : decode cX12_addsLine 15 = .ok (.invokestatic 110, 3) := by decide +kernel
theorem dX12_addsLine_18 : decode cX12_addsLine 18 = .ok (.iload_n 2, 1) := by decide +kernel
theorem dX12_addsLine_19 : decode cX12_addsLine 19 = .ok (.iastore, 1) := by decide +kernel
theorem dX12_addsLine_20 : decode cX12_addsLine 20 = .ok (.aload_n 0, 1) := by decide +kernel
theorem dX12_addsLine_21 : decode cX12_addsLine 21 = .ok (.getfield 7, 3) := by decide +kernel
theorem dX12_addsLine_24 : decode cX12_addsLine 24 = .ok (.iload_n 1, 1) := by decide +kernel
theorem dX12_addsLine_25 : decode cX12_addsLine 25 = .ok (.iload 4, 2) := by decide +kernel
theorem dX12_addsLine_27 : decode cX12_addsLine 27 = .ok (.invokestatic 110, 3) := by decide +kernel
theorem dX12_addsLine_30 : decode cX12_addsLine 30 = .ok (.iconst 1, 1) := by decide +kernel
theorem dX12_addsLine_31 : decode cX12_addsLine 31 = .ok (.iadd, 1) := by decide +kernel
theorem dX12_addsLine_32 : decode cX12_addsLine 32 = .ok (.iload_n 3, 1) := by decide +kernel
theorem dX12_addsLine_33 : decode cX12_addsLine 33 = .ok (.iastore, 1) := by decide +kernel
theorem dX12_addsLine_34 : decode cX12_addsLine 34 = .ok (.aload_n 0, 1) := by decide +kernel
theorem dX12_addsLine_35 : decode cX12_addsLine 35 = .ok (.getfield 7, 3) := by decide +kernel
theorem dX12_addsLine_38 : decode cX12_addsLine 38 = .ok (.iload_n 1, 1) := by decide +kernel
theorem dX12_addsLine_39 : decode cX12_addsLine 39 = .ok (.iload 4, 2) := by decide +kernel
theorem dX12_addsLine_41 : decode cX12_addsLine 41 = .ok (.invokestatic 110, 3) := by decide +kernel
theorem dX12_addsLine_44 : decode cX12_addsLine 44 = .ok (.iconst 2, 1) := by decide +kernel
theorem dX12_addsLine_45 : decode cX12_addsLine 45 = .ok (.iadd, 1) := by decide +kernel
theorem dX12_addsLine_46 : decode cX12_addsLine 46 = .ok (.iconst 0, 1) := by decide +kernel
theorem dX12_addsLine_47 : decode cX12_addsLine 47 = .ok (.iastore, 1) := by decide +kernel
theorem dX12_addsLine_48 : decode cX12_addsLine 48 = .ok (.aload_n 0, 1) := by decide +kernel
theorem dX12_addsLine_49 : decode cX12_addsLine 49 = .ok (.getfield 7, 3) := by decide +kernel
theorem dX12_addsLine_52 : decode cX12_addsLine 52 = .ok (.iload_n 1, 1) := by decide +kernel
theorem dX12_addsLine_53 : decode cX12_addsLine 53 = .ok (.invokestatic 100, 3) := by decide +kernel
theorem dX12_addsLine_56 : decode cX12_addsLine 56 = .ok (.iconst 2, 1) := by decide +kernel
theorem dX12_addsLine_57 : decode cX12_addsLine 57 = .ok (.iadd, 1) := by decide +kernel
theorem dX12_addsLine_58 : decode cX12_addsLine 58 = .ok (.dup2, 1) := by decide +kernel
theorem dX12_addsLine_59 : decode cX12_addsLine 59 = .ok (.iaload, 1) := by decide +kernel
theorem dX12_addsLine_60 : decode cX12_addsLine 60 = .ok (.iconst 1, 1) := by decide +kernel
theorem dX12_addsLine_61 : decode cX12_addsLine 61 = .ok (.iadd, 1) := by decide +kernel
theorem dX12_addsLine_62 : decode cX12_addsLine 62 = .ok (.iastore, 1) := by decide +kernel
theorem dX12_addsLine_63 : decode cX12_addsLine 63 = .ok (.iload 4, 2) := by decide +kernel
theorem dX12_addsLine_65 : decode cX12_addsLine 65 = .ok (.ireturn, 1) := by decide +kernel
theorem dX12_addLine_0 : decode cX12_addLine 0 = .ok (.aload_n 0, 1) := by decide +kernel
theorem dX12_addLine_1 : decode cX12_addLine 1 = .ok (.iload_n 1, 1) := by decide +kernel
theorem dX12_addLine_2 : decode cX12_addLine 2 = .ok (.invokevirtual 113, 3) := by decide +kernel
theorem dX12_addLine_5 : decode cX12_addLine 5 = .ok (.ifCond .eq 15, 3) := by decide +kernel
theorem dX12_addLine_8 : decode cX12_addLine 8 = .ok (.aload_n 0, 1) := by decide +kernel
theorem dX12_addLine_9 : decode cX12_addLine 9 = .ok (.iload_n 2, 1) := by decide +kernel
theorem dX12_addLine_10 : decode cX12_addLine 10 = .ok (.invokevirtual 93, 3) := by decide +kernel
theorem dX12_addLine_13 : decode cX12_addLine 13 = .ok (.ifCond .eq 7, 3) := by decide +kernel
theorem dX12_addLine_16 : decode cX12_addLine 16 = .ok (.iconst 1, 1) := by decide +kernel
theorem dX12_addLine_17 : decode cX12_addLine 17 = .ok (.goto 4, 3) := by decide +kernel
theorem dX12_addLine_20 : decode cX12_addLine 20 = .ok (.iconst 0, 1) := by decide +kernel
theorem dX12_addLine_21 : decode cX12_addLine 21 = .ok (.istore 4, 2) := by decide +kernel
theorem dX12_addLine_23 : decode cX12_addLine 23 = .ok (.aload_n 0, 1) := by decide +kernel
theorem dX12_addLine_24 : decode cX12_addLine 24 = .ok (.iload 4, 2) := by decide +kernel
theorem dX12_addLine_26 : decode cX12_addLine 26 = .ok (.ifCond .ne 7, 3) := by decide +kernel
theorem dX12_addLine_29 : decode cX12_addLine 29 = .ok (.iconst 1, 1) := by decide +kernel
theorem dX12_addLine_30 : decode cX12_addLine 30 = .ok (.goto 51, 3) := by decide +kernel
theorem dX12_addLine_33 : decode cX12_addLine 33 = .ok (.iload_n 3, 1) := by decide +kernel
theorem dX12_addLine_34 : decode cX12_addLine 34 = .ok (.iconst 1, 1) := by decide +kernel
theorem dX12_addLine_35 : decode cX12_addLine 35 = .ok (.bipush 99, 2) := by decide +kernel
theorem dX12_addLine_37 : decode cX12_addLine 37 = .ok (.invokestatic 73, 3) := by decide +kernel
theorem dX12_addLine_40 : decode cX12_addLine 40 = .ok (.ifCond .ne 7, 3) := by decide +kernel
theorem dX12_addLine_43 : decode cX12_addLine 43 = .ok (.iconst 2, 1) := by decide +kernel
theorem dX12_addLine_44 : decode cX12_addLine 44 = .ok (.goto 37, 3) := by decide +kernel
theorem dX12_addLine_47 : decode cX12_addLine 47 = .ok (.aload_n 0, 1) := by decide +kernel
theorem dX12_addLine_48 : decode cX12_addLine 48 = .ok (.iload_n 1, 1) := by decide +kernel
theorem dX12_addLine_49 : decode cX12_addLine 49 = .ok (.iconst 1, 1) := by decide +kernel
theorem dX12_addLine_50 : decode cX12_addLine 50 = .ok (.invokevirtual 107, 3) := by decide +kernel
theorem dX12_addLine_53 : decode cX12_addLine 53 = .ok (.ifCond .ne 23, 3) := by decide +kernel
theorem dX12_addLine_56 : decode cX12_addLine 56 = .ok (.aload_n 0, 1) := by decide +kernel
theorem dX12_addLine_57 : decode cX12_addLine 57 = .ok (.iload_n 1, 1) := by decide +kernel
theorem dX12_addLine_58 : decode cX12_addLine 58 = .ok (.iconst 2, 1) := by decide +kernel
theorem dX12_addLine_59 : decode cX12_addLine 59 = .ok (.invokevirtual 107, 3) := by decide +kernel
theorem dX12_addLine_62 : decode cX12_addLine 62 = .ok (.bipush 6, 2) := by decide +kernel
theorem dX12_addLine_64 : decode cX12_addLine 64 = .ok (.if_icmp .eq 12, 3) := by decide +kernel
theorem dX12_addLine_67 : decode cX12_addLine 67 = .ok (.aload_n 0, 1) := by decide +kernel
theorem dX12_addLine_68 : decode cX12_addLine 68 = .ok (.iload_n 1, 1) := by decide +kernel
theorem dX12_addLine_69 : decode cX12_addLine 69 = .ok (.iload_n 2, 1) := by decide +kernel
theorem dX12_addLine_70 : decode cX12_addLine 70 = .ok (.invokevirtual 116, 3) := by decide +kernel
theorem dX12_addLine_73 : decode cX12_addLine 73 = .ok (.ifCond .eq 7, 3) := by decide +kernel
theorem dX12_addLine_76 : decode cX12_addLine 76 = .ok (.iconst 3, 1) := by decide +kernel
theorem dX12_addLine_77 : decode cX12_addLine 77 = .ok (.goto 4, 3) := by decide +kernel
theorem dX12_addLine_80 : decode cX12_addLine 80 = .ok (.iconst 0, 1) := by decide +kernel
theorem dX12_addLine_81 : decode cX12_addLine 81 = .ok (.putfield 70, 3) := by decide +kernel
theorem dX12_addLine_84 : decode cX12_addLine 84 = .ok (.aload_n 0, 1) := by decide +kernel
theorem dX12_addLine_85 : decode cX12_addLine 85 = .ok (.getfield 70, 3) := by decide +kernel
theorem dX12_addLine_88 : decode cX12_addLine 88 = .ok (.ifCond .le 7, 3) := by decide +kernel
theorem dX12_addLine_91 : decode cX12_addLine 91 = .ok (.iconst 0, 1) := by decide +kernel
theorem dX12_addLine_92 : decode cX12_addLine 92 = .ok (.goto 10, 3) := by decide +kernel
theorem dX12_addLine_95 : decode cX12_addLine 95 = .ok (.aload_n 0, 1) := by decide +kernel
theorem dX12_addLine_96 : decode cX12_addLine 96 = .ok (.iload_n 1, 1) := by decide +kernel
theorem dX12_addLine_97 : decode cX12_addLine 97 = .ok (.iload_n 2, 1) := by decide +kernel
theorem dX12_addLine_98 : decode cX12_addLine 98 = .ok (.iload_n 3, 1) := by decide +kernel
theorem dX12_addLine_99 : decode cX12_addLine 99 = .ok (.invokevirtual 120, 3) := by decide +kernel
theorem dX12_addLine_102 : decode cX12_addLine 102 = .ok (.ireturn, 1) := by decide +kernel
theorem dX12_orderCount_0 : decode cX12_orderCount 0 = .ok (.aload_n 0, 1) := by decide +kernel
theorem dX12_orderCount_1 : decode cX12_orderCount 1 = .ok (.iconst 0, 1) := by decide +kernel
theorem dX12_orderCount_2 : decode cX12_orderCount 2 = .ok (.putfield 70, 3) := by decide +kernel
theorem dX12_orderCount_5 : decode cX12_orderCount 5 = .ok (.aload_n 0, 1) := by decide +kernel
theorem dX12_orderCount_6 : decode cX12_orderCount 6 = .ok (.getfield 7, 3) := by decide +kernel
theorem dX12_orderCount_9 : decode cX12_orderCount 9 = .ok (.iconst 4, 1) := by decide +kernel
theorem dX12_orderCount_10 : decode cX12_orderCount 10 = .ok (.iaload, 1) := by decide +kernel
theorem dX12_orderCount_11 : decode cX12_orderCount 11 = .ok (.ireturn, 1) := by decide +kernel
theorem dX12_told_0 : decode cX12_told 0 = .ok (.aload_n 0, 1) := by decide +kernel
theorem dX12_told_1 : decode cX12_told 1 = .ok (.aload_n 0, 1) := by decide +kernel
theorem dX12_told_2 : decode cX12_told 2 = .ok (.iload_n 1, 1) := by decide +kernel
theorem dX12_told_3 : decode cX12_told 3 = .ok (.invokevirtual 113, 3) := by decide +kernel
theorem dX12_told_6 : decode cX12_told 6 = .ok (.ifCond .eq 7, 3) := by decide +kernel
theorem dX12_told_9 : decode cX12_told 9 = .ok (.iconst 0, 1) := by decide +kernel
theorem dX12_told_10 : decode cX12_told 10 = .ok (.goto 4, 3) := by decide +kernel
theorem dX12_told_13 : decode cX12_told 13 = .ok (.iconst 1, 1) := by decide +kernel
theorem dX12_told_14 : decode cX12_told 14 = .ok (.putfield 70, 3) := by decide +kernel
theorem dX12_told_17 : decode cX12_told 17 = .ok (.aload_n 0, 1) := by decide +kernel
theorem dX12_told_18 : decode cX12_told 18 = .ok (.getfield 70, 3) := by decide +kernel
theorem dX12_told_21 : decode cX12_told 21 = .ok (.ifCond .le 7, 3) := by decide +kernel
theorem dX12_told_24 : decode cX12_told 24 = .ok (.iconst 0, 1) := by decide +kernel
theorem dX12_told_25 : decode cX12_told 25 = .ok (.goto 9, 3) := by decide +kernel
theorem dX12_told_28 : decode cX12_told 28 = .ok (.aload_n 0, 1) := by decide +kernel
theorem dX12_told_29 : decode cX12_told 29 = .ok (.iload_n 1, 1) := by decide +kernel
theorem dX12_told_30 : decode cX12_told 30 = .ok (.iload_n 2, 1) := by decide +kernel
theorem dX12_told_31 : decode cX12_told 31 = .ok (.invokevirtual 107, 3) := by decide +kernel
theorem dX12_told_34 : decode cX12_told 34 = .ok (.ireturn, 1) := by decide +kernel
theorem dX12_orderState_0 : decode cX12_orderState 0 = .ok (.aload_n 0, 1) := by decide +kernel
theorem dX12_orderState_1 : decode cX12_orderState 1 = .ok (.iload_n 1, 1) := by decide +kernel
theorem dX12_orderState_2 : decode cX12_orderState 2 = .ok (.iconst 1, 1) := by decide +kernel
theorem dX12_orderState_3 : decode cX12_orderState 3 = .ok (.invokevirtual 124, 3) := by decide +kernel
theorem dX12_orderState_6 : decode cX12_orderState 6 = .ok (.ireturn, 1) := by decide +kernel
theorem dX12_lineCount_0 : decode cX12_lineCount 0 = .ok (.aload_n 0, 1) := by decide +kernel
theorem dX12_lineCount_1 : decode cX12_lineCount 1 = .ok (.iload_n 1, 1) := by decide +kernel
theorem dX12_lineCount_2 : decode cX12_lineCount 2 = .ok (.iconst 2, 1) := by decide +kernel
theorem dX12_lineCount_3 : decode cX12_lineCount 3 = .ok (.invokevirtual 124, 3) := by decide +kernel
theorem dX12_lineCount_6 : decode cX12_lineCount 6 = .ok (.ireturn, 1) := by decide +kernel
theorem dX12_due_0 : decode cX12_due 0 = .ok (.aload_n 0, 1) := by decide +kernel
theorem dX12_due_1 : decode cX12_due 1 = .ok (.iload_n 1, 1) := by decide +kernel
theorem dX12_due_2 : decode cX12_due 2 = .ok (.iconst 0, 1) := by decide +kernel
theorem dX12_due_3 : decode cX12_due 3 = .ok (.invokevirtual 124, 3) := by decide +kernel
theorem dX12_due_6 : decode cX12_due 6 = .ok (.ireturn, 1) := by decide +kernel
theorem dX12_isAlive_0 : decode cX12_isAlive 0 = .ok (.aload_n 0, 1) := by decide +kernel
theorem dX12_isAlive_1 : decode cX12_isAlive 1 = .ok (.iload_n 1, 1) := by decide +kernel
theorem dX12_isAlive_2 : decode cX12_isAlive 2 = .ok (.iconst 1, 1) := by decide +kernel
theorem dX12_isAlive_3 : decode cX12_isAlive 3 = .ok (.invokevirtual 107, 3) := by decide +kernel
theorem dX12_isAlive_6 : decode cX12_isAlive 6 = .ok (.iconst 2, 1) := by decide +kernel
theorem dX12_isAlive_7 : decode cX12_isAlive 7 = .ok (.if_icmp .ge 7, 3) := by decide +kernel
theorem dX12_isAlive_10 : decode cX12_isAlive 10 = .ok (.iconst 1, 1) := by decide +kernel
theorem dX12_isAlive_11 : decode cX12_isAlive 11 = .ok (.goto 4, 3) := by decide +kernel
theorem dX12_isAlive_14 : decode cX12_isAlive 14 = .ok (.iconst 0, 1) := by decide +kernel
theorem dX12_isAlive_15 : decode cX12_isAlive 15 = .ok (.ireturn, 1) := by decide +kernel
theorem dX12_setDue_0 : decode cX12_setDue 0 = .ok (.aload_n 0, 1) := by decide +kernel
theorem dX12_setDue_1 : decode cX12_setDue 1 = .ok (.aload_n 0, 1) := by decide +kernel
theorem dX12_setDue_2 : decode cX12_setDue 2 = .ok (.iload_n 1, 1) := by decide +kernel
theorem dX12_setDue_3 : decode cX12_setDue 3 = .ok (.invokevirtual 113, 3) := by decide +kernel
theorem dX12_setDue_6 : decode cX12_setDue 6 = .ok (.ifCond .ne 7, 3) := by decide +kernel
theorem dX12_setDue_9 : decode cX12_setDue 9 = .ok (.iconst 1, 1) := by decide +kernel
theorem dX12_setDue_10 : decode cX12_setDue 10 = .ok (.goto 31, 3) := by decide +kernel
theorem dX12_setDue_13 : decode cX12_setDue 13 = .ok (.iload_n 2, 1) := by decide +kernel
theorem dX12_setDue_14 : decode cX12_setDue 14 = .ok (.iconst 0, 1) := by decide +kernel
theorem dX12_setDue_15 : decode cX12_setDue 15 = .ok (.sipush 9999, 3) := by decide +kernel
theorem dX12_setDue_18 : decode cX12_setDue 18 = .ok (.invokestatic 73, 3) := by decide +kernel
theorem dX12_setDue_21 : decode cX12_setDue 21 = .ok (.ifCond .ne 7, 3) := by decide +kernel
theorem dX12_setDue_24 : decode cX12_setDue 24 = .ok (.iconst 2, 1) := by decide +kernel
theorem dX12_setDue_25 : decode cX12_setDue 25 = .ok (.goto 16, 3) := by decide +kernel
theorem dX12_setDue_28 : decode cX12_setDue 28 = .ok (.aload_n 0, 1) := by decide +kernel
theorem dX12_setDue_29 : decode cX12_setDue 29 = .ok (.iload_n 1, 1) := by decide +kernel
theorem dX12_setDue_30 : decode cX12_setDue 30 = .ok (.invokevirtual 127, 3) := by decide +kernel
theorem dX12_setDue_33 : decode cX12_setDue 33 = .ok (.ifCond .ne 7, 3) := by decide +kernel
theorem dX12_setDue_36 : decode cX12_setDue 36 = .ok (.iconst 3, 1) := by decide +kernel
theorem dX12_setDue_37 : decode cX12_setDue 37 = .ok (.goto 4, 3) := by decide +kernel
theorem dX12_setDue_40 : decode cX12_setDue 40 = .ok (.iconst 0, 1) := by decide +kernel
theorem dX12_setDue_41 : decode cX12_setDue 41 = .ok (.putfield 70, 3) := by decide +kernel
theorem dX12_setDue_44 : decode cX12_setDue 44 = .ok (.aload_n 0, 1) := by decide +kernel
theorem dX12_setDue_45 : decode cX12_setDue 45 = .ok (.getfield 70, 3) := by decide +kernel
theorem dX12_setDue_48 : decode cX12_setDue 48 = .ok (.ifCond .le 5, 3) := by decide +kernel
theorem dX12_setDue_51 : decode cX12_setDue 51 = .ok (.iconst 0, 1) := by decide +kernel
theorem dX12_setDue_52 : decode cX12_setDue 52 = .ok (.ireturn, 1) := by decide +kernel
theorem dX12_setDue_53 : decode cX12_setDue 53 = .ok (.aload_n 0, 1) := by decide +kernel
theorem dX12_setDue_54 : decode cX12_setDue 54 = .ok (.iload_n 1, 1) := by decide +kernel
theorem dX12_setDue_55 : decode cX12_setDue 55 = .ok (.iconst 0, 1) := by decide +kernel
theorem dX12_setDue_56 : decode cX12_setDue 56 = .ok (.invokevirtual 107, 3) := by decide +kernel
theorem dX12_setDue_59 : decode cX12_setDue 59 = .ok (.istore_n 3, 1) := by decide +kernel
theorem dX12_setDue_60 : decode cX12_setDue 60 = .ok (.aload_n 0, 1) := by decide +kernel
theorem dX12_setDue_61 : decode cX12_setDue 61 = .ok (.getfield 7, 3) := by decide +kernel
theorem dX12_setDue_64 : decode cX12_setDue 64 = .ok (.iload_n 1, 1) := by decide +kernel
theorem dX12_setDue_65 : decode cX12_setDue 65 = .ok (.invokestatic 100, 3) := by decide +kernel
theorem dX12_setDue_68 : decode cX12_setDue 68 = .ok (.iconst 0, 1) := by decide +kernel
theorem dX12_setDue_69 : decode cX12_setDue 69 = .ok (.iadd, 1) := by decide +kernel
theorem dX12_setDue_70 : decode cX12_setDue 70 = .ok (.iload_n 2, 1) := by decide +kernel
theorem dX12_setDue_71 : decode cX12_setDue 71 = .ok (.iastore, 1) := by decide +kernel
theorem dX12_setDue_72 : decode cX12_setDue 72 = .ok (.iload_n 3, 1) := by decide +kernel
theorem dX12_setDue_73 : decode cX12_setDue 73 = .ok (.ireturn, 1) := by decide +kernel
theorem dX12_weightOf_0 : decode cX12_weightOf 0 = .ok (.iconst 0, 1) := by decide +kernel
theorem dX12_weightOf_1 : decode cX12_weightOf 1 = .ok (.istore_n 2, 1) := by decide +kernel
theorem dX12_weightOf_2 : decode cX12_weightOf 2 = .ok (.iconst 0, 1) := by decide +kernel
theorem dX12_weightOf_3 : decode cX12_weightOf 3 = .ok (.istore_n 3, 1) := by decide +kernel
theorem dX12_weightOf_4 : decode cX12_weightOf 4 = .ok (.iload_n 3, 1) := by decide +kernel
theorem dX12_weightOf_5 : decode cX12_weightOf 5 = .ok (.aload_n 0, 1) := by decide +kernel
theorem dX12_weightOf_6 : decode cX12_weightOf 6 = .ok (.iload_n 1, 1) := by decide +kernel
theorem dX12_weightOf_7 : decode cX12_weightOf 7 = .ok (.iconst 2, 1) := by decide +kernel
theorem dX12_weightOf_8 : decode cX12_weightOf 8 = .ok (.invokevirtual 107, 3) := by decide +kernel
theorem dX12_weightOf_11 : decode cX12_weightOf 11 = .ok (.if_icmp .ge 40, 3) := by decide +kernel
theorem dX12_weightOf_14 : decode cX12_weightOf 14 = .ok (.iload_n 2, 1) := by decide +kernel
theorem dX12_weightOf_15 : decode cX12_weightOf 15 = .ok (.aload_n 0, 1) := by decide +kernel
theorem dX12_weightOf_16 : decode cX12_weightOf 16 = .ok (.getfield 7, 3) := by decide +kernel
theorem dX12_weightOf_19 : decode cX12_weightOf 19 = .ok (.iload_n 1, 1) := by decide +kernel
theorem dX12_weightOf_20 : decode cX12_weightOf 20 = .ok (.iload_n 3, 1) := by decide +kernel
theorem dX12_weightOf_21 : decode cX12_weightOf 21 = .ok (.invokestatic 110, 3) := by decide +kernel
theorem dX12_weightOf_24 : decode cX12_weightOf 24 = .ok (.iconst 1, 1) := by decide +kernel
theorem dX12_weightOf_25 : decode cX12_weightOf 25 = .ok (.iadd, 1) := by decide +kernel
theorem dX12_weightOf_26 : decode cX12_weightOf 26 = .ok (.iaload, 1) := by decide +kernel
theorem dX12_weightOf_27 : decode cX12_weightOf 27 = .ok (.aload_n 0, 1) := by decide +kernel
theorem dX12_weightOf_28 : decode cX12_weightOf 28 = .ok (.aload_n 0, 1) := by decide +kernel
theorem dX12_weightOf_29 : decode cX12_weightOf 29 = .ok (.getfield 7, 3) := by decide +kernel
theorem dX12_weightOf_32 : decode cX12_weightOf 32 = .ok (.iload_n 1, 1) := by decide +kernel
theorem dX12_weightOf_33 : decode cX12_weightOf 33 = .ok (.iload_n 3, 1) := by decide +kernel
theorem dX12_weightOf_34 : decode cX12_weightOf 34 = .ok (.invokestatic 110, 3) := by decide +kernel
theorem dX12_weightOf_37 : decode cX12_weightOf 37 = .ok (.iaload, 1) := by decide +kernel
theorem dX12_weightOf_38 : decode cX12_weightOf 38 = .ok (.iconst 2, 1) := by decide +kernel
theorem dX12_weightOf_39 : decode cX12_weightOf 39 = .ok (.invokevirtual 96, 3) := by decide +kernel
theorem dX12_weightOf_42 : decode cX12_weightOf 42 = .ok (.imul, 1) := by decide +kernel
theorem dX12_weightOf_43 : decode cX12_weightOf 43 = .ok (.iadd, 1) := by decide +kernel
theorem dX12_weightOf_44 : decode cX12_weightOf 44 = .ok (.istore_n 2, 1) := by decide +kernel
theorem dX12_weightOf_45 : decode cX12_weightOf 45 = .ok (.iinc 3 1, 3) := by decide +kernel
theorem dX12_weightOf_48 : decode cX12_weightOf 48 = .ok (.goto (-44), 3) := by decide +kernel
theorem dX12_weightOf_51 : decode cX12_weightOf 51 = .ok (.iload_n 2, 1) := by decide +kernel
theorem dX12_weightOf_52 : decode cX12_weightOf 52 = .ok (.ireturn, 1) := by decide +kernel
theorem dX12_orderWeight_0 : decode cX12_orderWeight 0 = .ok (.aload_n 0, 1) := by decide +kernel
theorem dX12_orderWeight_1 : decode cX12_orderWeight 1 = .ok (.aload_n 0, 1) := by decide +kernel
theorem dX12_orderWeight_2 : decode cX12_orderWeight 2 = .ok (.iload_n 1, 1) := by decide +kernel
theorem dX12_orderWeight_3 : decode cX12_orderWeight 3 = .ok (.invokevirtual 113, 3) := by decide +kernel
theorem dX12_orderWeight_6 : decode cX12_orderWeight 6 = .ok (.ifCond .eq 7, 3) := by decide +kernel
theorem dX12_orderWeight_9 : decode cX12_orderWeight 9 = .ok (.iconst 0, 1) := by decide +kernel
theorem dX12_orderWeight_10 : decode cX12_orderWeight 10 = .ok (.goto 4, 3) := by decide +kernel
theorem dX12_orderWeight_13 : decode cX12_orderWeight 13 = .ok (.iconst 1, 1) := by decide +kernel
theorem dX12_orderWeight_14 : decode cX12_orderWeight 14 = .ok (.putfield 70, 3) := by decide +kernel
theorem dX12_orderWeight_17 : decode cX12_orderWeight 17 = .ok (.aload_n 0, 1) := by decide +kernel
theorem dX12_orderWeight_18 : decode cX12_orderWeight 18 = .ok (.getfield 70, 3) := by decide +kernel
theorem dX12_orderWeight_21 : decode cX12_orderWeight 21 = .ok (.ifCond .le 7, 3) := by decide +kernel
theorem dX12_orderWeight_24 : decode cX12_orderWeight 24 = .ok (.iconst 0, 1) := by decide +kernel
theorem dX12_orderWeight_25 : decode cX12_orderWeight 25 = .ok (.goto 8, 3) := by decide +kernel
theorem dX12_orderWeight_28 : decode cX12_orderWeight 28 = .ok (.aload_n 0, 1) := by decide +kernel
theorem dX12_orderWeight_29 : decode cX12_orderWeight 29 = .ok (.iload_n 1, 1) := by decide +kernel
theorem dX12_orderWeight_30 : decode cX12_orderWeight 30 = .ok (.invokevirtual 130, 3) := by decide +kernel
theorem dX12_orderWeight_33 : decode cX12_orderWeight 33 = .ok (.ireturn, 1) := by decide +kernel
theorem dX12_aislesOf_0 : decode cX12_aislesOf 0 = .ok (.iconst 0, 1) := by decide +kernel
theorem dX12_aislesOf_1 : decode cX12_aislesOf 1 = .ok (.istore_n 2, 1) := by decide +kernel
theorem dX12_aislesOf_2 : decode cX12_aislesOf 2 = .ok (.iconst 0, 1) := by decide +kernel
theorem dX12_aislesOf_3 : decode cX12_aislesOf 3 = .ok (.istore_n 3, 1) := by decide +kernel
theorem dX12_aislesOf_4 : decode cX12_aislesOf 4 = .ok (.iload_n 3, 1) := by decide +kernel
theorem dX12_aislesOf_5 : decode cX12_aislesOf 5 = .ok (.aload_n 0, 1) := by decide +kernel
theorem dX12_aislesOf_6 : decode cX12_aislesOf 6 = .ok (.iload_n 1, 1) := by decide +kernel
theorem dX12_aislesOf_7 : decode cX12_aislesOf 7 = .ok (.iconst 2, 1) := by decide +kernel
theorem dX12_aislesOf_8 : decode cX12_aislesOf 8 = .ok (.invokevirtual 107, 3) := by decide +kernel
theorem dX12_aislesOf_11 : decode cX12_aislesOf 11 = .ok (.if_icmp .ge 29, 3) := by decide +kernel
theorem dX12_aislesOf_14 : decode cX12_aislesOf 14 = .ok (.iload_n 2, 1) := by decide +kernel
theorem dX12_aislesOf_15 : decode cX12_aislesOf 15 = .ok (.iconst 1, 1) := by decide +kernel
theorem dX12_aislesOf_16 : decode cX12_aislesOf 16 = .ok (.aload_n 0, 1) := by decide +kernel
theorem dX12_aislesOf_17 : decode cX12_aislesOf 17 = .ok (.aload_n 0, 1) := by decide +kernel
theorem dX12_aislesOf_18 : decode cX12_aislesOf 18 = .ok (.getfield 7, 3) := by decide +kernel
theorem dX12_aislesOf_21 : decode cX12_aislesOf 21 = .ok (.iload_n 1, 1) := by decide +kernel
theorem dX12_aislesOf_22 : decode cX12_aislesOf 22 = .ok (.iload_n 3, 1) := by decide +kernel
theorem dX12_aislesOf_23 : decode cX12_aislesOf 23 = .ok (.invokestatic 110, 3) := by decide +kernel
theorem dX12_aislesOf_26 : decode cX12_aislesOf 26 = .ok (.iaload, 1) := by decide +kernel
theorem dX12_aislesOf_27 : decode cX12_aislesOf 27 = .ok (.iconst 0, 1) := by decide +kernel
theorem dX12_aislesOf_28 : decode cX12_aislesOf 28 = .ok (.invokevirtual 96, 3) := by decide +kernel
theorem dX12_aislesOf_31 : decode cX12_aislesOf 31 = .ok (.ishl, 1) := by decide +kernel
theorem dX12_aislesOf_32 : decode cX12_aislesOf 32 = .ok (.ior, 1) := by decide +kernel
theorem dX12_aislesOf_33 : decode cX12_aislesOf 33 = .ok (.istore_n 2, 1) := by decide +kernel
theorem dX12_aislesOf_34 : decode cX12_aislesOf 34 = .ok (.iinc 3 1, 3) := by decide +kernel
theorem dX12_aislesOf_37 : decode cX12_aislesOf 37 = .ok (.goto (-33), 3) := by decide +kernel
theorem dX12_aislesOf_40 : decode cX12_aislesOf 40 = .ok (.iload_n 2, 1) := by decide +kernel
theorem dX12_aislesOf_41 : decode cX12_aislesOf 41 = .ok (.ireturn, 1) := by decide +kernel
theorem dX12_orderAisles_0 : decode cX12_orderAisles 0 = .ok (.aload_n 0, 1) := by decide +kernel
theorem dX12_orderAisles_1 : decode cX12_orderAisles 1 = .ok (.aload_n 0, 1) := by decide +kernel
theorem dX12_orderAisles_2 : decode cX12_orderAisles 2 = .ok (.iload_n 1, 1) := by decide +kernel
theorem dX12_orderAisles_3 : decode cX12_orderAisles 3 = .ok (.invokevirtual 113, 3) := by decide +kernel
theorem dX12_orderAisles_6 : decode cX12_orderAisles 6 = .ok (.ifCond .eq 7, 3) := by decide +kernel
theorem dX12_orderAisles_9 : decode cX12_orderAisles 9 = .ok (.iconst 0, 1) := by decide +kernel
theorem dX12_orderAisles_10 : decode cX12_orderAisles 10 = .ok (.goto 4, 3) := by decide +kernel
theorem dX12_orderAisles_13 : decode cX12_orderAisles 13 = .ok (.iconst 1, 1) := by decide +kernel
theorem dX12_orderAisles_14 : decode cX12_orderAisles 14 = .ok (.putfield 70, 3) := by decide +kernel
theorem dX12_orderAisles_17 : decode cX12_orderAisles 17 = .ok (.aload_n 0, 1) := by decide +kernel
theorem dX12_orderAisles_18 : decode cX12_orderAisles 18 = .ok (.getfield 70, 3) := by decide +kernel
theorem dX12_orderAisles_21 : decode cX12_orderAisles 21 = .ok (.ifCond .le 7, 3) := by decide +kernel
theorem dX12_orderAisles_24 : decode cX12_orderAisles 24 = .ok (.iconst 0, 1) := by decide +kernel
theorem dX12_orderAisles_25 : decode cX12_orderAisles 25 = .ok (.goto 8, 3) := by decide +kernel
theorem dX12_orderAisles_28 : decode cX12_orderAisles 28 = .ok (.aload_n 0, 1) := by decide +kernel
theorem dX12_orderAisles_29 : decode cX12_orderAisles 29 = .ok (.iload_n 1, 1) := by decide +kernel
theorem dX12_orderAisles_30 : decode cX12_orderAisles 30 = .ok (.invokevirtual 133, 3) := by decide +kernel
theorem dX12_orderAisles_33 : decode cX12_orderAisles 33 = .ok (.ireturn, 1) := by decide +kernel
theorem dX12_batchOf_0 : decode cX12_batchOf 0 = .ok (.iconst 0, 1) := by decide +kernel
theorem dX12_batchOf_1 : decode cX12_batchOf 1 = .ok (.istore_n 2, 1) := by decide +kernel
theorem dX12_batchOf_2 : decode cX12_batchOf 2 = .ok (.iload_n 2, 1) := by decide +kernel
theorem dX12_batchOf_3 : decode cX12_batchOf 3 = .ok (.aload_n 0, 1) := by decide +kernel
theorem dX12_batchOf_4 : decode cX12_batchOf 4 = .ok (.getfield 7, 3) := by decide +kernel
theorem dX12_batchOf_7 : decode cX12_batchOf 7 = .ok (.iconst 5, 1) := by decide +kernel
theorem dX12_batchOf_8 : decode cX12_batchOf 8 = .ok (.iaload, 1) := by decide +kernel
theorem dX12_batchOf_9 : decode cX12_batchOf 9 = .ok (.if_icmp .ge 28, 3) := by decide +kernel
theorem dX12_batchOf_12 : decode cX12_batchOf 12 = .ok (.aload_n 0, 1) := by decide +kernel
theorem dX12_batchOf_13 : decode cX12_batchOf 13 = .ok (.getfield 7, 3) := by decide +kernel
theorem dX12_batchOf_16 : decode cX12_batchOf 16 = .ok (.sipush 461, 3) := by decide +kernel
theorem dX12_batchOf_19 : decode cX12_batchOf 19 = .ok (.iload_n 2, 1) := by decide +kernel
theorem dX12_batchOf_20 : decode cX12_batchOf 20 = .ok (.iadd, 1) := by decide +kernel
theorem dX12_batchOf_21 : decode cX12_batchOf 21 = .ok (.iaload, 1) := by decide +kernel
theorem dX12_batchOf_22 : decode cX12_batchOf 22 = .ok (.iload_n 1, 1) := by decide +kernel
theorem dX12_batchOf_23 : decode cX12_batchOf 23 = .ok (.invokestatic 136, 3) := by decide +kernel
theorem dX12_batchOf_26 : decode cX12_batchOf 26 = .ok (.ifCond .eq 5, 3) := by decide +kernel
theorem dX12_batchOf_29 : decode cX12_batchOf 29 = .ok (.iload_n 2, 1) := by decide +kernel
theorem dX12_batchOf_30 : decode cX12_batchOf 30 = .ok (.ireturn, 1) := by decide +kernel
theorem dX12_batchOf_31 : decode cX12_batchOf 31 = .ok (.iinc 2 1, 3) := by decide +kernel
theorem dX12_batchOf_34 : decode cX12_batchOf 34 = .ok (.goto (-32), 3) := by decide +kernel
theorem dX12_batchOf_37 : decode cX12_batchOf 37 = .ok (.iconst (-1), 1) := by decide +kernel
theorem dX12_batchOf_38 : decode cX12_batchOf 38 = .ok (.ireturn, 1) := by decide +kernel
theorem dX12_removes_0 : decode cX12_removes 0 = .ok (.iload_n 1, 1) := by decide +kernel
theorem dX12_removes_1 : decode cX12_removes 1 = .ok (.iconst 1, 1) := by decide +kernel
theorem dX12_removes_2 : decode cX12_removes 2 = .ok (.iadd, 1) := by decide +kernel
theorem dX12_removes_3 : decode cX12_removes 3 = .ok (.istore_n 2, 1) := by decide +kernel
theorem dX12_removes_4 : decode cX12_removes 4 = .ok (.iload_n 2, 1) := by decide +kernel
theorem dX12_removes_5 : decode cX12_removes 5 = .ok (.aload_n 0, 1) := by decide +kernel
theorem dX12_removes_6 : decode cX12_removes 6 = .ok (.getfield 7, 3) := by decide +kernel
theorem dX12_removes_9 : decode cX12_removes 9 = .ok (.iconst 5, 1) := by decide +kernel
theorem dX12_removes_10 : decode cX12_removes 10 = .ok (.iaload, 1) := by decide +kernel
theorem dX12_removes_11 : decode cX12_removes 11 = .ok (.if_icmp .ge 31, 3) := by decide +kernel
theorem dX12_removes_14 : decode cX12_removes 14 = .ok (.aload_n 0, 1) := by decide +kernel
theorem dX12_removes_15 : decode cX12_removes 15 = .ok (.getfield 7, 3) := by decide +kernel
theorem dX12_removes_18 : decode cX12_removes 18 = .ok (.sipush 461, 3) := by decide +kernel
theorem dX12_removes_21 : decode cX12_removes 21 = .ok (.iload_n 2, 1) := by decide +kernel
theorem dX12_removes_22 : decode cX12_removes 22 = .ok (.iadd, 1) := by decide +kernel
theorem dX12_removes_23 : decode cX12_removes 23 = .ok (.iconst 1, 1) := by decide +kernel
theorem dX12_removes_24 : decode cX12_removes 24 = .ok (.isub, 1) := by decide +kernel
theorem dX12_removes_25 : decode cX12_removes 25 = .ok (.aload_n 0, 1) := by decide +kernel
theorem dX12_removes_26 : decode cX12_removes 26 = .ok (.getfield 7, 3) := by decide +kernel
theorem dX12_removes_29 : decode cX12_removes 29 = .ok (.sipush 461, 3) := by decide +kernel
theorem dX12_removes_32 : decode cX12_removes 32 = .ok (.iload_n 2, 1) := by decide +kernel
theorem dX12_removes_33 : decode cX12_removes 33 = .ok (.iadd, 1) := by decide +kernel
theorem dX12_removes_34 : decode cX12_removes 34 = .ok (.iaload, 1) := by decide +kernel
theorem dX12_removes_35 : decode cX12_removes 35 = .ok (.iastore, 1) := by decide +kernel
theorem dX12_removes_36 : decode cX12_removes 36 = .ok (.iinc 2 1, 3) := by decide +kernel
theorem dX12_removes_39 : decode cX12_removes 39 = .ok (.goto (-35), 3) := by decide +kernel
theorem dX12_removes_42 : decode cX12_removes 42 = .ok (.aload_n 0, 1) := by decide +kernel
theorem dX12_removes_43 : decode cX12_removes 43 = .ok (.getfield 7, 3) := by decide +kernel
theorem dX12_removes_46 : decode cX12_removes 46 = .ok (.iconst 5, 1) := by decide +kernel
theorem dX12_removes_47 : decode cX12_removes 47 = .ok (.dup2, 1) := by decide +kernel
theorem dX12_removes_48 : decode cX12_removes 48 = .ok (.iaload, 1) := by decide +kernel
theorem dX12_removes_49 : decode cX12_removes 49 = .ok (.iconst 1, 1) := by decide +kernel
theorem dX12_removes_50 : decode cX12_removes 50 = .ok (.isub, 1) := by decide +kernel
theorem dX12_removes_51 : decode cX12_removes 51 = .ok (.iastore, 1) := by decide +kernel
theorem dX12_removes_52 : decode cX12_removes 52 = .ok (.return_, 1) := by decide +kernel
theorem dX12_leaves_0 : decode cX12_leaves 0 = .ok (.aload_n 0, 1) := by decide +kernel
theorem dX12_leaves_1 : decode cX12_leaves 1 = .ok (.iload_n 1, 1) := by decide +kernel
theorem dX12_leaves_2 : decode cX12_leaves 2 = .ok (.invokevirtual 139, 3) := by decide +kernel
theorem dX12_leaves_5 : decode cX12_leaves 5 = .ok (.istore_n 2, 1) := by decide +kernel
theorem dX12_leaves_6 : decode cX12_leaves 6 = .ok (.aload_n 0, 1) := by decide +kernel
theorem dX12_leaves_7 : decode cX12_leaves 7 = .ok (.getfield 7, 3) := by decide +kernel
theorem dX12_leaves_10 : decode cX12_leaves 10 = .ok (.sipush 461, 3) := by decide +kernel
theorem dX12_leaves_13 : decode cX12_leaves 13 = .ok (.iload_n 2, 1) := by decide +kernel
theorem dX12_leaves_14 : decode cX12_leaves 14 = .ok (.iadd, 1) := by decide +kernel
theorem dX12_leaves_15 : decode cX12_leaves 15 = .ok (.dup2, 1) := by decide +kernel
theorem dX12_leaves_16 : decode cX12_leaves 16 = .ok (.iaload, 1) := by decide +kernel
theorem dX12_leaves_17 : decode cX12_leaves 17 = .ok (.iconst 1, 1) := by decide +kernel
theorem dX12_leaves_18 : decode cX12_leaves 18 = .ok (.iload_n 1, 1) := by decide +kernel
theorem dX12_leaves_19 : decode cX12_leaves 19 = .ok (.ishl, 1) := by decide +kernel
theorem dX12_leaves_20 : decode cX12_leaves 20 = .ok (.iconst (-1), 1) := by decide +kernel
theorem dX12_leaves_21 : decode cX12_leaves 21 = .ok (.ixor, 1) := by decide +kernel
theorem dX12_leaves_22 : decode cX12_leaves 22 = .ok (.iand, 1) := by decide +kernel
theorem dX12_leaves_23 : decode cX12_leaves 23 = .ok (.iastore, 1) := by decide +kernel
theorem dX12_leaves_24 : decode cX12_leaves 24 = .ok (.aload_n 0, 1) := by decide +kernel
theorem dX12_leaves_25 : decode cX12_leaves 25 = .ok (.getfield 7, 3) := by decide +kernel
theorem dX12_leaves_28 : decode cX12_leaves 28 = .ok (.sipush 461, 3) := by decide +kernel
theorem dX12_leaves_31 : decode cX12_leaves 31 = .ok (.iload_n 2, 1) := by decide +kernel
theorem dX12_leaves_32 : decode cX12_leaves 32 = .ok (.iadd, 1) := by decide +kernel
theorem dX12_leaves_33 : decode cX12_leaves 33 = .ok (.iaload, 1) := by decide +kernel
theorem dX12_leaves_34 : decode cX12_leaves 34 = .ok (.ifCond .ne 8, 3) := by decide +kernel
theorem dX12_leaves_37 : decode cX12_leaves 37 = .ok (.aload_n 0, 1) := by decide +kernel
theorem dX12_leaves_38 : decode cX12_leaves 38 = .ok (.iload_n 2, 1) := by decide +kernel
theorem dX12_leaves_39 : decode cX12_leaves 39 = .ok (.invokevirtual 142, 3) := by decide +kernel
theorem dX12_leaves_42 : decode cX12_leaves 42 = .ok (.return_, 1) := by decide +kernel
theorem dX12_cancel_0 : decode cX12_cancel 0 = .ok (.aload_n 0, 1) := by decide +kernel
theorem dX12_cancel_1 : decode cX12_cancel 1 = .ok (.aload_n 0, 1) := by decide +kernel
theorem dX12_cancel_2 : decode cX12_cancel 2 = .ok (.iload_n 1, 1) := by decide +kernel
theorem dX12_cancel_3 : decode cX12_cancel 3 = .ok (.invokevirtual 113, 3) := by decide +kernel
theorem dX12_cancel_6 : decode cX12_cancel 6 = .ok (.ifCond .ne 7, 3) := by decide +kernel
theorem dX12_cancel_9 : decode cX12_cancel 9 = .ok (.iconst 1, 1) := by decide +kernel
theorem dX12_cancel_10 : decode cX12_cancel 10 = .ok (.goto 16, 3) := by decide +kernel
theorem dX12_cancel_13 : decode cX12_cancel 13 = .ok (.aload_n 0, 1) := by decide +kernel
theorem dX12_cancel_14 : decode cX12_cancel 14 = .ok (.iload_n 1, 1) := by decide +kernel
theorem dX12_cancel_15 : decode cX12_cancel 15 = .ok (.invokevirtual 127, 3) := by decide +kernel
theorem dX12_cancel_18 : decode cX12_cancel 18 = .ok (.ifCond .ne 7, 3) := by decide +kernel
theorem dX12_cancel_21 : decode cX12_cancel 21 = .ok (.iconst 2, 1) := by decide +kernel
theorem dX12_cancel_22 : decode cX12_cancel 22 = .ok (.goto 4, 3) := by decide +kernel
theorem dX12_cancel_25 : decode cX12_cancel 25 = .ok (.iconst 0, 1) := by decide +kernel
theorem dX12_cancel_26 : decode cX12_cancel 26 = .ok (.putfield 70, 3) := by decide +kernel
theorem dX12_cancel_29 : decode cX12_cancel 29 = .ok (.aload_n 0, 1) := by decide +kernel
theorem dX12_cancel_30 : decode cX12_cancel 30 = .ok (.getfield 70, 3) := by decide +kernel
theorem dX12_cancel_33 : decode cX12_cancel 33 = .ok (.ifCond .le 5, 3) := by decide +kernel
theorem dX12_cancel_36 : decode cX12_cancel 36 = .ok (.iconst 0, 1) := by decide +kernel
theorem dX12_cancel_37 : decode cX12_cancel 37 = .ok (.ireturn, 1) := by decide +kernel
theorem dX12_cancel_38 : decode cX12_cancel 38 = .ok (.aload_n 0, 1) := by decide +kernel
theorem dX12_cancel_39 : decode cX12_cancel 39 = .ok (.iload_n 1, 1) := by decide +kernel
theorem dX12_cancel_40 : decode cX12_cancel 40 = .ok (.iconst 1, 1) := by decide +kernel
theorem dX12_cancel_41 : decode cX12_cancel 41 = .ok (.invokevirtual 107, 3) := by decide +kernel
theorem dX12_cancel_44 : decode cX12_cancel 44 = .ok (.iconst 1, 1) := by decide +kernel
theorem dX12_cancel_45 : decode cX12_cancel 45 = .ok (.if_icmp .ne 8, 3) := by decide +kernel
theorem dX12_cancel_48 : decode cX12_cancel 48 = .ok (.aload_n 0, 1) := by decide +kernel
theorem dX12_cancel_49 : decode cX12_cancel 49 = .ok (.iload_n 1, 1) := by decide +kernel
theorem dX12_cancel_50 : decode cX12_cancel 50 = .ok (.invokevirtual 146, 3) := by decide +kernel
theorem dX12_cancel_53 : decode cX12_cancel 53 = .ok (.aload_n 0, 1) := by decide +kernel
theorem dX12_cancel_54 : decode cX12_cancel 54 = .ok (.getfield 7, 3) := by decide +kernel
theorem dX12_cancel_57 : decode cX12_cancel 57 = .ok (.iload_n 1, 1) := by decide +kernel
theorem dX12_cancel_58 : decode cX12_cancel 58 = .ok (.invokestatic 100, 3) := by decide +kernel
theorem dX12_cancel_61 : decode cX12_cancel 61 = .ok (.iconst 1, 1) := by decide +kernel
theorem dX12_cancel_62 : decode cX12_cancel 62 = .ok (.iadd, 1) := by decide +kernel
theorem dX12_cancel_63 : decode cX12_cancel 63 = .ok (.iconst 3, 1) := by decide +kernel
theorem dX12_cancel_64 : decode cX12_cancel 64 = .ok (.iastore, 1) := by decide +kernel
theorem dX12_cancel_65 : decode cX12_cancel 65 = .ok (.aload_n 0, 1) := by decide +kernel
theorem dX12_cancel_66 : decode cX12_cancel 66 = .ok (.getfield 7, 3) := by decide +kernel
theorem dX12_cancel_69 : decode cX12_cancel 69 = .ok (.iconst 5, 1) := by decide +kernel
theorem dX12_cancel_70 : decode cX12_cancel 70 = .ok (.iaload, 1) := by decide +kernel
theorem dX12_cancel_71 : decode cX12_cancel 71 = .ok (.ireturn, 1) := by decide +kernel
theorem dX12_setsStates_0 : decode cX12_setsStates 0 = .ok (.iconst 0, 1) := by decide +kernel
theorem dX12_setsStates_1 : decode cX12_setsStates 1 = .ok (.istore_n 3, 1) := by decide +kernel
theorem dX12_setsStates_2 : decode cX12_setsStates 2 = .ok (.iload_n 3, 1) := by decide +kernel
theorem dX12_setsStates_3 : decode cX12_setsStates 3 = .ok (.bipush 16, 2) := by decide +kernel
theorem dX12_setsStates_5 : decode cX12_setsStates 5 = .ok (.if_icmp .ge 29, 3) := by decide +kernel
theorem dX12_setsStates_8 : decode cX12_setsStates 8 = .ok (.iload_n 1, 1) := by decide +kernel
theorem dX12_setsStates_9 : decode cX12_setsStates 9 = .ok (.iload_n 3, 1) := by decide +kernel
theorem dX12_setsStates_10 : decode cX12_setsStates 10 = .ok (.invokestatic 136, 3) := by decide +kernel
theorem dX12_setsStates_13 : decode cX12_setsStates 13 = .ok (.ifCond .eq 15, 3) := by decide +kernel
theorem dX12_setsStates_16 : decode cX12_setsStates 16 = .ok (.aload_n 0, 1) := by decide +kernel
theorem dX12_setsStates_17 : decode cX12_setsStates 17 = .ok (.getfield 7, 3) := by decide +kernel
theorem dX12_setsStates_20 : decode cX12_setsStates 20 = .ok (.iload_n 3, 1) := by decide +kernel
theorem dX12_setsStates_21 : decode cX12_setsStates 21 = .ok (.invokestatic 100, 3) := by decide +kernel
theorem dX12_setsStates_24 : decode cX12_setsStates 24 = .ok (.iconst 1, 1) := by decide +kernel
theorem dX12_setsStates_25 : decode cX12_setsStates 25 = .ok (.iadd, 1) := by decide +kernel
theorem dX12_setsStates_26 : decode cX12_setsStates 26 = .ok (.iload_n 2, 1) := by decide +kernel
theorem dX12_setsStates_27 : decode cX12_setsStates 27 = .ok (.iastore, 1) := by decide +kernel
theorem dX12_setsStates_28 : decode cX12_setsStates 28 = .ok (.iinc 3 1, 3) := by decide +kernel
theorem dX12_setsStates_31 : decode cX12_setsStates 31 = .ok (.goto (-29), 3) := by decide +kernel
theorem dX12_setsStates_34 : decode cX12_setsStates 34 = .ok (.return_, 1) := by decide +kernel
theorem dX12_addsBatch_0 : decode cX12_addsBatch 0 = .ok (.aload_n 0, 1) := by decide +kernel
theorem dX12_addsBatch_1 : decode cX12_addsBatch 1 = .ok (.getfield 7, 3) := by decide +kernel
theorem dX12_addsBatch_4 : decode cX12_addsBatch 4 = .ok (.sipush 461, 3) := by decide +kernel
theorem dX12_addsBatch_7 : decode cX12_addsBatch 7 = .ok (.aload_n 0, 1) := by decide +kernel
theorem dX12_addsBatch_8 : decode cX12_addsBatch 8 = .ok (.getfield 7, 3) := by decide +kernel
theorem dX12_addsBatch_11 : decode cX12_addsBatch 11 = .ok (.iconst 5, 1) := by decide +kernel
theorem dX12_addsBatch_12 : decode cX12_addsBatch 12 = .ok (.iaload, 1) := by decide +kernel
theorem dX12_addsBatch_13 : decode cX12_addsBatch 13 = .ok (.iadd, 1) := by decide +kernel
theorem dX12_addsBatch_14 : decode cX12_addsBatch 14 = .ok (.iload_n 1, 1) := by decide +kernel
theorem dX12_addsBatch_15 : decode cX12_addsBatch 15 = .ok (.iastore, 1) := by decide +kernel
theorem dX12_addsBatch_16 : decode cX12_addsBatch 16 = .ok (.aload_n 0, 1) := by decide +kernel
theorem dX12_addsBatch_17 : decode cX12_addsBatch 17 = .ok (.getfield 7, 3) := by decide +kernel
theorem dX12_addsBatch_20 : decode cX12_addsBatch 20 = .ok (.iconst 5, 1) := by decide +kernel
theorem dX12_addsBatch_21 : decode cX12_addsBatch 21 = .ok (.dup2, 1) := by decide +kernel
theorem dX12_addsBatch_22 : decode cX12_addsBatch 22 = .ok (.iaload, 1) := by decide +kernel
theorem dX12_addsBatch_23 : decode cX12_addsBatch 23 = .ok (.iconst 1, 1) := by decide +kernel
theorem dX12_addsBatch_24 : decode cX12_addsBatch 24 = .ok (.iadd, 1) := by decide +kernel
theorem dX12_addsBatch_25 : decode cX12_addsBatch 25 = .ok (.iastore, 1) := by decide +kernel
theorem dX12_addsBatch_26 : decode cX12_addsBatch 26 = .ok (.aload_n 0, 1) := by decide +kernel
theorem dX12_addsBatch_27 : decode cX12_addsBatch 27 = .ok (.iload_n 1, 1) := by decide +kernel
theorem dX12_addsBatch_28 : decode cX12_addsBatch 28 = .ok (.iconst 1, 1) := by decide +kernel
theorem dX12_addsBatch_29 : decode cX12_addsBatch 29 = .ok (.invokevirtual 149, 3) := by decide +kernel
theorem dX12_addsBatch_32 : decode cX12_addsBatch 32 = .ok (.aload_n 0, 1) := by decide +kernel
theorem dX12_addsBatch_33 : decode cX12_addsBatch 33 = .ok (.getfield 7, 3) := by decide +kernel
theorem dX12_addsBatch_36 : decode cX12_addsBatch 36 = .ok (.iconst 5, 1) := by decide +kernel
theorem dX12_addsBatch_37 : decode cX12_addsBatch 37 = .ok (.iaload, 1) := by decide +kernel
theorem dX12_addsBatch_38 : decode cX12_addsBatch 38 = .ok (.iconst 1, 1) := by decide +kernel
theorem dX12_addsBatch_39 : decode cX12_addsBatch 39 = .ok (.isub, 1) := by decide +kernel
theorem dX12_addsBatch_40 : decode cX12_addsBatch 40 = .ok (.ireturn, 1) := by decide +kernel
theorem dX12_canBatch_0 : decode cX12_canBatch 0 = .ok (.aload_n 0, 1) := by decide +kernel
theorem dX12_canBatch_1 : decode cX12_canBatch 1 = .ok (.iload_n 1, 1) := by decide +kernel
theorem dX12_canBatch_2 : decode cX12_canBatch 2 = .ok (.iconst 1, 1) := by decide +kernel
theorem dX12_canBatch_3 : decode cX12_canBatch 3 = .ok (.invokevirtual 107, 3) := by decide +kernel
theorem dX12_canBatch_6 : decode cX12_canBatch 6 = .ok (.ifCond .ne 16, 3) := by decide +kernel
theorem dX12_canBatch_9 : decode cX12_canBatch 9 = .ok (.aload_n 0, 1) := by decide +kernel
theorem dX12_canBatch_10 : decode cX12_canBatch 10 = .ok (.iload_n 1, 1) := by decide +kernel
theorem dX12_canBatch_11 : decode cX12_canBatch 11 = .ok (.iconst 2, 1) := by decide +kernel
theorem dX12_canBatch_12 : decode cX12_canBatch 12 = .ok (.invokevirtual 107, 3) := by decide +kernel
theorem dX12_canBatch_15 : decode cX12_canBatch 15 = .ok (.ifCond .le 7, 3) := by decide +kernel
theorem dX12_canBatch_18 : decode cX12_canBatch 18 = .ok (.iconst 1, 1) := by decide +kernel
theorem dX12_canBatch_19 : decode cX12_canBatch 19 = .ok (.goto 4, 3) := by decide +kernel
theorem dX12_canBatch_22 : decode cX12_canBatch 22 = .ok (.iconst 0, 1) := by decide +kernel
theorem dX12_canBatch_23 : decode cX12_canBatch 23 = .ok (.ireturn, 1) := by decide +kernel
theorem dX12_candidates_0 : decode cX12_candidates 0 = .ok (.iconst 0, 1) := by decide +kernel
theorem dX12_candidates_1 : decode cX12_candidates 1 = .ok (.istore_n 2, 1) := by decide +kernel
theorem dX12_candidates_2 : decode cX12_candidates 2 = .ok (.iconst 0, 1) := by decide +kernel
theorem dX12_candidates_3 : decode cX12_candidates 3 = .ok (.istore_n 3, 1) := by decide +kernel
theorem dX12_candidates_4 : decode cX12_candidates 4 = .ok (.iload_n 3, 1) := by decide +kernel
theorem dX12_candidates_5 : decode cX12_candidates 5 = .ok (.aload_n 0, 1) := by decide +kernel
theorem dX12_candidates_6 : decode cX12_candidates 6 = .ok (.getfield 7, 3) := by decide +kernel
theorem dX12_candidates_9 : decode cX12_candidates 9 = .ok (.iconst 4, 1) := by decide +kernel
theorem dX12_candidates_10 : decode cX12_candidates 10 = .ok (.iaload, 1) := by decide +kernel
theorem dX12_candidates_11 : decode cX12_candidates 11 = .ok (.if_icmp .ge 36, 3) := by decide +kernel
theorem dX12_candidates_14 : decode cX12_candidates 14 = .ok (.iload_n 2, 1) := by decide +kernel
theorem dX12_candidates_15 : decode cX12_candidates 15 = .ok (.aload_n 0, 1) := by decide +kernel
theorem dX12_candidates_16 : decode cX12_candidates 16 = .ok (.iload_n 3, 1) := by decide +kernel
theorem dX12_candidates_17 : decode cX12_candidates 17 = .ok (.invokevirtual 153, 3) := by decide +kernel
theorem dX12_candidates_20 : decode cX12_candidates 20 = .ok (.ifCond .eq 18, 3) := by decide +kernel
theorem dX12_candidates_23 : decode cX12_candidates 23 = .ok (.aload_n 0, 1) := by decide +kernel
theorem dX12_candidates_24 : decode cX12_candidates 24 = .ok (.iload_n 3, 1) := by decide +kernel
theorem dX12_candidates_25 : decode cX12_candidates 25 = .ok (.invokevirtual 130, 3) := by decide +kernel
theorem dX12_candidates_28 : decode cX12_candidates 28 = .ok (.iload_n 1, 1) := by decide +kernel
theorem dX12_candidates_29 : decode cX12_candidates 29 = .ok (.if_icmp .gt 9, 3) := by decide +kernel
theorem dX12_candidates_32 : decode cX12_candidates 32 = .ok (.iconst 1, 1) := by decide +kernel
theorem dX12_candidates_33 : decode cX12_candidates 33 = .ok (.iload_n 3, 1) := by decide +kernel
theorem dX12_candidates_34 : decode cX12_candidates 34 = .ok (.ishl, 1) := by decide +kernel
theorem dX12_candidates_35 : decode cX12_candidates 35 = .ok (.goto 4, 3) := by decide +kernel
theorem dX12_candidates_38 : decode cX12_candidates 38 = .ok (.iconst 0, 1) := by decide +kernel
theorem dX12_candidates_39 : decode cX12_candidates 39 = .ok (.ior, 1) := by decide +kernel
theorem dX12_candidates_40 : decode cX12_candidates 40 = .ok (.istore_n 2, 1) := by decide +kernel
theorem dX12_candidates_41 : decode cX12_candidates 41 = .ok (.iinc 3 1, 3) := by decide +kernel
theorem dX12_candidates_44 : decode cX12_candidates 44 = .ok (.goto (-40), 3) := by decide +kernel
theorem dX12_candidates_47 : decode cX12_candidates 47 = .ok (.iload_n 2, 1) := by decide +kernel
theorem dX12_candidates_48 : decode cX12_candidates 48 = .ok (.ireturn, 1) := by decide +kernel
theorem dX12_seedBy_0 : decode cX12_seedBy 0 = .ok (.iload_n 2, 1) := by decide +kernel
theorem dX12_seedBy_1 : decode cX12_seedBy 1 = .ok (.ifCond .ne 13, 3) := by decide +kernel
theorem dX12_seedBy_4 : decode cX12_seedBy 4 = .ok (.aload_n 0, 1) := by decide +kernel
theorem dX12_seedBy_5 : decode cX12_seedBy 5 = .ok (.iload_n 1, 1) := by decide +kernel
theorem dX12_seedBy_6 : decode cX12_seedBy 6 = .ok (.iconst 0, 1) := by decide +kernel
theorem dX12_seedBy_7 : decode cX12_seedBy 7 = .ok (.invokevirtual 107, 3) := by decide +kernel
theorem dX12_seedBy_10 : decode cX12_seedBy 10 = .ok (.ineg, 1) := by decide +kernel
theorem dX12_seedBy_11 : decode cX12_seedBy 11 = .ok (.goto 24, 3) := by decide +kernel
theorem dX12_seedBy_14 : decode cX12_seedBy 14 = .ok (.iload_n 2, 1) := by decide +kernel
theorem dX12_seedBy_15 : decode cX12_seedBy 15 = .ok (.iconst 1, 1) := by decide +kernel
theorem dX12_seedBy_16 : decode cX12_seedBy 16 = .ok (.if_icmp .ne 11, 3) := by decide +kernel
theorem dX12_seedBy_19 : decode cX12_seedBy 19 = .ok (.aload_n 0, 1) := by decide +kernel
theorem dX12_seedBy_20 : decode cX12_seedBy 20 = .ok (.iload_n 1, 1) := by decide +kernel
theorem dX12_seedBy_21 : decode cX12_seedBy 21 = .ok (.invokevirtual 130, 3) := by decide +kernel
theorem dX12_seedBy_24 : decode cX12_seedBy 24 = .ok (.goto 11, 3) := by decide +kernel
theorem dX12_seedBy_27 : decode cX12_seedBy 27 = .ok (.aload_n 0, 1) := by decide +kernel
theorem dX12_seedBy_28 : decode cX12_seedBy 28 = .ok (.iload_n 1, 1) := by decide +kernel
theorem dX12_seedBy_29 : decode cX12_seedBy 29 = .ok (.invokevirtual 133, 3) := by decide +kernel
theorem dX12_seedBy_32 : decode cX12_seedBy 32 = .ok (.invokestatic 156, 3) := by decide +kernel
theorem dX12_seedBy_35 : decode cX12_seedBy 35 = .ok (.ireturn, 1) := by decide +kernel
theorem dX12_seedOf_0 : decode cX12_seedOf 0 = .ok (.iconst (-1), 1) := by decide +kernel
theorem dX12_seedOf_1 : decode cX12_seedOf 1 = .ok (.istore_n 3, 1) := by decide +kernel
theorem dX12_seedOf_2 : decode cX12_seedOf 2 = .ok (.iconst 0, 1) := by decide +kernel
theorem dX12_seedOf_3 : decode cX12_seedOf 3 = .ok (.istore 4, 2) := by decide +kernel
theorem dX12_seedOf_5 : decode cX12_seedOf 5 = .ok (.iload 4, 2) := by decide +kernel
theorem dX12_seedOf_7 : decode cX12_seedOf 7 = .ok (.bipush 16, 2) := by decide +kernel
theorem dX12_seedOf_9 : decode cX12_seedOf 9 = .ok (.if_icmp .ge 42, 3) := by decide +kernel
theorem dX12_seedOf_12 : decode cX12_seedOf 12 = .ok (.iload_n 1, 1) := by decide +kernel
theorem dX12_seedOf_13 : decode cX12_seedOf 13 = .ok (.iload 4, 2) := by decide +kernel
theorem dX12_seedOf_15 : decode cX12_seedOf 15 = .ok (.invokestatic 136, 3) := by decide +kernel
theorem dX12_seedOf_18 : decode cX12_seedOf 18 = .ok (.ifCond .eq 27, 3) := by decide +kernel
theorem dX12_seedOf_21 : decode cX12_seedOf 21 = .ok (.iload_n 3, 1) := by decide +kernel
theorem dX12_seedOf_22 : decode cX12_seedOf 22 = .ok (.iconst (-1), 1) := by decide +kernel
theorem dX12_seedOf_23 : decode cX12_seedOf 23 = .ok (.if_icmp .eq 19, 3) := by decide +kernel
theorem dX12_seedOf_26 : decode cX12_seedOf 26 = .ok (.aload_n 0, 1) := by decide +kernel
theorem dX12_seedOf_27 : decode cX12_seedOf 27 = .ok (.iload 4, 2) := by decide +kernel
theorem dX12_seedOf_29 : decode cX12_seedOf 29 = .ok (.iload_n 2, 1) := by decide +kernel
theorem dX12_seedOf_30 : decode cX12_seedOf 30 = .ok (.invokevirtual 159, 3) := by decide +kernel
theorem dX12_seedOf_33 : decode cX12_seedOf 33 = .ok (.aload_n 0, 1) := by decide +kernel
theorem dX12_seedOf_34 : decode cX12_seedOf 34 = .ok (.iload_n 3, 1) := by decide +kernel
theorem dX12_seedOf_35 : decode cX12_seedOf 35 = .ok (.iload_n 2, 1) := by decide +kernel
theorem dX12_seedOf_36 : decode cX12_seedOf 36 = .ok (.invokevirtual 159, 3) := by decide +kernel
theorem dX12_seedOf_39 : decode cX12_seedOf 39 = .ok (.if_icmp .le 6, 3) := by decide +kernel
theorem dX12_seedOf_42 : decode cX12_seedOf 42 = .ok (.iload 4, 2) := by decide +kernel
theorem dX12_seedOf_44 : decode cX12_seedOf 44 = .ok (.istore_n 3, 1) := by decide +kernel
theorem dX12_seedOf_45 : decode cX12_seedOf 45 = .ok (.iinc 4 1, 3) := by decide +kernel
theorem dX12_seedOf_48 : decode cX12_seedOf 48 = .ok (.goto (-43), 3) := by decide +kernel
theorem dX12_seedOf_51 : decode cX12_seedOf 51 = .ok (.iload_n 3, 1) := by decide +kernel
theorem dX12_seedOf_52 : decode cX12_seedOf 52 = .ok (.ireturn, 1) := by decide +kernel
theorem dX12_weightOfAll_0 : decode cX12_weightOfAll 0 = .ok (.iconst 0, 1) := by decide +kernel
theorem dX12_weightOfAll_1 : decode cX12_weightOfAll 1 = .ok (.istore_n 2, 1) := by decide +kernel
theorem dX12_weightOfAll_2 : decode cX12_weightOfAll 2 = .ok (.iconst 0, 1) := by decide +kernel
theorem dX12_weightOfAll_3 : decode cX12_weightOfAll 3 = .ok (.istore_n 3, 1) := by decide +kernel
theorem dX12_weightOfAll_4 : decode cX12_weightOfAll 4 = .ok (.iload_n 3, 1) := by decide +kernel
theorem dX12_weightOfAll_5 : decode cX12_weightOfAll 5 = .ok (.bipush 16, 2) := by decide +kernel
theorem dX12_weightOfAll_7 : decode cX12_weightOfAll 7 = .ok (.if_icmp .ge 29, 3) := by decide +kernel
theorem dX12_weightOfAll_10 : decode cX12_weightOfAll 10 = .ok (.iload_n 2, 1) := by decide +kernel
theorem dX12_weightOfAll_11 : decode cX12_weightOfAll 11 = .ok (.iload_n 1, 1) := by decide +kernel
theorem dX12_weightOfAll_12 : decode cX12_weightOfAll 12 = .ok (.iload_n 3, 1) := by decide +kernel
theorem dX12_weightOfAll_13 : decode cX12_weightOfAll 13 = .ok (.invokestatic 136, 3) := by decide +kernel
theorem dX12_weightOfAll_16 : decode cX12_weightOfAll 16 = .ok (.ifCond .eq 11, 3) := by decide +kernel
theorem dX12_weightOfAll_19 : decode cX12_weightOfAll 19 = .ok (.aload_n 0, 1) := by decide +kernel
theorem dX12_weightOfAll_20 : decode cX12_weightOfAll 20 = .ok (.iload_n 3, 1) := by decide +kernel
theorem dX12_weightOfAll_21 : decode cX12_weightOfAll 21 = .ok (.invokevirtual 130, 3) := by decide +kernel
theorem dX12_weightOfAll_24 : decode cX12_weightOfAll 24 = .ok (.goto 4, 3) := by decide +kernel
theorem dX12_weightOfAll_27 : decode cX12_weightOfAll 27 = .ok (.iconst 0, 1) := by decide +kernel
theorem dX12_weightOfAll_28 : decode cX12_weightOfAll 28 = .ok (.iadd, 1) := by decide +kernel
theorem dX12_weightOfAll_29 : decode cX12_weightOfAll 29 = .ok (.istore_n 2, 1) := by decide +kernel
theorem dX12_weightOfAll_30 : decode cX12_weightOfAll 30 = .ok (.iinc 3 1, 3) := by decide +kernel
theorem dX12_weightOfAll_33 : decode cX12_weightOfAll 33 = .ok (.goto (-29), 3) := by decide +kernel
theorem dX12_weightOfAll_36 : decode cX12_weightOfAll 36 = .ok (.iload_n 2, 1) := by decide +kernel
theorem dX12_weightOfAll_37 : decode cX12_weightOfAll 37 = .ok (.ireturn, 1) := by decide +kernel
theorem dX12_aislesOfAll_0 : decode cX12_aislesOfAll 0 = .ok (.iconst 0, 1) := by decide +kernel
theorem dX12_aislesOfAll_1 : decode cX12_aislesOfAll 1 = .ok (.istore_n 2, 1) := by decide +kernel
theorem dX12_aislesOfAll_2 : decode cX12_aislesOfAll 2 = .ok (.iconst 0, 1) := by decide +kernel
theorem dX12_aislesOfAll_3 : decode cX12_aislesOfAll 3 = .ok (.istore_n 3, 1) := by decide +kernel
theorem dX12_aislesOfAll_4 : decode cX12_aislesOfAll 4 = .ok (.iload_n 3, 1) := by decide +kernel
theorem dX12_aislesOfAll_5 : decode cX12_aislesOfAll 5 = .ok (.bipush 16, 2) := by decide +kernel
theorem dX12_aislesOfAll_7 : decode cX12_aislesOfAll 7 = .ok (.if_icmp .ge 29, 3) := by decide +kernel
theorem dX12_aislesOfAll_10 : decode cX12_aislesOfAll 10 = .ok (.iload_n 2, 1) := by decide +kernel
theorem dX12_aislesOfAll_11 : decode cX12_aislesOfAll 11 = .ok (.iload_n 1, 1) := by decide +kernel
theorem dX12_aislesOfAll_12 : decode cX12_aislesOfAll 12 = .ok (.iload_n 3, 1) := by decide +kernel
theorem dX12_aislesOfAll_13 : decode cX12_aislesOfAll 13 = .ok (.invokestatic 136, 3) := by decide +kernel
theorem dX12_aislesOfAll_16 : decode cX12_aislesOfAll 16 = .ok (.ifCond .eq 11, 3) := by decide +kernel
theorem dX12_aislesOfAll_19 : decode cX12_aislesOfAll 19 = .ok (.aload_n 0, 1) := by decide +kernel
theorem dX12_aislesOfAll_20 : decode cX12_aislesOfAll 20 = .ok (.iload_n 3, 1) := by decide +kernel
theorem dX12_aislesOfAll_21 : decode cX12_aislesOfAll 21 = .ok (.invokevirtual 133, 3) := by decide +kernel
theorem dX12_aislesOfAll_24 : decode cX12_aislesOfAll 24 = .ok (.goto 4, 3) := by decide +kernel
theorem dX12_aislesOfAll_27 : decode cX12_aislesOfAll 27 = .ok (.iconst 0, 1) := by decide +kernel
theorem dX12_aislesOfAll_28 : decode cX12_aislesOfAll 28 = .ok (.ior, 1) := by decide +kernel
theorem dX12_aislesOfAll_29 : decode cX12_aislesOfAll 29 = .ok (.istore_n 2, 1) := by decide +kernel
theorem dX12_aislesOfAll_30 : decode cX12_aislesOfAll 30 = .ok (.iinc 3 1, 3) := by decide +kernel
theorem dX12_aislesOfAll_33 : decode cX12_aislesOfAll 33 = .ok (.goto (-29), 3) := by decide +kernel
theorem dX12_aislesOfAll_36 : decode cX12_aislesOfAll 36 = .ok (.iload_n 2, 1) := by decide +kernel
theorem dX12_aislesOfAll_37 : decode cX12_aislesOfAll 37 = .ok (.ireturn, 1) := by decide +kernel
theorem dX12_nextOf_0 : decode cX12_nextOf 0 = .ok (.iconst (-1), 1) := by decide +kernel
theorem dX12_nextOf_1 : decode cX12_nextOf 1 = .ok (.istore 4, 2) := by decide +kernel
theorem dX12_nextOf_3 : decode cX12_nextOf 3 = .ok (.iconst 0, 1) := by decide +kernel
theorem dX12_nextOf_4 : decode cX12_nextOf 4 = .ok (.istore 5, 2) := by decide +kernel
theorem dX12_nextOf_6 : decode cX12_nextOf 6 = .ok (.iload_n 3, 1) := by decide +kernel
theorem dX12_nextOf_7 : decode cX12_nextOf 7 = .ok (.aload_n 0, 1) := by decide +kernel
theorem dX12_nextOf_8 : decode cX12_nextOf 8 = .ok (.iload_n 2, 1) := by decide +kernel
theorem dX12_nextOf_9 : decode cX12_nextOf 9 = .ok (.invokevirtual 162, 3) := by decide +kernel
theorem dX12_nextOf_12 : decode cX12_nextOf 12 = .ok (.isub, 1) := by decide +kernel
theorem dX12_nextOf_13 : decode cX12_nextOf 13 = .ok (.istore 6, 2) := by decide +kernel
theorem dX12_nextOf_15 : decode cX12_nextOf 15 = .ok (.aload_n 0, 1) := by decide +kernel
theorem dX12_nextOf_16 : decode cX12_nextOf 16 = .ok (.iload_n 2, 1) := by decide +kernel
theorem dX12_nextOf_17 : decode cX12_nextOf 17 = .ok (.invokevirtual 165, 3) := by decide +kernel
theorem dX12_nextOf_20 : decode cX12_nextOf 20 = .ok (.istore 7, 2) := by decide +kernel
theorem dX12_nextOf_22 : decode cX12_nextOf 22 = .ok (.iconst 0, 1) := by decide +kernel
theorem dX12_nextOf_23 : decode cX12_nextOf 23 = .ok (.istore 8, 2) := by decide +kernel
theorem dX12_nextOf_25 : decode cX12_nextOf 25 = .ok (.iload 8, 2) := by decide +kernel
theorem dX12_nextOf_27 : decode cX12_nextOf 27 = .ok (.bipush 16, 2) := by decide +kernel
theorem dX12_nextOf_29 : decode cX12_nextOf 29 = .ok (.if_icmp .ge 93, 3) := by decide +kernel
theorem dX12_nextOf_32 : decode cX12_nextOf 32 = .ok (.iload_n 1, 1) := by decide +kernel
theorem dX12_nextOf_33 : decode cX12_nextOf 33 = .ok (.iload 8, 2) := by decide +kernel
theorem dX12_nextOf_35 : decode cX12_nextOf 35 = .ok (.invokestatic 136, 3) := by decide +kernel
theorem dX12_nextOf_38 : decode cX12_nextOf 38 = .ok (.ifCond .eq 78, 3) := by decide +kernel
theorem dX12_nextOf_41 : decode cX12_nextOf 41 = .ok (.aload_n 0, 1) := by decide +kernel
theorem dX12_nextOf_42 : decode cX12_nextOf 42 = .ok (.iload 8, 2) := by decide +kernel
theorem dX12_nextOf_44 : decode cX12_nextOf 44 = .ok (.invokevirtual 130, 3) := by decide +kernel
theorem dX12_nextOf_47 : decode cX12_nextOf 47 = .ok (.iload 6, 2) := by decide +kernel
theorem dX12_nextOf_49 : decode cX12_nextOf 49 = .ok (.if_icmp .le 6, 3) := by decide +kernel
theorem dX12_nextOf_52 : decode cX12_nextOf 52 = .ok (.goto 64, 3) := by decide +kernel
theorem dX12_nextOf_55 : decode cX12_nextOf 55 = .ok (.aload_n 0, 1) := by decide +kernel
theorem dX12_nextOf_56 : decode cX12_nextOf 56 = .ok (.iload 8, 2) := by decide +kernel
theorem dX12_nextOf_58 : decode cX12_nextOf 58 = .ok (.invokevirtual 133, 3) := by decide +kernel
theorem dX12_nextOf_61 : decode cX12_nextOf 61 = .ok (.iload 7, 2) := by decide +kernel
theorem dX12_nextOf_63 : decode cX12_nextOf 63 = .ok (.iconst (-1), 1) := by decide +kernel
theorem dX12_nextOf_64 : decode cX12_nextOf 64 = .ok (.ixor, 1) := by decide +kernel
theorem dX12_nextOf_65 : decode cX12_nextOf 65 = .ok (.iand, 1) := by decide +kernel
theorem dX12_nextOf_66 : decode cX12_nextOf 66 = .ok (.invokestatic 156, 3) := by decide +kernel
theorem dX12_nextOf_69 : decode cX12_nextOf 69 = .ok (.istore 9, 2) := by decide +kernel
theorem dX12_nextOf_71 : decode cX12_nextOf 71 = .ok (.iload 4, 2) := by decide +kernel
theorem dX12_nextOf_73 : decode cX12_nextOf 73 = .ok (.iconst (-1), 1) := by decide +kernel
theorem dX12_nextOf_74 : decode cX12_nextOf 74 = .ok (.if_icmp .eq 34, 3) := by decide +kernel
theorem dX12_nextOf_77 : decode cX12_nextOf 77 = .ok (.iload 9, 2) := by decide +kernel
theorem dX12_nextOf_79 : decode cX12_nextOf 79 = .ok (.iload 5, 2) := by decide +kernel
theorem dX12_nextOf_81 : decode cX12_nextOf 81 = .ok (.if_icmp .lt 27, 3) := by decide +kernel
theorem dX12_nextOf_84 : decode cX12_nextOf 84 = .ok (.iload 9, 2) := by decide +kernel
theorem dX12_nextOf_86 : decode cX12_nextOf 86 = .ok (.iload 5, 2) := by decide +kernel
theorem dX12_nextOf_88 : decode cX12_nextOf 88 = .ok (.if_icmp .ne 28, 3) := by decide +kernel
theorem dX12_nextOf_91 : decode cX12_nextOf 91 = .ok (.aload_n 0, 1) := by decide +kernel
theorem dX12_nextOf_92 : decode cX12_nextOf 92 = .ok (.iload 8, 2) := by decide +kernel
theorem dX12_nextOf_94 : decode cX12_nextOf 94 = .ok (.iconst 0, 1) := by decide +kernel
theorem dX12_nextOf_95 : decode cX12_nextOf 95 = .ok (.invokevirtual 107, 3) := by decide +kernel
theorem dX12_nextOf_98 : decode cX12_nextOf 98 = .ok (.aload_n 0, 1) := by decide +kernel
theorem dX12_nextOf_99 : decode cX12_nextOf 99 = .ok (.iload 4, 2) := by decide +kernel
theorem dX12_nextOf_101 : decode cX12_nextOf 101 = .ok (.iconst 0, 1) := by decide +kernel
theorem dX12_nextOf_102 : decode cX12_nextOf 102 = .ok (.invokevirtual 107, 3) := by decide +kernel
theorem dX12_nextOf_105 : decode cX12_nextOf 105 = .ok (.if_icmp .ge 11, 3) := by decide +kernel
theorem dX12_nextOf_108 : decode cX12_nextOf 108 = .ok (.iload 8, 2) := by decide +kernel
theorem dX12_nextOf_110 : decode cX12_nextOf 110 = .ok (.istore 4, 2) := by decide +kernel
theorem dX12_nextOf_112 : decode cX12_nextOf 112 = .ok (.iload 9, 2) := by decide +kernel
theorem dX12_nextOf_114 : decode cX12_nextOf 114 = .ok (.istore 5, 2) := by decide +kernel
theorem dX12_nextOf_116 : decode cX12_nextOf 116 = .ok (.iinc 8 1, 3) := by decide +kernel
theorem dX12_nextOf_119 : decode cX12_nextOf 119 = .ok (.goto (-94), 3) := by decide +kernel
theorem dX12_nextOf_122 : decode cX12_nextOf 122 = .ok (.iload 4, 2) := by decide +kernel
theorem dX12_nextOf_124 : decode cX12_nextOf 124 = .ok (.ireturn, 1) := by decide +kernel
theorem dX12_makeBatches_0 : decode cX12_makeBatches 0 = .ok (.aload_n 0, 1) := by decide +kernel
theorem dX12_makeBatches_1 : decode cX12_makeBatches 1 = .ok (.iload_n 1, 1) := by decide +kernel
theorem dX12_makeBatches_2 : decode cX12_makeBatches 2 = .ok (.iconst 1, 1) := by decide +kernel
theorem dX12_makeBatches_3 : decode cX12_makeBatches 3 = .ok (.bipush 6, 2) := by decide +kernel
theorem dX12_makeBatches_5 : decode cX12_makeBatches 5 = .ok (.invokestatic 73, 3) := by decide +kernel
theorem dX12_makeBatches_8 : decode cX12_makeBatches 8 = .ok (.ifCond .eq 26, 3) := by decide +kernel
theorem dX12_makeBatches_11 : decode cX12_makeBatches 11 = .ok (.iload_n 2, 1) := by decide +kernel
theorem dX12_makeBatches_12 : decode cX12_makeBatches 12 = .ok (.iconst 1, 1) := by decide +kernel
theorem dX12_makeBatches_13 : decode cX12_makeBatches 13 = .ok (.ldc 168, 2) := by decide +kernel
theorem dX12_makeBatches_15 : decode cX12_makeBatches 15 = .ok (.invokestatic 73, 3) := by decide +kernel
theorem dX12_makeBatches_18 : decode cX12_makeBatches 18 = .ok (.ifCond .eq 16, 3) := by decide +kernel
theorem dX12_makeBatches_21 : decode cX12_makeBatches 21 = .ok (.iload_n 3, 1) := by decide +kernel
theorem dX12_makeBatches_22 : decode cX12_makeBatches 22 = .ok (.iconst 0, 1) := by decide +kernel
theorem dX12_makeBatches_23 : decode cX12_makeBatches 23 = .ok (.iconst 2, 1) := by decide +kernel
theorem dX12_makeBatches_24 : decode cX12_makeBatches 24 = .ok (.invokestatic 73, 3) := by decide +kernel
theorem dX12_makeBatches_27 : decode cX12_makeBatches 27 = .ok (.ifCond .eq 7, 3) := by decide +kernel
theorem dX12_makeBatches_30 : decode cX12_makeBatches 30 = .ok (.iconst 0, 1) := by decide +kernel
theorem dX12_makeBatches_31 : decode cX12_makeBatches 31 = .ok (.goto 4, 3) := by decide +kernel
theorem dX12_makeBatches_34 : decode cX12_makeBatches 34 = .ok (.iconst 1, 1) := by decide +kernel
theorem dX12_makeBatches_35 : decode cX12_makeBatches 35 = .ok (.putfield 70, 3) := by decide +kernel
theorem dX12_makeBatches_38 : decode cX12_makeBatches 38 = .ok (.aload_n 0, 1) := by decide +kernel
theorem dX12_makeBatches_39 : decode cX12_makeBatches 39 = .ok (.getfield 70, 3) := by decide +kernel
theorem dX12_makeBatches_42 : decode cX12_makeBatches 42 = .ok (.ifCond .le 5, 3) := by decide +kernel
theorem dX12_makeBatches_45 : decode cX12_makeBatches 45 = .ok (.iconst 0, 1) := by decide +kernel
theorem dX12_makeBatches_46 : decode cX12_makeBatches 46 = .ok (.ireturn, 1) := by decide +kernel
theorem dX12_makeBatches_47 : decode cX12_makeBatches 47 = .ok (.aload_n 0, 1) := by decide +kernel
theorem dX12_makeBatches_48 : decode cX12_makeBatches 48 = .ok (.iload_n 2, 1) := by decide +kernel
theorem dX12_makeBatches_49 : decode cX12_makeBatches 49 = .ok (.invokevirtual 169, 3) := by decide +kernel
theorem dX12_makeBatches_52 : decode cX12_makeBatches 52 = .ok (.istore 4, 2) := by decide +kernel
theorem dX12_makeBatches_54 : decode cX12_makeBatches 54 = .ok (.iconst 0, 1) := by decide +kernel
theorem dX12_makeBatches_55 : decode cX12_makeBatches 55 = .ok (.istore 5, 2) := by decide +kernel
theorem dX12_makeBatches_57 : decode cX12_makeBatches 57 = .ok (.iload 4, 2) := by decide +kernel
theorem dX12_makeBatches_59 : decode cX12_makeBatches 59 = .ok (.ifCond .eq 93, 3) := by decide +kernel
theorem dX12_makeBatches_62 : decode cX12_makeBatches 62 = .ok (.aload_n 0, 1) := by decide +kernel
theorem dX12_makeBatches_63 : decode cX12_makeBatches 63 = .ok (.getfield 7, 3) := by decide +kernel
theorem dX12_makeBatches_66 : decode cX12_makeBatches 66 = .ok (.iconst 5, 1) := by decide +kernel
theorem dX12_makeBatches_67 : decode cX12_makeBatches 67 = .ok (.iaload, 1) := by decide +kernel
theorem dX12_makeBatches_68 : decode cX12_makeBatches 68 = .ok (.bipush 8, 2) := by decide +kernel
theorem dX12_makeBatches_70 : decode cX12_makeBatches 70 = .ok (.if_icmp .ge 82, 3) := by decide +kernel
theorem dX12_makeBatches_73 : decode cX12_makeBatches 73 = .ok (.aload_n 0, 1) := by decide +kernel
theorem dX12_makeBatches_74 : decode cX12_makeBatches 74 = .ok (.iload 4, 2) := by decide +kernel
theorem dX12_makeBatches_76 : decode cX12_makeBatches 76 = .ok (.iload_n 3, 1) := by decide +kernel
theorem dX12_makeBatches_77 : decode cX12_makeBatches 77 = .ok (.invokevirtual 172, 3) := by decide +kernel
theorem dX12_makeBatches_80 : decode cX12_makeBatches 80 = .ok (.istore 6, 2) := by decide +kernel
theorem dX12_makeBatches_82 : decode cX12_makeBatches 82 = .ok (.iconst 0, 1) := by decide +kernel
theorem dX12_makeBatches_83 : decode cX12_makeBatches 83 = .ok (.istore 7, 2) := by decide +kernel
theorem dX12_makeBatches_85 : decode cX12_makeBatches 85 = .ok (.iload 6, 2) := by decide +kernel
theorem dX12_makeBatches_87 : decode cX12_makeBatches 87 = .ok (.iconst (-1), 1) := by decide +kernel
theorem dX12_makeBatches_88 : decode cX12_makeBatches 88 = .ok (.if_icmp .eq 50, 3) := by decide +kernel
theorem dX12_makeBatches_91 : decode cX12_makeBatches 91 = .ok (.iload 7, 2) := by decide +kernel
theorem dX12_makeBatches_93 : decode cX12_makeBatches 93 = .ok (.iconst 1, 1) := by decide +kernel
theorem dX12_makeBatches_94 : decode cX12_makeBatches 94 = .ok (.iload 6, 2) := by decide +kernel
theorem dX12_makeBatches_96 : decode cX12_makeBatches 96 = .ok (.ishl, 1) := by decide +kernel
theorem dX12_makeBatches_97 : decode cX12_makeBatches 97 = .ok (.ior, 1) := by decide +kernel
theorem dX12_makeBatches_98 : decode cX12_makeBatches 98 = .ok (.istore 7, 2) := by decide +kernel
theorem dX12_makeBatches_100 : decode cX12_makeBatches 100 = .ok (.iload 4, 2) := by decide +kernel
theorem dX12_makeBatches_102 : decode cX12_makeBatches 102 = .ok (.iconst 1, 1) := by decide +kernel
theorem dX12_makeBatches_103 : decode cX12_makeBatches 103 = .ok (.iload 6, 2) := by decide +kernel
theorem dX12_makeBatches_105 : decode cX12_makeBatches 105 = .ok (.ishl, 1) := by decide +kernel
theorem dX12_makeBatches_106 : decode cX12_makeBatches 106 = .ok (.iconst (-1), 1) := by decide +kernel
theorem dX12_makeBatches_107 : decode cX12_makeBatches 107 = .ok (.ixor, 1) := by decide +kernel
theorem dX12_makeBatches_108 : decode cX12_makeBatches 108 = .ok (.iand, 1) := by decide +kernel
theorem dX12_makeBatches_109 : decode cX12_makeBatches 109 = .ok (.istore 4, 2) := by decide +kernel
theorem dX12_makeBatches_111 : decode cX12_makeBatches 111 = .ok (.iload 7, 2) := by decide +kernel
theorem dX12_makeBatches_113 : decode cX12_makeBatches 113 = .ok (.invokestatic 156, 3) := by decide +kernel
theorem dX12_makeBatches_116 : decode cX12_makeBatches 116 = .ok (.iload_n 1, 1) := by decide +kernel
theorem dX12_makeBatches_117 : decode cX12_makeBatches 117 = .ok (.if_icmp .ge 15, 3) := by decide +kernel
theorem dX12_makeBatches_120 : decode cX12_makeBatches 120 = .ok (.aload_n 0, 1) := by decide +kernel
theorem dX12_makeBatches_121 : decode cX12_makeBatches 121 = .ok (.iload 4, 2) := by decide +kernel
theorem dX12_makeBatches_123 : decode cX12_makeBatches 123 = .ok (.iload 7, 2) := by decide +kernel
theorem dX12_makeBatches_125 : decode cX12_makeBatches 125 = .ok (.iload_n 2, 1) := by decide +kernel
theorem dX12_makeBatches_126 : decode cX12_makeBatches 126 = .ok (.invokevirtual 175, 3) := by decide +kernel
theorem dX12_makeBatches_129 : decode cX12_makeBatches 129 = .ok (.goto 4, 3) := by decide +kernel
theorem dX12_makeBatches_132 : decode cX12_makeBatches 132 = .ok (.iconst (-1), 1) := by decide +kernel
theorem dX12_makeBatches_133 : decode cX12_makeBatches 133 = .ok (.istore 6, 2) := by decide +kernel
theorem dX12_makeBatches_135 : decode cX12_makeBatches 135 = .ok (.goto (-50), 3) := by decide +kernel
theorem dX12_makeBatches_138 : decode cX12_makeBatches 138 = .ok (.aload_n 0, 1) := by decide +kernel
theorem dX12_makeBatches_139 : decode cX12_makeBatches 139 = .ok (.iload 7, 2) := by decide +kernel
theorem dX12_makeBatches_141 : decode cX12_makeBatches 141 = .ok (.invokevirtual 178, 3) := by decide +kernel
theorem dX12_makeBatches_144 : decode cX12_makeBatches 144 = .ok (.istore 8, 2) := by decide +kernel
theorem dX12_makeBatches_146 : decode cX12_makeBatches 146 = .ok (.iinc 5 1, 3) := by decide +kernel
theorem dX12_makeBatches_149 : decode cX12_makeBatches 149 = .ok (.goto (-92), 3) := by decide +kernel
theorem dX12_makeBatches_152 : decode cX12_makeBatches 152 = .ok (.iload 5, 2) := by decide +kernel
theorem dX12_makeBatches_154 : decode cX12_makeBatches 154 = .ok (.ireturn, 1) := by decide +kernel
theorem dX12_canAll_0 : decode cX12_canAll 0 = .ok (.iconst 1, 1) := by decide +kernel
theorem dX12_canAll_1 : decode cX12_canAll 1 = .ok (.istore_n 2, 1) := by decide +kernel
theorem dX12_canAll_2 : decode cX12_canAll 2 = .ok (.iconst 0, 1) := by decide +kernel
theorem dX12_canAll_3 : decode cX12_canAll 3 = .ok (.istore_n 3, 1) := by decide +kernel
theorem dX12_canAll_4 : decode cX12_canAll 4 = .ok (.iload_n 3, 1) := by decide +kernel
theorem dX12_canAll_5 : decode cX12_canAll 5 = .ok (.aload_n 0, 1) := by decide +kernel
theorem dX12_canAll_6 : decode cX12_canAll 6 = .ok (.getfield 7, 3) := by decide +kernel
theorem dX12_canAll_9 : decode cX12_canAll 9 = .ok (.iconst 4, 1) := by decide +kernel
theorem dX12_canAll_10 : decode cX12_canAll 10 = .ok (.iaload, 1) := by decide +kernel
theorem dX12_canAll_11 : decode cX12_canAll 11 = .ok (.if_icmp .ge 35, 3) := by decide +kernel
theorem dX12_canAll_14 : decode cX12_canAll 14 = .ok (.iload_n 2, 1) := by decide +kernel
theorem dX12_canAll_15 : decode cX12_canAll 15 = .ok (.ifCond .eq 23, 3) := by decide +kernel
theorem dX12_canAll_18 : decode cX12_canAll 18 = .ok (.iload_n 1, 1) := by decide +kernel
theorem dX12_canAll_19 : decode cX12_canAll 19 = .ok (.iload_n 3, 1) := by decide +kernel
theorem dX12_canAll_20 : decode cX12_canAll 20 = .ok (.invokestatic 136, 3) := by decide +kernel
theorem dX12_canAll_23 : decode cX12_canAll 23 = .ok (.ifCond .eq 11, 3) := by decide +kernel
theorem dX12_canAll_26 : decode cX12_canAll 26 = .ok (.aload_n 0, 1) := by decide +kernel
theorem dX12_canAll_27 : decode cX12_canAll 27 = .ok (.iload_n 3, 1) := by decide +kernel
theorem dX12_canAll_28 : decode cX12_canAll 28 = .ok (.invokevirtual 153, 3) := by decide +kernel
theorem dX12_canAll_31 : decode cX12_canAll 31 = .ok (.ifCond .eq 7, 3) := by decide +kernel
theorem dX12_canAll_34 : decode cX12_canAll 34 = .ok (.iconst 1, 1) := by decide +kernel
theorem dX12_canAll_35 : decode cX12_canAll 35 = .ok (.goto 4, 3) := by decide +kernel
theorem dX12_canAll_38 : decode cX12_canAll 38 = .ok (.iconst 0, 1) := by decide +kernel
theorem dX12_canAll_39 : decode cX12_canAll 39 = .ok (.istore_n 2, 1) := by decide +kernel
theorem dX12_canAll_40 : decode cX12_canAll 40 = .ok (.iinc 3 1, 3) := by decide +kernel
theorem dX12_canAll_43 : decode cX12_canAll 43 = .ok (.goto (-39), 3) := by decide +kernel
theorem dX12_canAll_46 : decode cX12_canAll 46 = .ok (.iload_n 2, 1) := by decide +kernel
theorem dX12_canAll_47 : decode cX12_canAll 47 = .ok (.ireturn, 1) := by decide +kernel
theorem dX12_addBatch_0 : decode cX12_addBatch 0 = .ok (.aload_n 0, 1) := by decide +kernel
theorem dX12_addBatch_1 : decode cX12_addBatch 1 = .ok (.iload_n 1, 1) := by decide +kernel
theorem dX12_addBatch_2 : decode cX12_addBatch 2 = .ok (.iconst 1, 1) := by decide +kernel
theorem dX12_addBatch_3 : decode cX12_addBatch 3 = .ok (.iconst 1, 1) := by decide +kernel
theorem dX12_addBatch_4 : decode cX12_addBatch 4 = .ok (.aload_n 0, 1) := by decide +kernel
theorem dX12_addBatch_5 : decode cX12_addBatch 5 = .ok (.getfield 7, 3) := by decide +kernel
theorem dX12_addBatch_8 : decode cX12_addBatch 8 = .ok (.iconst 4, 1) := by decide +kernel
theorem dX12_addBatch_9 : decode cX12_addBatch 9 = .ok (.iaload, 1) := by decide +kernel
theorem dX12_addBatch_10 : decode cX12_addBatch 10 = .ok (.ishl, 1) := by decide +kernel
theorem dX12_addBatch_11 : decode cX12_addBatch 11 = .ok (.iconst 1, 1) := by decide +kernel
theorem dX12_addBatch_12 : decode cX12_addBatch 12 = .ok (.isub, 1) := by decide +kernel
theorem dX12_addBatch_13 : decode cX12_addBatch 13 = .ok (.invokestatic 73, 3) := by decide +kernel
theorem dX12_addBatch_16 : decode cX12_addBatch 16 = .ok (.ifCond .ne 7, 3) := by decide +kernel
theorem dX12_addBatch_19 : decode cX12_addBatch 19 = .ok (.iconst 1, 1) := by decide +kernel
theorem dX12_addBatch_20 : decode cX12_addBatch 20 = .ok (.goto 27, 3) := by decide +kernel
theorem dX12_addBatch_23 : decode cX12_addBatch 23 = .ok (.aload_n 0, 1) := by decide +kernel
theorem dX12_addBatch_24 : decode cX12_addBatch 24 = .ok (.iload_n 1, 1) := by decide +kernel
theorem dX12_addBatch_25 : decode cX12_addBatch 25 = .ok (.invokevirtual 181, 3) := by decide +kernel
theorem dX12_addBatch_28 : decode cX12_addBatch 28 = .ok (.ifCond .eq 14, 3) := by decide +kernel
theorem dX12_addBatch_31 : decode cX12_addBatch 31 = .ok (.aload_n 0, 1) := by decide +kernel
theorem dX12_addBatch_32 : decode cX12_addBatch 32 = .ok (.getfield 7, 3) := by decide +kernel
theorem dX12_addBatch_35 : decode cX12_addBatch 35 = .ok (.iconst 5, 1) := by decide +kernel
theorem dX12_addBatch_36 : decode cX12_addBatch 36 = .ok (.iaload, 1) := by decide +kernel
theorem dX12_addBatch_37 : decode cX12_addBatch 37 = .ok (.bipush 8, 2) := by decide +kernel
theorem dX12_addBatch_39 : decode cX12_addBatch 39 = .ok (.if_icmp .ne 7, 3) := by decide +kernel
theorem dX12_addBatch_42 : decode cX12_addBatch 42 = .ok (.iconst 2, 1) := by decide +kernel
theorem dX12_addBatch_43 : decode cX12_addBatch 43 = .ok (.goto 4, 3) := by decide +kernel
theorem dX12_addBatch_46 : decode cX12_addBatch 46 = .ok (.iconst 0, 1) := by decide +kernel
theorem dX12_addBatch_47 : decode cX12_addBatch 47 = .ok (.putfield 70, 3) := by decide +kernel
theorem dX12_addBatch_50 : decode cX12_addBatch 50 = .ok (.aload_n 0, 1) := by decide +kernel
theorem dX12_addBatch_51 : decode cX12_addBatch 51 = .ok (.getfield 70, 3) := by decide +kernel
theorem dX12_addBatch_54 : decode cX12_addBatch 54 = .ok (.ifCond .le 7, 3) := by decide +kernel
theorem dX12_addBatch_57 : decode cX12_addBatch 57 = .ok (.iconst 0, 1) := by decide +kernel
theorem dX12_addBatch_58 : decode cX12_addBatch 58 = .ok (.goto 8, 3) := by decide +kernel
theorem dX12_addBatch_61 : decode cX12_addBatch 61 = .ok (.aload_n 0, 1) := by decide +kernel
theorem dX12_addBatch_62 : decode cX12_addBatch 62 = .ok (.iload_n 1, 1) := by decide +kernel
theorem dX12_addBatch_63 : decode cX12_addBatch 63 = .ok (.invokevirtual 178, 3) := by decide +kernel
theorem dX12_addBatch_66 : decode cX12_addBatch 66 = .ok (.ireturn, 1) := by decide +kernel
theorem dX12_dissolve_0 : decode cX12_dissolve 0 = .ok (.aload_n 0, 1) := by decide +kernel
theorem dX12_dissolve_1 : decode cX12_dissolve 1 = .ok (.aload_n 0, 1) := by decide +kernel
theorem dX12_dissolve_2 : decode cX12_dissolve 2 = .ok (.iload_n 1, 1) := by decide +kernel
theorem dX12_dissolve_3 : decode cX12_dissolve 3 = .ok (.invokevirtual 184, 3) := by decide +kernel
theorem dX12_dissolve_6 : decode cX12_dissolve 6 = .ok (.ifCond .eq 7, 3) := by decide +kernel
theorem dX12_dissolve_9 : decode cX12_dissolve 9 = .ok (.iconst 0, 1) := by decide +kernel
theorem dX12_dissolve_10 : decode cX12_dissolve 10 = .ok (.goto 4, 3) := by decide +kernel
theorem dX12_dissolve_13 : decode cX12_dissolve 13 = .ok (.iconst 1, 1) := by decide +kernel
theorem dX12_dissolve_14 : decode cX12_dissolve 14 = .ok (.putfield 70, 3) := by decide +kernel
theorem dX12_dissolve_17 : decode cX12_dissolve 17 = .ok (.aload_n 0, 1) := by decide +kernel
theorem dX12_dissolve_18 : decode cX12_dissolve 18 = .ok (.getfield 70, 3) := by decide +kernel
theorem dX12_dissolve_21 : decode cX12_dissolve 21 = .ok (.ifCond .le 5, 3) := by decide +kernel
theorem dX12_dissolve_24 : decode cX12_dissolve 24 = .ok (.iconst 0, 1) := by decide +kernel
theorem dX12_dissolve_25 : decode cX12_dissolve 25 = .ok (.ireturn, 1) := by decide +kernel
theorem dX12_dissolve_26 : decode cX12_dissolve 26 = .ok (.aload_n 0, 1) := by decide +kernel
theorem dX12_dissolve_27 : decode cX12_dissolve 27 = .ok (.aload_n 0, 1) := by decide +kernel
theorem dX12_dissolve_28 : decode cX12_dissolve 28 = .ok (.getfield 7, 3) := by decide +kernel
theorem dX12_dissolve_31 : decode cX12_dissolve 31 = .ok (.sipush 461, 3) := by decide +kernel
theorem dX12_dissolve_34 : decode cX12_dissolve 34 = .ok (.iload_n 1, 1) := by decide +kernel
theorem dX12_dissolve_35 : decode cX12_dissolve 35 = .ok (.iadd, 1) := by decide +kernel
theorem dX12_dissolve_36 : decode cX12_dissolve 36 = .ok (.iaload, 1) := by decide +kernel
theorem dX12_dissolve_37 : decode cX12_dissolve 37 = .ok (.iconst 0, 1) := by decide +kernel
theorem dX12_dissolve_38 : decode cX12_dissolve 38 = .ok (.invokevirtual 149, 3) := by decide +kernel
theorem dX12_dissolve_41 : decode cX12_dissolve 41 = .ok (.aload_n 0, 1) := by decide +kernel
theorem dX12_dissolve_42 : decode cX12_dissolve 42 = .ok (.iload_n 1, 1) := by decide +kernel
theorem dX12_dissolve_43 : decode cX12_dissolve 43 = .ok (.invokevirtual 142, 3) := by decide +kernel
theorem dX12_dissolve_46 : decode cX12_dissolve 46 = .ok (.aload_n 0, 1) := by decide +kernel
theorem dX12_dissolve_47 : decode cX12_dissolve 47 = .ok (.getfield 7, 3) := by decide +kernel
theorem dX12_dissolve_50 : decode cX12_dissolve 50 = .ok (.iconst 5, 1) := by decide +kernel
theorem dX12_dissolve_51 : decode cX12_dissolve 51 = .ok (.iaload, 1) := by decide +kernel
theorem dX12_dissolve_52 : decode cX12_dissolve 52 = .ok (.ireturn, 1) := by decide +kernel
theorem dX12_batchCount_0 : decode cX12_batchCount 0 = .ok (.aload_n 0, 1) := by decide +kernel
theorem dX12_batchCount_1 : decode cX12_batchCount 1 = .ok (.iconst 0, 1) := by decide +kernel
theorem dX12_batchCount_2 : decode cX12_batchCount 2 = .ok (.putfield 70, 3) := by decide +kernel
theorem dX12_batchCount_5 : decode cX12_batchCount 5 = .ok (.aload_n 0, 1) := by decide +kernel
theorem dX12_batchCount_6 : decode cX12_batchCount 6 = .ok (.getfield 7, 3) := by decide +kernel
theorem dX12_batchCount_9 : decode cX12_batchCount 9 = .ok (.iconst 5, 1) := by decide +kernel
theorem dX12_batchCount_10 : decode cX12_batchCount 10 = .ok (.iaload, 1) := by decide +kernel
theorem dX12_batchCount_11 : decode cX12_batchCount 11 = .ok (.ireturn, 1) := by decide +kernel
theorem dX12_batchOrders_0 : decode cX12_batchOrders 0 = .ok (.aload_n 0, 1) := by decide +kernel
theorem dX12_batchOrders_1 : decode cX12_batchOrders 1 = .ok (.aload_n 0, 1) := by decide +kernel
theorem dX12_batchOrders_2 : decode cX12_batchOrders 2 = .ok (.iload_n 1, 1) := by decide +kernel
theorem dX12_batchOrders_3 : decode cX12_batchOrders 3 = .ok (.invokevirtual 184, 3) := by decide +kernel
theorem dX12_batchOrders_6 : decode cX12_batchOrders 6 = .ok (.ifCond .eq 7, 3) := by decide +kernel
theorem dX12_batchOrders_9 : decode cX12_batchOrders 9 = .ok (.iconst 0, 1) := by decide +kernel
theorem dX12_batchOrders_10 : decode cX12_batchOrders 10 = .ok (.goto 4, 3) := by decide +kernel
theorem dX12_batchOrders_13 : decode cX12_batchOrders 13 = .ok (.iconst 1, 1) := by decide +kernel
theorem dX12_batchOrders_14 : decode cX12_batchOrders 14 = .ok (.putfield 70, 3) := by decide +kernel
theorem dX12_batchOrders_17 : decode cX12_batchOrders 17 = .ok (.aload_n 0, 1) := by decide +kernel
theorem dX12_batchOrders_18 : decode cX12_batchOrders 18 = .ok (.getfield 70, 3) := by decide +kernel
theorem dX12_batchOrders_21 : decode cX12_batchOrders 21 = .ok (.ifCond .le 7, 3) := by decide +kernel
theorem dX12_batchOrders_24 : decode cX12_batchOrders 24 = .ok (.iconst 0, 1) := by decide +kernel
theorem dX12_batchOrders_25 : decode cX12_batchOrders 25 = .ok (.goto 13, 3) := by decide +kernel
theorem dX12_batchOrders_28 : decode cX12_batchOrders 28 = .ok (.aload_n 0, 1) := by decide +kernel
theorem dX12_batchOrders_29 : decode cX12_batchOrders 29 = .ok (.getfield 7, 3) := by decide +kernel
theorem dX12_batchOrders_32 : decode cX12_batchOrders 32 = .ok (.sipush 461, 3) := by decide +kernel
theorem dX12_batchOrders_35 : decode cX12_batchOrders 35 = .ok (.iload_n 1, 1) := by decide +kernel
theorem dX12_batchOrders_36 : decode cX12_batchOrders 36 = .ok (.iadd, 1) := by decide +kernel
theorem dX12_batchOrders_37 : decode cX12_batchOrders 37 = .ok (.iaload, 1) := by decide +kernel
theorem dX12_batchOrders_38 : decode cX12_batchOrders 38 = .ok (.ireturn, 1) := by decide +kernel
theorem dX12_batchWeight_0 : decode cX12_batchWeight 0 = .ok (.aload_n 0, 1) := by decide +kernel
theorem dX12_batchWeight_1 : decode cX12_batchWeight 1 = .ok (.aload_n 0, 1) := by decide +kernel
theorem dX12_batchWeight_2 : decode cX12_batchWeight 2 = .ok (.iload_n 1, 1) := by decide +kernel
theorem dX12_batchWeight_3 : decode cX12_batchWeight 3 = .ok (.invokevirtual 184, 3) := by decide +kernel
theorem dX12_batchWeight_6 : decode cX12_batchWeight 6 = .ok (.ifCond .eq 7, 3) := by decide +kernel
theorem dX12_batchWeight_9 : decode cX12_batchWeight 9 = .ok (.iconst 0, 1) := by decide +kernel
theorem dX12_batchWeight_10 : decode cX12_batchWeight 10 = .ok (.goto 4, 3) := by decide +kernel
theorem dX12_batchWeight_13 : decode cX12_batchWeight 13 = .ok (.iconst 1, 1) := by decide +kernel
theorem dX12_batchWeight_14 : decode cX12_batchWeight 14 = .ok (.putfield 70, 3) := by decide +kernel
theorem dX12_batchWeight_17 : decode cX12_batchWeight 17 = .ok (.aload_n 0, 1) := by decide +kernel
theorem dX12_batchWeight_18 : decode cX12_batchWeight 18 = .ok (.getfield 70, 3) := by decide +kernel
theorem dX12_batchWeight_21 : decode cX12_batchWeight 21 = .ok (.ifCond .le 7, 3) := by decide +kernel
theorem dX12_batchWeight_24 : decode cX12_batchWeight 24 = .ok (.iconst 0, 1) := by decide +kernel
theorem dX12_batchWeight_25 : decode cX12_batchWeight 25 = .ok (.goto 17, 3) := by decide +kernel
theorem dX12_batchWeight_28 : decode cX12_batchWeight 28 = .ok (.aload_n 0, 1) := by decide +kernel
theorem dX12_batchWeight_29 : decode cX12_batchWeight 29 = .ok (.aload_n 0, 1) := by decide +kernel
theorem dX12_batchWeight_30 : decode cX12_batchWeight 30 = .ok (.getfield 7, 3) := by decide +kernel
theorem dX12_batchWeight_33 : decode cX12_batchWeight 33 = .ok (.sipush 461, 3) := by decide +kernel
theorem dX12_batchWeight_36 : decode cX12_batchWeight 36 = .ok (.iload_n 1, 1) := by decide +kernel
theorem dX12_batchWeight_37 : decode cX12_batchWeight 37 = .ok (.iadd, 1) := by decide +kernel
theorem dX12_batchWeight_38 : decode cX12_batchWeight 38 = .ok (.iaload, 1) := by decide +kernel
theorem dX12_batchWeight_39 : decode cX12_batchWeight 39 = .ok (.invokevirtual 162, 3) := by decide +kernel
theorem dX12_batchWeight_42 : decode cX12_batchWeight 42 = .ok (.ireturn, 1) := by decide +kernel
theorem dX12_laysSpots_0 : decode cX12_laysSpots 0 = .ok (.iconst 0, 1) := by decide +kernel
theorem dX12_laysSpots_1 : decode cX12_laysSpots 1 = .ok (.istore_n 2, 1) := by decide +kernel
theorem dX12_laysSpots_2 : decode cX12_laysSpots 2 = .ok (.iload_n 2, 1) := by decide +kernel
theorem dX12_laysSpots_3 : decode cX12_laysSpots 3 = .ok (.bipush 126, 2) := by decide +kernel
theorem dX12_laysSpots_5 : decode cX12_laysSpots 5 = .ok (.if_icmp .ge 16, 3) := by decide +kernel
theorem dX12_laysSpots_8 : decode cX12_laysSpots 8 = .ok (.aload_n 0, 1) := by decide +kernel
theorem dX12_laysSpots_9 : decode cX12_laysSpots 9 = .ok (.getfield 23, 3) := by decide +kernel
theorem dX12_laysSpots_12 : decode cX12_laysSpots 12 = .ok (.iload_n 2, 1) := by decide +kernel
theorem dX12_laysSpots_13 : decode cX12_laysSpots 13 = .ok (.iconst 0, 1) := by decide +kernel
theorem dX12_laysSpots_14 : decode cX12_laysSpots 14 = .ok (.bastore, 1) := by decide +kernel
theorem dX12_laysSpots_15 : decode cX12_laysSpots 15 = .ok (.iinc 2 1, 3) := by decide +kernel
theorem dX12_laysSpots_18 : decode cX12_laysSpots 18 = .ok (.goto (-16), 3) := by decide +kernel
theorem dX12_laysSpots_21 : decode cX12_laysSpots 21 = .ok (.iconst 0, 1) := by decide +kernel
theorem dX12_laysSpots_22 : decode cX12_laysSpots 22 = .ok (.istore_n 2, 1) := by decide +kernel
theorem dX12_laysSpots_23 : decode cX12_laysSpots 23 = .ok (.iload_n 2, 1) := by decide +kernel
theorem dX12_laysSpots_24 : decode cX12_laysSpots 24 = .ok (.bipush 24, 2) := by decide +kernel
theorem dX12_laysSpots_26 : decode cX12_laysSpots 26 = .ok (.if_icmp .ge 16, 3) := by decide +kernel
theorem dX12_laysSpots_29 : decode cX12_laysSpots 29 = .ok (.aload_n 0, 1) := by decide +kernel
theorem dX12_laysSpots_30 : decode cX12_laysSpots 30 = .ok (.getfield 26, 3) := by decide +kernel
theorem dX12_laysSpots_33 : decode cX12_laysSpots 33 = .ok (.iload_n 2, 1) := by decide +kernel
theorem dX12_laysSpots_34 : decode cX12_laysSpots 34 = .ok (.iconst 0, 1) := by decide +kernel
theorem dX12_laysSpots_35 : decode cX12_laysSpots 35 = .ok (.bastore, 1) := by decide +kernel
theorem dX12_laysSpots_36 : decode cX12_laysSpots 36 = .ok (.iinc 2 1, 3) := by decide +kernel
theorem dX12_laysSpots_39 : decode cX12_laysSpots 39 = .ok (.goto (-16), 3) := by decide +kernel
theorem dX12_laysSpots_42 : decode cX12_laysSpots 42 = .ok (.iconst 0, 1) := by decide +kernel
theorem dX12_laysSpots_43 : decode cX12_laysSpots 43 = .ok (.istore_n 2, 1) := by decide +kernel
theorem dX12_laysSpots_44 : decode cX12_laysSpots 44 = .ok (.iload_n 2, 1) := by decide +kernel
theorem dX12_laysSpots_45 : decode cX12_laysSpots 45 = .ok (.bipush 16, 2) := by decide +kernel
theorem dX12_laysSpots_47 : decode cX12_laysSpots 47 = .ok (.if_icmp .ge 79, 3) := by decide +kernel
theorem dX12_laysSpots_50 : decode cX12_laysSpots 50 = .ok (.iconst 0, 1) := by decide +kernel
theorem dX12_laysSpots_51 : decode cX12_laysSpots 51 = .ok (.istore_n 3, 1) := by decide +kernel
theorem dX12_laysSpots_52 : decode cX12_laysSpots 52 = .ok (.iload_n 1, 1) := by decide +kernel
theorem dX12_laysSpots_53 : decode cX12_laysSpots 53 = .ok (.iload_n 2, 1) := by decide +kernel
theorem dX12_laysSpots_54 : decode cX12_laysSpots 54 = .ok (.invokestatic 136, 3) := by decide +kernel
theorem dX12_laysSpots_57 : decode cX12_laysSpots 57 = .ok (.ifCond .eq 63, 3) := by decide +kernel
theorem dX12_laysSpots_60 : decode cX12_laysSpots 60 = .ok (.iload_n 3, 1) := by decide +kernel
theorem dX12_laysSpots_61 : decode cX12_laysSpots 61 = .ok (.aload_n 0, 1) := by decide +kernel
theorem dX12_laysSpots_62 : decode cX12_laysSpots 62 = .ok (.iload_n 2, 1) := by decide +kernel
theorem dX12_laysSpots_63 : decode cX12_laysSpots 63 = .ok (.iconst 2, 1) := by decide +kernel
theorem dX12_laysSpots_64 : decode cX12_laysSpots 64 = .ok (.invokevirtual 107, 3) := by decide +kernel
theorem dX12_laysSpots_67 : decode cX12_laysSpots 67 = .ok (.if_icmp .ge 53, 3) := by decide +kernel
theorem dX12_laysSpots_70 : decode cX12_laysSpots 70 = .ok (.aload_n 0, 1) := by decide +kernel
theorem dX12_laysSpots_71 : decode cX12_laysSpots 71 = .ok (.getfield 7, 3) := by decide +kernel
theorem dX12_laysSpots_74 : decode cX12_laysSpots 74 = .ok (.iload_n 2, 1) := by decide +kernel
theorem dX12_laysSpots_75 : decode cX12_laysSpots 75 = .ok (.iload_n 3, 1) := by decide +kernel
theorem dX12_laysSpots_76 : decode cX12_laysSpots 76 = .ok (.invokestatic 110, 3) := by decide +kernel
theorem dX12_laysSpots_79 : decode cX12_laysSpots 79 = .ok (.iaload, 1) := by decide +kernel
theorem dX12_laysSpots_80 : decode cX12_laysSpots 80 = .ok (.istore 4, 2) := by decide +kernel
theorem dX12_laysSpots_82 : decode cX12_laysSpots 82 = .ok (.aload_n 0, 1) := by decide +kernel
theorem dX12_laysSpots_83 : decode cX12_laysSpots 83 = .ok (.getfield 26, 3) := by decide +kernel
theorem dX12_laysSpots_86 : decode cX12_laysSpots 86 = .ok (.iload 4, 2) := by decide +kernel
theorem dX12_laysSpots_88 : decode cX12_laysSpots 88 = .ok (.iconst 1, 1) := by decide +kernel
theorem dX12_laysSpots_89 : decode cX12_laysSpots 89 = .ok (.bastore, 1) := by decide +kernel
theorem dX12_laysSpots_90 : decode cX12_laysSpots 90 = .ok (.aload_n 0, 1) := by decide +kernel
theorem dX12_laysSpots_91 : decode cX12_laysSpots 91 = .ok (.getfield 23, 3) := by decide +kernel
theorem dX12_laysSpots_94 : decode cX12_laysSpots 94 = .ok (.bipush 21, 2) := by decide +kernel
theorem dX12_laysSpots_96 : decode cX12_laysSpots 96 = .ok (.aload_n 0, 1) := by decide +kernel
theorem dX12_laysSpots_97 : decode cX12_laysSpots 97 = .ok (.iload 4, 2) := by decide +kernel
theorem dX12_laysSpots_99 : decode cX12_laysSpots 99 = .ok (.iconst 0, 1) := by decide +kernel
theorem dX12_laysSpots_100 : decode cX12_laysSpots 100 = .ok (.invokevirtual 96, 3) := by decide +kernel
theorem dX12_laysSpots_103 : decode cX12_laysSpots 103 = .ok (.imul, 1) := by decide +kernel
theorem dX12_laysSpots_104 : decode cX12_laysSpots 104 = .ok (.aload_n 0, 1) := by decide +kernel
theorem dX12_laysSpots_105 : decode cX12_laysSpots 105 = .ok (.iload 4, 2) := by decide +kernel
theorem dX12_laysSpots_107 : decode cX12_laysSpots 107 = .ok (.iconst 1, 1) := by decide +kernel
theorem dX12_laysSpots_108 : decode cX12_laysSpots 108 = .ok (.invokevirtual 96, 3) := by decide +kernel
theorem dX12_laysSpots_111 : decode cX12_laysSpots 111 = .ok (.iadd, 1) := by decide +kernel
theorem dX12_laysSpots_112 : decode cX12_laysSpots 112 = .ok (.iconst 1, 1) := by decide +kernel
theorem dX12_laysSpots_113 : decode cX12_laysSpots 113 = .ok (.bastore, 1) := by decide +kernel
theorem dX12_laysSpots_114 : decode cX12_laysSpots 114 = .ok (.iinc 3 1, 3) := by decide +kernel
theorem dX12_laysSpots_117 : decode cX12_laysSpots 117 = .ok (.goto (-65), 3) := by decide +kernel
theorem dX12_laysSpots_120 : decode cX12_laysSpots 120 = .ok (.iinc 2 1, 3) := by decide +kernel
theorem dX12_laysSpots_123 : decode cX12_laysSpots 123 = .ok (.goto (-79), 3) := by decide +kernel
theorem dX12_laysSpots_126 : decode cX12_laysSpots 126 = .ok (.return_, 1) := by decide +kernel
theorem dX12_firstOf_0 : decode cX12_firstOf 0 = .ok (.iload_n 1, 1) := by decide +kernel
theorem dX12_firstOf_1 : decode cX12_firstOf 1 = .ok (.ifCond .ne 7, 3) := by decide +kernel
theorem dX12_firstOf_4 : decode cX12_firstOf 4 = .ok (.iconst 0, 1) := by decide +kernel
theorem dX12_firstOf_5 : decode cX12_firstOf 5 = .ok (.goto 25, 3) := by decide +kernel
theorem dX12_firstOf_8 : decode cX12_firstOf 8 = .ok (.iload_n 1, 1) := by decide +kernel
theorem dX12_firstOf_9 : decode cX12_firstOf 9 = .ok (.iconst 1, 1) := by decide +kernel
theorem dX12_firstOf_10 : decode cX12_firstOf 10 = .ok (.if_icmp .ne 13, 3) := by decide +kernel
theorem dX12_firstOf_13 : decode cX12_firstOf 13 = .ok (.aload_n 0, 1) := by decide +kernel
theorem dX12_firstOf_14 : decode cX12_firstOf 14 = .ok (.getfield 7, 3) := by decide +kernel
theorem dX12_firstOf_17 : decode cX12_firstOf 17 = .ok (.bipush 7, 2) := by decide +kernel
theorem dX12_firstOf_19 : decode cX12_firstOf 19 = .ok (.iaload, 1) := by decide +kernel
theorem dX12_firstOf_20 : decode cX12_firstOf 20 = .ok (.goto 10, 3) := by decide +kernel
theorem dX12_firstOf_23 : decode cX12_firstOf 23 = .ok (.aload_n 0, 1) := by decide +kernel
theorem dX12_firstOf_24 : decode cX12_firstOf 24 = .ok (.getfield 7, 3) := by decide +kernel
theorem dX12_firstOf_27 : decode cX12_firstOf 27 = .ok (.bipush 8, 2) := by decide +kernel
theorem dX12_firstOf_29 : decode cX12_firstOf 29 = .ok (.iaload, 1) := by decide +kernel
theorem dX12_firstOf_30 : decode cX12_firstOf 30 = .ok (.ireturn, 1) := by decide +kernel
theorem dX12_behind_0 : decode cX12_behind 0 = .ok (.iload_n 1, 1) := by decide +kernel
theorem dX12_behind_1 : decode cX12_behind 1 = .ok (.aload_n 0, 1) := by decide +kernel
theorem dX12_behind_2 : decode cX12_behind 2 = .ok (.invokevirtual 77, 3) := by decide +kernel
theorem dX12_behind_5 : decode cX12_behind 5 = .ok (.iconst 1, 1) := by decide +kernel
theorem dX12_behind_6 : decode cX12_behind 6 = .ok (.isub, 1) := by decide +kernel
theorem dX12_behind_7 : decode cX12_behind 7 = .ok (.if_icmp .ne 12, 3) := by decide +kernel
theorem dX12_behind_10 : decode cX12_behind 10 = .ok (.aload_n 0, 1) := by decide +kernel
theorem dX12_behind_11 : decode cX12_behind 11 = .ok (.getfield 7, 3) := by decide +kernel
theorem dX12_behind_14 : decode cX12_behind 14 = .ok (.iconst 0, 1) := by decide +kernel
theorem dX12_behind_15 : decode cX12_behind 15 = .ok (.iaload, 1) := by decide +kernel
theorem dX12_behind_16 : decode cX12_behind 16 = .ok (.goto 10, 3) := by decide +kernel
theorem dX12_behind_19 : decode cX12_behind 19 = .ok (.aload_n 0, 1) := by decide +kernel
theorem dX12_behind_20 : decode cX12_behind 20 = .ok (.iload_n 1, 1) := by decide +kernel
theorem dX12_behind_21 : decode cX12_behind 21 = .ok (.iconst 1, 1) := by decide +kernel
theorem dX12_behind_22 : decode cX12_behind 22 = .ok (.iadd, 1) := by decide +kernel
theorem dX12_behind_23 : decode cX12_behind 23 = .ok (.invokevirtual 187, 3) := by decide +kernel
theorem dX12_behind_26 : decode cX12_behind 26 = .ok (.ireturn, 1) := by decide +kernel
theorem dX12_lowest_0 : decode cX12_lowest 0 = .ok (.iconst 1, 1) := by decide +kernel
theorem dX12_lowest_1 : decode cX12_lowest 1 = .ok (.istore_n 2, 1) := by decide +kernel
theorem dX12_lowest_2 : decode cX12_lowest 2 = .ok (.iload_n 2, 1) := by decide +kernel
theorem dX12_lowest_3 : decode cX12_lowest 3 = .ok (.aload_n 0, 1) := by decide +kernel
theorem dX12_lowest_4 : decode cX12_lowest 4 = .ok (.getfield 7, 3) := by decide +kernel
theorem dX12_lowest_7 : decode cX12_lowest 7 = .ok (.iconst 1, 1) := by decide +kernel
theorem dX12_lowest_8 : decode cX12_lowest 8 = .ok (.iaload, 1) := by decide +kernel
theorem dX12_lowest_9 : decode cX12_lowest 9 = .ok (.if_icmp .gt 23, 3) := by decide +kernel
theorem dX12_lowest_12 : decode cX12_lowest 12 = .ok (.aload_n 0, 1) := by decide +kernel
theorem dX12_lowest_13 : decode cX12_lowest 13 = .ok (.getfield 23, 3) := by decide +kernel
theorem dX12_lowest_16 : decode cX12_lowest 16 = .ok (.bipush 21, 2) := by decide +kernel
theorem dX12_lowest_18 : decode cX12_lowest 18 = .ok (.iload_n 1, 1) := by decide +kernel
theorem dX12_lowest_19 : decode cX12_lowest 19 = .ok (.imul, 1) := by decide +kernel
theorem dX12_lowest_20 : decode cX12_lowest 20 = .ok (.iload_n 2, 1) := by decide +kernel
theorem dX12_lowest_21 : decode cX12_lowest 21 = .ok (.iadd, 1) := by decide +kernel
theorem dX12_lowest_22 : decode cX12_lowest 22 = .ok (.baload, 1) := by decide +kernel
theorem dX12_lowest_23 : decode cX12_lowest 23 = .ok (.ifCond .ne 9, 3) := by decide +kernel
theorem dX12_lowest_26 : decode cX12_lowest 26 = .ok (.iinc 2 1, 3) := by decide +kernel
theorem dX12_lowest_29 : decode cX12_lowest 29 = .ok (.goto (-27), 3) := by decide +kernel
theorem dX12_lowest_32 : decode cX12_lowest 32 = .ok (.iload_n 2, 1) := by decide +kernel
theorem dX12_lowest_33 : decode cX12_lowest 33 = .ok (.ireturn, 1) := by decide +kernel
theorem dX12_highest_0 : decode cX12_highest 0 = .ok (.aload_n 0, 1) := by decide +kernel
theorem dX12_highest_1 : decode cX12_highest 1 = .ok (.getfield 7, 3) := by decide +kernel
theorem dX12_highest_4 : decode cX12_highest 4 = .ok (.iconst 1, 1) := by decide +kernel
theorem dX12_highest_5 : decode cX12_highest 5 = .ok (.iaload, 1) := by decide +kernel
theorem dX12_highest_6 : decode cX12_highest 6 = .ok (.istore_n 2, 1) := by decide +kernel
theorem dX12_highest_7 : decode cX12_highest 7 = .ok (.iload_n 2, 1) := by decide +kernel
theorem dX12_highest_8 : decode cX12_highest 8 = .ok (.ifCond .le 23, 3) := by decide +kernel
theorem dX12_highest_11 : decode cX12_highest 11 = .ok (.aload_n 0, 1) := by decide +kernel
theorem dX12_highest_12 : decode cX12_highest 12 = .ok (.getfield 23, 3) := by decide +kernel
theorem dX12_highest_15 : decode cX12_highest 15 = .ok (.bipush 21, 2) := by decide +kernel
theorem dX12_highest_17 : decode cX12_highest 17 = .ok (.iload_n 1, 1) := by decide +kernel
theorem dX12_highest_18 : decode cX12_highest 18 = .ok (.imul, 1) := by decide +kernel
theorem dX12_highest_19 : decode cX12_highest 19 = .ok (.iload_n 2, 1) := by decide +kernel
theorem dX12_highest_20 : decode cX12_highest 20 = .ok (.iadd, 1) := by decide +kernel
theorem dX12_highest_21 : decode cX12_highest 21 = .ok (.baload, 1) := by decide +kernel
theorem dX12_highest_22 : decode cX12_highest 22 = .ok (.ifCond .ne 9, 3) := by decide +kernel
theorem dX12_highest_25 : decode cX12_highest 25 = .ok (.iinc 2 (-1), 3) := by decide +kernel
theorem dX12_highest_28 : decode cX12_highest 28 = .ok (.goto (-21), 3) := by decide +kernel
theorem dX12_highest_31 : decode cX12_highest 31 = .ok (.iload_n 2, 1) := by decide +kernel
theorem dX12_highest_32 : decode cX12_highest 32 = .ok (.ireturn, 1) := by decide +kernel
theorem dX12_laysAisles_0 : decode cX12_laysAisles 0 = .ok (.aload_n 0, 1) := by decide +kernel
theorem dX12_laysAisles_1 : decode cX12_laysAisles 1 = .ok (.iconst 0, 1) := by decide +kernel
theorem dX12_laysAisles_2 : decode cX12_laysAisles 2 = .ok (.putfield 190, 3) := by decide +kernel
theorem dX12_laysAisles_5 : decode cX12_laysAisles 5 = .ok (.aload_n 0, 1) := by decide +kernel
theorem dX12_laysAisles_6 : decode cX12_laysAisles 6 = .ok (.iload_n 1, 1) := by decide +kernel
theorem dX12_laysAisles_7 : decode cX12_laysAisles 7 = .ok (.invokevirtual 187, 3) := by decide +kernel
theorem dX12_laysAisles_10 : decode cX12_laysAisles 10 = .ok (.istore_n 2, 1) := by decide +kernel
theorem dX12_laysAisles_11 : decode cX12_laysAisles 11 = .ok (.iload_n 2, 1) := by decide +kernel
theorem dX12_laysAisles_12 : decode cX12_laysAisles 12 = .ok (.aload_n 0, 1) := by decide +kernel
theorem dX12_laysAisles_13 : decode cX12_laysAisles 13 = .ok (.iload_n 1, 1) := by decide +kernel
theorem dX12_laysAisles_14 : decode cX12_laysAisles 14 = .ok (.invokevirtual 193, 3) := by decide +kernel
theorem dX12_laysAisles_17 : decode cX12_laysAisles 17 = .ok (.if_icmp .ge 37, 3) := by decide +kernel
theorem dX12_laysAisles_20 : decode cX12_laysAisles 20 = .ok (.aload_n 0, 1) := by decide +kernel
theorem dX12_laysAisles_21 : decode cX12_laysAisles 21 = .ok (.iload_n 2, 1) := by decide +kernel
theorem dX12_laysAisles_22 : decode cX12_laysAisles 22 = .ok (.invokevirtual 196, 3) := by decide +kernel
theorem dX12_laysAisles_25 : decode cX12_laysAisles 25 = .ok (.ifCond .le 23, 3) := by decide +kernel
theorem dX12_laysAisles_28 : decode cX12_laysAisles 28 = .ok (.aload_n 0, 1) := by decide +kernel
theorem dX12_laysAisles_29 : decode cX12_laysAisles 29 = .ok (.getfield 29, 3) := by decide +kernel
theorem dX12_laysAisles_32 : decode cX12_laysAisles 32 = .ok (.aload_n 0, 1) := by decide +kernel
theorem dX12_laysAisles_33 : decode cX12_laysAisles 33 = .ok (.getfield 190, 3) := by decide +kernel
theorem dX12_laysAisles_36 : decode cX12_laysAisles 36 = .ok (.iload_n 2, 1) := by decide +kernel
theorem dX12_laysAisles_37 : decode cX12_laysAisles 37 = .ok (.iastore, 1) := by decide +kernel
theorem dX12_laysAisles_38 : decode cX12_laysAisles 38 = .ok (.aload_n 0, 1) := by decide +kernel
theorem dX12_laysAisles_39 : decode cX12_laysAisles 39 = .ok (.dup, 1) := by decide +kernel
theorem dX12_laysAisles_40 : decode cX12_laysAisles 40 = .ok (.getfield 190, 3) := by decide +kernel
theorem dX12_laysAisles_43 : decode cX12_laysAisles 43 = .ok (.iconst 1, 1) := by decide +kernel
theorem dX12_laysAisles_44 : decode cX12_laysAisles 44 = .ok (.iadd, 1) := by decide +kernel
theorem dX12_laysAisles_45 : decode cX12_laysAisles 45 = .ok (.putfield 190, 3) := by decide +kernel
theorem dX12_laysAisles_48 : decode cX12_laysAisles 48 = .ok (.iinc 2 1, 3) := by decide +kernel
theorem dX12_laysAisles_51 : decode cX12_laysAisles 51 = .ok (.goto (-40), 3) := by decide +kernel
theorem dX12_laysAisles_54 : decode cX12_laysAisles 54 = .ok (.return_, 1) := by decide +kernel
theorem dX12_through_0 : decode cX12_through 0 = .ok (.aload_n 0, 1) := by decide +kernel
theorem dX12_through_1 : decode cX12_through 1 = .ok (.getfield 7, 3) := by decide +kernel
theorem dX12_through_4 : decode cX12_through 4 = .ok (.iconst 1, 1) := by decide +kernel
theorem dX12_through_5 : decode cX12_through 5 = .ok (.iaload, 1) := by decide +kernel
theorem dX12_through_6 : decode cX12_through 6 = .ok (.iconst 1, 1) := by decide +kernel
theorem dX12_through_7 : decode cX12_through 7 = .ok (.iadd, 1) := by decide +kernel
theorem dX12_through_8 : decode cX12_through 8 = .ok (.ireturn, 1) := by decide +kernel
theorem dX12_seeksGap_0 : decode cX12_seeksGap 0 = .ok (.aload_n 0, 1) := by decide +kernel
theorem dX12_seeksGap_1 : decode cX12_seeksGap 1 = .ok (.iconst 0, 1) := by decide +kernel
theorem dX12_seeksGap_2 : decode cX12_seeksGap 2 = .ok (.putfield 199, 3) := by decide +kernel
theorem dX12_seeksGap_5 : decode cX12_seeksGap 5 = .ok (.aload_n 0, 1) := by decide +kernel
theorem dX12_seeksGap_6 : decode cX12_seeksGap 6 = .ok (.iconst 0, 1) := by decide +kernel
theorem dX12_seeksGap_7 : decode cX12_seeksGap 7 = .ok (.putfield 202, 3) := by decide +kernel
theorem dX12_seeksGap_10 : decode cX12_seeksGap 10 = .ok (.iconst 0, 1) := by decide +kernel
theorem dX12_seeksGap_11 : decode cX12_seeksGap 11 = .ok (.istore_n 2, 1) := by decide +kernel
theorem dX12_seeksGap_12 : decode cX12_seeksGap 12 = .ok (.iconst 1, 1) := by decide +kernel
theorem dX12_seeksGap_13 : decode cX12_seeksGap 13 = .ok (.istore_n 3, 1) := by decide +kernel
theorem dX12_seeksGap_14 : decode cX12_seeksGap 14 = .ok (.iload_n 3, 1) := by decide +kernel
theorem dX12_seeksGap_15 : decode cX12_seeksGap 15 = .ok (.aload_n 0, 1) := by decide +kernel
theorem dX12_seeksGap_16 : decode cX12_seeksGap 16 = .ok (.invokevirtual 205, 3) := by decide +kernel
theorem dX12_seeksGap_19 : decode cX12_seeksGap 19 = .ok (.if_icmp .gt 58, 3) := by decide +kernel
theorem dX12_seeksGap_22 : decode cX12_seeksGap 22 = .ok (.iload_n 3, 1) := by decide +kernel
theorem dX12_seeksGap_23 : decode cX12_seeksGap 23 = .ok (.aload_n 0, 1) := by decide +kernel
theorem dX12_seeksGap_24 : decode cX12_seeksGap 24 = .ok (.invokevirtual 205, 3) := by decide +kernel
theorem dX12_seeksGap_27 : decode cX12_seeksGap 27 = .ok (.if_icmp .ge 20, 3) := by decide +kernel
theorem dX12_seeksGap_30 : decode cX12_seeksGap 30 = .ok (.aload_n 0, 1) := by decide +kernel
theorem dX12_seeksGap_31 : decode cX12_seeksGap 31 = .ok (.getfield 23, 3) := by decide +kernel
theorem dX12_seeksGap_34 : decode cX12_seeksGap 34 = .ok (.bipush 21, 2) := by decide +kernel
theorem dX12_seeksGap_36 : decode cX12_seeksGap 36 = .ok (.iload_n 1, 1) := by decide +kernel
theorem dX12_seeksGap_37 : decode cX12_seeksGap 37 = .ok (.imul, 1) := by decide +kernel
theorem dX12_seeksGap_38 : decode cX12_seeksGap 38 = .ok (.iload_n 3, 1) := by decide +kernel
theorem dX12_seeksGap_39 : decode cX12_seeksGap 39 = .ok (.iadd, 1) := by decide +kernel
theorem dX12_seeksGap_40 : decode cX12_seeksGap 40 = .ok (.baload, 1) := by decide +kernel
theorem dX12_seeksGap_41 : decode cX12_seeksGap 41 = .ok (.ifCond .ne 6, 3) := by decide +kernel
theorem dX12_seeksGap_44 : decode cX12_seeksGap 44 = .ok (.goto 27, 3) := by decide +kernel
theorem dX12_seeksGap_47 : decode cX12_seeksGap 47 = .ok (.iload_n 3, 1) := by decide +kernel
theorem dX12_seeksGap_48 : decode cX12_seeksGap 48 = .ok (.iload_n 2, 1) := by decide +kernel
theorem dX12_seeksGap_49 : decode cX12_seeksGap 49 = .ok (.isub, 1) := by decide +kernel
theorem dX12_seeksGap_50 : decode cX12_seeksGap 50 = .ok (.aload_n 0, 1) := by decide +kernel
theorem dX12_seeksGap_51 : decode cX12_seeksGap 51 = .ok (.getfield 202, 3) := by decide +kernel
theorem dX12_seeksGap_54 : decode cX12_seeksGap 54 = .ok (.if_icmp .le 15, 3) := by decide +kernel
theorem dX12_seeksGap_57 : decode cX12_seeksGap 57 = .ok (.aload_n 0, 1) := by decide +kernel
theorem dX12_seeksGap_58 : decode cX12_seeksGap 58 = .ok (.iload_n 2, 1) := by decide +kernel
theorem dX12_seeksGap_59 : decode cX12_seeksGap 59 = .ok (.putfield 199, 3) := by decide +kernel
theorem dX12_seeksGap_62 : decode cX12_seeksGap 62 = .ok (.aload_n 0, 1) := by decide +kernel
theorem dX12_seeksGap_63 : decode cX12_seeksGap 63 = .ok (.iload_n 3, 1) := by decide +kernel
theorem dX12_seeksGap_64 : decode cX12_seeksGap 64 = .ok (.iload_n 2, 1) := by decide +kernel
theorem dX12_seeksGap_65 : decode cX12_seeksGap 65 = .ok (.isub, 1) := by decide +kernel
theorem dX12_seeksGap_66 : decode cX12_seeksGap 66 = .ok (.putfield 202, 3) := by decide +kernel
theorem dX12_seeksGap_69 : decode cX12_seeksGap 69 = .ok (.iload_n 3, 1) := by decide +kernel
theorem dX12_seeksGap_70 : decode cX12_seeksGap 70 = .ok (.istore_n 2, 1) := by decide +kernel
theorem dX12_seeksGap_71 : decode cX12_seeksGap 71 = .ok (.iinc 3 1, 3) := by decide +kernel
theorem dX12_seeksGap_74 : decode cX12_seeksGap 74 = .ok (.goto (-60), 3) := by decide +kernel
theorem dX12_seeksGap_77 : decode cX12_seeksGap 77 = .ok (.return_, 1) := by decide +kernel
theorem dX12_combinedBy_0 : decode cX12_combinedBy 0 = .ok (.iconst 0, 1) := by decide +kernel
theorem dX12_combinedBy_1 : decode cX12_combinedBy 1 = .ok (.istore_n 2, 1) := by decide +kernel
theorem dX12_combinedBy_2 : decode cX12_combinedBy 2 = .ok (.iconst 0, 1) := by decide +kernel
theorem dX12_combinedBy_3 : decode cX12_combinedBy 3 = .ok (.istore_n 3, 1) := by decide +kernel
theorem dX12_combinedBy_4 : decode cX12_combinedBy 4 = .ok (.iconst 0, 1) := by decide +kernel
theorem dX12_combinedBy_5 : decode cX12_combinedBy 5 = .ok (.istore 4, 2) := by decide +kernel
theorem dX12_combinedBy_7 : decode cX12_combinedBy 7 = .ok (.iload 4, 2) := by decide +kernel
theorem dX12_combinedBy_9 : decode cX12_combinedBy 9 = .ok (.aload_n 0, 1) := by decide +kernel
theorem dX12_combinedBy_10 : decode cX12_combinedBy 10 = .ok (.getfield 190, 3) := by decide +kernel
theorem dX12_combinedBy_13 : decode cX12_combinedBy 13 = .ok (.if_icmp .ge 87, 3) := by decide +kernel
theorem dX12_combinedBy_16 : decode cX12_combinedBy 16 = .ok (.iload_n 1, 1) := by decide +kernel
theorem dX12_combinedBy_17 : decode cX12_combinedBy 17 = .ok (.aload_n 0, 1) := by decide +kernel
theorem dX12_combinedBy_18 : decode cX12_combinedBy 18 = .ok (.getfield 190, 3) := by decide +kernel
theorem dX12_combinedBy_21 : decode cX12_combinedBy 21 = .ok (.iconst 1, 1) := by decide +kernel
theorem dX12_combinedBy_22 : decode cX12_combinedBy 22 = .ok (.isub, 1) := by decide +kernel
theorem dX12_combinedBy_23 : decode cX12_combinedBy 23 = .ok (.iload 4, 2) := by decide +kernel
theorem dX12_combinedBy_25 : decode cX12_combinedBy 25 = .ok (.isub, 1) := by decide +kernel
theorem dX12_combinedBy_26 : decode cX12_combinedBy 26 = .ok (.invokestatic 136, 3) := by decide +kernel
theorem dX12_combinedBy_29 : decode cX12_combinedBy 29 = .ok (.istore 5, 2) := by decide +kernel
theorem dX12_combinedBy_31 : decode cX12_combinedBy 31 = .ok (.iload_n 3, 1) := by decide +kernel
theorem dX12_combinedBy_32 : decode cX12_combinedBy 32 = .ok (.iload 5, 2) := by decide +kernel
theorem dX12_combinedBy_34 : decode cX12_combinedBy 34 = .ok (.ifCond .eq 10, 3) := by decide +kernel
theorem dX12_combinedBy_37 : decode cX12_combinedBy 37 = .ok (.aload_n 0, 1) := by decide +kernel
theorem dX12_combinedBy_38 : decode cX12_combinedBy 38 = .ok (.invokevirtual 205, 3) := by decide +kernel
theorem dX12_combinedBy_41 : decode cX12_combinedBy 41 = .ok (.goto 39, 3) := by decide +kernel
theorem dX12_combinedBy_44 : decode cX12_combinedBy 44 = .ok (.iconst 2, 1) := by decide +kernel
theorem dX12_combinedBy_45 : decode cX12_combinedBy 45 = .ok (.iload_n 2, 1) := by decide +kernel
theorem dX12_combinedBy_46 : decode cX12_combinedBy 46 = .ok (.ifCond .eq 22, 3) := by decide +kernel
theorem dX12_combinedBy_49 : decode cX12_combinedBy 49 = .ok (.aload_n 0, 1) := by decide +kernel
theorem dX12_combinedBy_50 : decode cX12_combinedBy 50 = .ok (.invokevirtual 205, 3) := by decide +kernel
theorem dX12_combinedBy_53 : decode cX12_combinedBy 53 = .ok (.aload_n 0, 1) := by decide +kernel
theorem dX12_combinedBy_54 : decode cX12_combinedBy 54 = .ok (.aload_n 0, 1) := by decide +kernel
theorem dX12_combinedBy_55 : decode cX12_combinedBy 55 = .ok (.getfield 29, 3) := by decide +kernel
theorem dX12_combinedBy_58 : decode cX12_combinedBy 58 = .ok (.iload 4, 2) := by decide +kernel
theorem dX12_combinedBy_60 : decode cX12_combinedBy 60 = .ok (.iaload, 1) := by decide +kernel
theorem dX12_combinedBy_61 : decode cX12_combinedBy 61 = .ok (.invokevirtual 208, 3) := by decide +kernel
theorem dX12_combinedBy_64 : decode cX12_combinedBy 64 = .ok (.isub, 1) := by decide +kernel
theorem dX12_combinedBy_65 : decode cX12_combinedBy 65 = .ok (.goto 14, 3) := by decide +kernel
theorem dX12_combinedBy_68 : decode cX12_combinedBy 68 = .ok (.aload_n 0, 1) := by decide +kernel
theorem dX12_combinedBy_69 : decode cX12_combinedBy 69 = .ok (.aload_n 0, 1) := by decide +kernel
theorem dX12_combinedBy_70 : decode cX12_combinedBy 70 = .ok (.getfield 29, 3) := by decide +kernel
theorem dX12_combinedBy_73 : decode cX12_combinedBy 73 = .ok (.iload 4, 2) := by decide +kernel
theorem dX12_combinedBy_75 : decode cX12_combinedBy 75 = .ok (.iaload, 1) := by decide +kernel
theorem dX12_combinedBy_76 : decode cX12_combinedBy 76 = .ok (.invokevirtual 196, 3) := by decide +kernel
theorem dX12_combinedBy_79 : decode cX12_combinedBy 79 = .ok (.imul, 1) := by decide +kernel
theorem dX12_combinedBy_80 : decode cX12_combinedBy 80 = .ok (.iadd, 1) := by decide +kernel
theorem dX12_combinedBy_81 : decode cX12_combinedBy 81 = .ok (.istore_n 3, 1) := by decide +kernel
theorem dX12_combinedBy_82 : decode cX12_combinedBy 82 = .ok (.iload_n 2, 1) := by decide +kernel
theorem dX12_combinedBy_83 : decode cX12_combinedBy 83 = .ok (.iload 5, 2) := by decide +kernel
theorem dX12_combinedBy_85 : decode cX12_combinedBy 85 = .ok (.if_icmp .eq 7, 3) := by decide +kernel
theorem dX12_combinedBy_88 : decode cX12_combinedBy 88 = .ok (.iconst 1, 1) := by decide +kernel
theorem dX12_combinedBy_89 : decode cX12_combinedBy 89 = .ok (.goto 4, 3) := by decide +kernel
theorem dX12_combinedBy_92 : decode cX12_combinedBy 92 = .ok (.iconst 0, 1) := by decide +kernel
theorem dX12_combinedBy_93 : decode cX12_combinedBy 93 = .ok (.istore_n 2, 1) := by decide +kernel
theorem dX12_combinedBy_94 : decode cX12_combinedBy 94 = .ok (.iinc 4 1, 3) := by decide +kernel
theorem dX12_combinedBy_97 : decode cX12_combinedBy 97 = .ok (.goto (-90), 3) := by decide +kernel
theorem dX12_combinedBy_100 : decode cX12_combinedBy 100 = .ok (.iload_n 2, 1) := by decide +kernel
theorem dX12_combinedBy_101 : decode cX12_combinedBy 101 = .ok (.ifCond .eq 7, 3) := by decide +kernel
theorem dX12_combinedBy_104 : decode cX12_combinedBy 104 = .ok (.iconst (-1), 1) := by decide +kernel
theorem dX12_combinedBy_105 : decode cX12_combinedBy 105 = .ok (.goto 4, 3) := by decide +kernel
theorem dX12_combinedBy_108 : decode cX12_combinedBy 108 = .ok (.iload_n 3, 1) := by decide +kernel
theorem dX12_combinedBy_109 : decode cX12_combinedBy 109 = .ok (.ireturn, 1) := by decide +kernel
theorem dX12_bestChoice_0 : decode cX12_bestChoice 0 = .ok (.iconst 0, 1) := by decide +kernel
theorem dX12_bestChoice_1 : decode cX12_bestChoice 1 = .ok (.istore_n 1, 1) := by decide +kernel
theorem dX12_bestChoice_2 : decode cX12_bestChoice 2 = .ok (.iconst 1, 1) := by decide +kernel
theorem dX12_bestChoice_3 : decode cX12_bestChoice 3 = .ok (.istore_n 2, 1) := by decide +kernel
theorem dX12_bestChoice_4 : decode cX12_bestChoice 4 = .ok (.iload_n 2, 1) := by decide +kernel
theorem dX12_bestChoice_5 : decode cX12_bestChoice 5 = .ok (.iconst 1, 1) := by decide +kernel
theorem dX12_bestChoice_6 : decode cX12_bestChoice 6 = .ok (.aload_n 0, 1) := by decide +kernel
theorem dX12_bestChoice_7 : decode cX12_bestChoice 7 = .ok (.getfield 190, 3) := by decide +kernel
theorem dX12_bestChoice_10 : decode cX12_bestChoice 10 = .ok (.ishl, 1) := by decide +kernel
theorem dX12_bestChoice_11 : decode cX12_bestChoice 11 = .ok (.if_icmp .ge 35, 3) := by decide +kernel
theorem dX12_bestChoice_14 : decode cX12_bestChoice 14 = .ok (.aload_n 0, 1) := by decide +kernel
theorem dX12_bestChoice_15 : decode cX12_bestChoice 15 = .ok (.iload_n 2, 1) := by decide +kernel
theorem dX12_bestChoice_16 : decode cX12_bestChoice 16 = .ok (.invokevirtual 211, 3) := by decide +kernel
theorem dX12_bestChoice_19 : decode cX12_bestChoice 19 = .ok (.istore_n 3, 1) := by decide +kernel
theorem dX12_bestChoice_20 : decode cX12_bestChoice 20 = .ok (.iload_n 3, 1) := by decide +kernel
theorem dX12_bestChoice_21 : decode cX12_bestChoice 21 = .ok (.iconst (-1), 1) := by decide +kernel
theorem dX12_bestChoice_22 : decode cX12_bestChoice 22 = .ok (.if_icmp .eq 16, 3) := by decide +kernel
theorem dX12_bestChoice_25 : decode cX12_bestChoice 25 = .ok (.iload_n 3, 1) := by decide +kernel
theorem dX12_bestChoice_26 : decode cX12_bestChoice 26 = .ok (.aload_n 0, 1) := by decide +kernel
theorem dX12_bestChoice_27 : decode cX12_bestChoice 27 = .ok (.iload_n 1, 1) := by decide +kernel
theorem dX12_bestChoice_28 : decode cX12_bestChoice 28 = .ok (.invokevirtual 211, 3) := by decide +kernel
theorem dX12_bestChoice_31 : decode cX12_bestChoice 31 = .ok (.if_icmp .ge 7, 3) := by decide +kernel
theorem dX12_bestChoice_34 : decode cX12_bestChoice 34 = .ok (.iload_n 2, 1) := by decide +kernel
theorem dX12_bestChoice_35 : decode cX12_bestChoice 35 = .ok (.goto 4, 3) := by decide +kernel
theorem dX12_bestChoice_38 : decode cX12_bestChoice 38 = .ok (.iload_n 1, 1) := by decide +kernel
theorem dX12_bestChoice_39 : decode cX12_bestChoice 39 = .ok (.istore_n 1, 1) := by decide +kernel
theorem dX12_bestChoice_40 : decode cX12_bestChoice 40 = .ok (.iinc 2 1, 3) := by decide +kernel
theorem dX12_bestChoice_43 : decode cX12_bestChoice 43 = .ok (.goto (-39), 3) := by decide +kernel
theorem dX12_bestChoice_46 : decode cX12_bestChoice 46 = .ok (.iload_n 1, 1) := by decide +kernel
theorem dX12_bestChoice_47 : decode cX12_bestChoice 47 = .ok (.ireturn, 1) := by decide +kernel
theorem dX12_shapeOf_0 : decode cX12_shapeOf 0 = .ok (.iconst 0, 1) := by decide +kernel
theorem dX12_shapeOf_1 : decode cX12_shapeOf 1 = .ok (.istore_n 1, 1) := by decide +kernel
theorem dX12_shapeOf_2 : decode cX12_shapeOf 2 = .ok (.iconst 0, 1) := by decide +kernel
theorem dX12_shapeOf_3 : decode cX12_shapeOf 3 = .ok (.istore_n 2, 1) := by decide +kernel
theorem dX12_shapeOf_4 : decode cX12_shapeOf 4 = .ok (.iload_n 2, 1) := by decide +kernel
theorem dX12_shapeOf_5 : decode cX12_shapeOf 5 = .ok (.aload_n 0, 1) := by decide +kernel
theorem dX12_shapeOf_6 : decode cX12_shapeOf 6 = .ok (.getfield 190, 3) := by decide +kernel
theorem dX12_shapeOf_9 : decode cX12_shapeOf 9 = .ok (.if_icmp .ge 51, 3) := by decide +kernel
theorem dX12_shapeOf_12 : decode cX12_shapeOf 12 = .ok (.iload_n 1, 1) := by decide +kernel
theorem dX12_shapeOf_13 : decode cX12_shapeOf 13 = .ok (.iload_n 2, 1) := by decide +kernel
theorem dX12_shapeOf_14 : decode cX12_shapeOf 14 = .ok (.aload_n 0, 1) := by decide +kernel
theorem dX12_shapeOf_15 : decode cX12_shapeOf 15 = .ok (.getfield 190, 3) := by decide +kernel
theorem dX12_shapeOf_18 : decode cX12_shapeOf 18 = .ok (.iconst 1, 1) := by decide +kernel
theorem dX12_shapeOf_19 : decode cX12_shapeOf 19 = .ok (.isub, 1) := by decide +kernel
theorem dX12_shapeOf_20 : decode cX12_shapeOf 20 = .ok (.if_icmp .ne 28, 3) := by decide +kernel
theorem dX12_shapeOf_23 : decode cX12_shapeOf 23 = .ok (.aload_n 0, 1) := by decide +kernel
theorem dX12_shapeOf_24 : decode cX12_shapeOf 24 = .ok (.getfield 190, 3) := by decide +kernel
theorem dX12_shapeOf_27 : decode cX12_shapeOf 27 = .ok (.iconst 2, 1) := by decide +kernel
theorem dX12_shapeOf_28 : decode cX12_shapeOf 28 = .ok (.irem, 1) := by decide +kernel
theorem dX12_shapeOf_29 : decode cX12_shapeOf 29 = .ok (.iconst 1, 1) := by decide +kernel
theorem dX12_shapeOf_30 : decode cX12_shapeOf 30 = .ok (.if_icmp .ne 18, 3) := by decide +kernel
theorem dX12_shapeOf_33 : decode cX12_shapeOf 33 = .ok (.iconst 2, 1) := by decide +kernel
theorem dX12_shapeOf_34 : decode cX12_shapeOf 34 = .ok (.aload_n 0, 1) := by decide +kernel
theorem dX12_shapeOf_35 : decode cX12_shapeOf 35 = .ok (.aload_n 0, 1) := by decide +kernel
theorem dX12_shapeOf_36 : decode cX12_shapeOf 36 = .ok (.getfield 29, 3) := by decide +kernel
theorem dX12_shapeOf_39 : decode cX12_shapeOf 39 = .ok (.iload_n 2, 1) := by decide +kernel
theorem dX12_shapeOf_40 : decode cX12_shapeOf 40 = .ok (.iaload, 1) := by decide +kernel
theorem dX12_shapeOf_41 : decode cX12_shapeOf 41 = .ok (.invokevirtual 196, 3) := by decide +kernel
theorem dX12_shapeOf_44 : decode cX12_shapeOf 44 = .ok (.imul, 1) := by decide +kernel
theorem dX12_shapeOf_45 : decode cX12_shapeOf 45 = .ok (.goto 7, 3) := by decide +kernel
theorem dX12_shapeOf_48 : decode cX12_shapeOf 48 = .ok (.aload_n 0, 1) := by decide +kernel
theorem dX12_shapeOf_49 : decode cX12_shapeOf 49 = .ok (.invokevirtual 205, 3) := by decide +kernel
theorem dX12_shapeOf_52 : decode cX12_shapeOf 52 = .ok (.iadd, 1) := by decide +kernel
theorem dX12_shapeOf_53 : decode cX12_shapeOf 53 = .ok (.istore_n 1, 1) := by decide +kernel
theorem dX12_shapeOf_54 : decode cX12_shapeOf 54 = .ok (.iinc 2 1, 3) := by decide +kernel
theorem dX12_shapeOf_57 : decode cX12_shapeOf 57 = .ok (.goto (-53), 3) := by decide +kernel
theorem dX12_shapeOf_60 : decode cX12_shapeOf 60 = .ok (.iload_n 1, 1) := by decide +kernel
theorem dX12_shapeOf_61 : decode cX12_shapeOf 61 = .ok (.ireturn, 1) := by decide +kernel
theorem dX12_returnOf_0 : decode cX12_returnOf 0 = .ok (.iconst 0, 1) := by decide +kernel
theorem dX12_returnOf_1 : decode cX12_returnOf 1 = .ok (.istore_n 1, 1) := by decide +kernel
theorem dX12_returnOf_2 : decode cX12_returnOf 2 = .ok (.iconst 0, 1) := by decide +kernel
theorem dX12_returnOf_3 : decode cX12_returnOf 3 = .ok (.istore_n 2, 1) := by decide +kernel
theorem dX12_returnOf_4 : decode cX12_returnOf 4 = .ok (.iload_n 2, 1) := by decide +kernel
theorem dX12_returnOf_5 : decode cX12_returnOf 5 = .ok (.aload_n 0, 1) := by decide +kernel
theorem dX12_returnOf_6 : decode cX12_returnOf 6 = .ok (.getfield 190, 3) := by decide +kernel
theorem dX12_returnOf_9 : decode cX12_returnOf 9 = .ok (.if_icmp .ge 24, 3) := by decide +kernel
theorem dX12_returnOf_12 : decode cX12_returnOf 12 = .ok (.iload_n 1, 1) := by decide +kernel
theorem dX12_returnOf_13 : decode cX12_returnOf 13 = .ok (.iconst 2, 1) := by decide +kernel
theorem dX12_returnOf_14 : decode cX12_returnOf 14 = .ok (.aload_n 0, 1) := by decide +kernel
theorem dX12_returnOf_15 : decode cX12_returnOf 15 = .ok (.aload_n 0, 1) := by decide +kernel
theorem dX12_returnOf_16 : decode cX12_returnOf 16 = .ok (.getfield 29, 3) := by decide +kernel
theorem dX12_returnOf_19 : decode cX12_returnOf 19 = .ok (.iload_n 2, 1) := by decide +kernel
theorem dX12_returnOf_20 : decode cX12_returnOf 20 = .ok (.iaload, 1) := by decide +kernel
theorem dX12_returnOf_21 : decode cX12_returnOf 21 = .ok (.invokevirtual 196, 3) := by decide +kernel
theorem dX12_returnOf_24 : decode cX12_returnOf 24 = .ok (.imul, 1) := by decide +kernel
theorem dX12_returnOf_25 : decode cX12_returnOf 25 = .ok (.iadd, 1) := by decide +kernel
theorem dX12_returnOf_26 : decode cX12_returnOf 26 = .ok (.istore_n 1, 1) := by decide +kernel
theorem dX12_returnOf_27 : decode cX12_returnOf 27 = .ok (.iinc 2 1, 3) := by decide +kernel
theorem dX12_returnOf_30 : decode cX12_returnOf 30 = .ok (.goto (-26), 3) := by decide +kernel
theorem dX12_returnOf_33 : decode cX12_returnOf 33 = .ok (.iload_n 1, 1) := by decide +kernel
theorem dX12_returnOf_34 : decode cX12_returnOf 34 = .ok (.ireturn, 1) := by decide +kernel
theorem dX12_gapOf_0 : decode cX12_gapOf 0 = .ok (.aload_n 0, 1) := by decide +kernel
theorem dX12_gapOf_1 : decode cX12_gapOf 1 = .ok (.getfield 190, 3) := by decide +kernel
theorem dX12_gapOf_4 : decode cX12_gapOf 4 = .ok (.iconst 1, 1) := by decide +kernel
theorem dX12_gapOf_5 : decode cX12_gapOf 5 = .ok (.if_icmp .ne 8, 3) := by decide +kernel
theorem dX12_gapOf_8 : decode cX12_gapOf 8 = .ok (.aload_n 0, 1) := by decide +kernel
theorem dX12_gapOf_9 : decode cX12_gapOf 9 = .ok (.invokevirtual 214, 3) := by decide +kernel
theorem dX12_gapOf_12 : decode cX12_gapOf 12 = .ok (.ireturn, 1) := by decide +kernel
theorem dX12_gapOf_13 : decode cX12_gapOf 13 = .ok (.iconst 2, 1) := by decide +kernel
theorem dX12_gapOf_14 : decode cX12_gapOf 14 = .ok (.aload_n 0, 1) := by decide +kernel
theorem dX12_gapOf_15 : decode cX12_gapOf 15 = .ok (.invokevirtual 205, 3) := by decide +kernel
theorem dX12_gapOf_18 : decode cX12_gapOf 18 = .ok (.imul, 1) := by decide +kernel
theorem dX12_gapOf_19 : decode cX12_gapOf 19 = .ok (.istore_n 1, 1) := by decide +kernel
theorem dX12_gapOf_20 : decode cX12_gapOf 20 = .ok (.iconst 1, 1) := by decide +kernel
theorem dX12_gapOf_21 : decode cX12_gapOf 21 = .ok (.istore_n 2, 1) := by decide +kernel
theorem dX12_gapOf_22 : decode cX12_gapOf 22 = .ok (.iload_n 2, 1) := by decide +kernel
theorem dX12_gapOf_23 : decode cX12_gapOf 23 = .ok (.aload_n 0, 1) := by decide +kernel
theorem dX12_gapOf_24 : decode cX12_gapOf 24 = .ok (.getfield 190, 3) := by decide +kernel
theorem dX12_gapOf_27 : decode cX12_gapOf 27 = .ok (.iconst 1, 1) := by decide +kernel
theorem dX12_gapOf_28 : decode cX12_gapOf 28 = .ok (.isub, 1) := by decide +kernel
theorem dX12_gapOf_29 : decode cX12_gapOf 29 = .ok (.if_icmp .ge 33, 3) := by decide +kernel
theorem dX12_gapOf_32 : decode cX12_gapOf 32 = .ok (.aload_n 0, 1) := by decide +kernel
theorem dX12_gapOf_33 : decode cX12_gapOf 33 = .ok (.aload_n 0, 1) := by decide +kernel
theorem dX12_gapOf_34 : decode cX12_gapOf 34 = .ok (.getfield 29, 3) := by decide +kernel
theorem dX12_gapOf_37 : decode cX12_gapOf 37 = .ok (.iload_n 2, 1) := by decide +kernel
theorem dX12_gapOf_38 : decode cX12_gapOf 38 = .ok (.iaload, 1) := by decide +kernel
theorem dX12_gapOf_39 : decode cX12_gapOf 39 = .ok (.invokevirtual 217, 3) := by decide +kernel
theorem dX12_gapOf_42 : decode cX12_gapOf 42 = .ok (.iload_n 1, 1) := by decide +kernel
theorem dX12_gapOf_43 : decode cX12_gapOf 43 = .ok (.iconst 2, 1) := by decide +kernel
theorem dX12_gapOf_44 : decode cX12_gapOf 44 = .ok (.aload_n 0, 1) := by decide +kernel
theorem dX12_gapOf_45 : decode cX12_gapOf 45 = .ok (.invokevirtual 205, 3) := by decide +kernel
theorem dX12_gapOf_48 : decode cX12_gapOf 48 = .ok (.aload_n 0, 1) := by decide +kernel
theorem dX12_gapOf_49 : decode cX12_gapOf 49 = .ok (.getfield 202, 3) := by decide +kernel
theorem dX12_gapOf_52 : decode cX12_gapOf 52 = .ok (.isub, 1) := by decide +kernel
theorem dX12_gapOf_53 : decode cX12_gapOf 53 = .ok (.imul, 1) := by decide +kernel
theorem dX12_gapOf_54 : decode cX12_gapOf 54 = .ok (.iadd, 1) := by decide +kernel
theorem dX12_gapOf_55 : decode cX12_gapOf 55 = .ok (.istore_n 1, 1) := by decide +kernel
theorem dX12_gapOf_56 : decode cX12_gapOf 56 = .ok (.iinc 2 1, 3) := by decide +kernel
theorem dX12_gapOf_59 : decode cX12_gapOf 59 = .ok (.goto (-37), 3) := by decide +kernel
theorem dX12_gapOf_62 : decode cX12_gapOf 62 = .ok (.iload_n 1, 1) := by decide +kernel
theorem dX12_gapOf_63 : decode cX12_gapOf 63 = .ok (.ireturn, 1) := by decide +kernel
theorem dX12_routeOf_0 : decode cX12_routeOf 0 = .ok (.aload_n 0, 1) := by decide +kernel
theorem dX12_routeOf_1 : decode cX12_routeOf 1 = .ok (.iload_n 1, 1) := by decide +kernel
theorem dX12_routeOf_2 : decode cX12_routeOf 2 = .ok (.invokevirtual 220, 3) := by decide +kernel
theorem dX12_routeOf_5 : decode cX12_routeOf 5 = .ok (.aload_n 0, 1) := by decide +kernel
theorem dX12_routeOf_6 : decode cX12_routeOf 6 = .ok (.getfield 190, 3) := by decide +kernel
theorem dX12_routeOf_9 : decode cX12_routeOf 9 = .ok (.ifCond .ne 5, 3) := by decide +kernel
theorem dX12_routeOf_12 : decode cX12_routeOf 12 = .ok (.iconst 0, 1) := by decide +kernel
theorem dX12_routeOf_13 : decode cX12_routeOf 13 = .ok (.ireturn, 1) := by decide +kernel
theorem dX12_routeOf_14 : decode cX12_routeOf 14 = .ok (.iconst 2, 1) := by decide +kernel
theorem dX12_routeOf_15 : decode cX12_routeOf 15 = .ok (.aload_n 0, 1) := by decide +kernel
theorem dX12_routeOf_16 : decode cX12_routeOf 16 = .ok (.getfield 7, 3) := by decide +kernel
theorem dX12_routeOf_19 : decode cX12_routeOf 19 = .ok (.iconst 2, 1) := by decide +kernel
theorem dX12_routeOf_20 : decode cX12_routeOf 20 = .ok (.iaload, 1) := by decide +kernel
theorem dX12_routeOf_21 : decode cX12_routeOf 21 = .ok (.imul, 1) := by decide +kernel
theorem dX12_routeOf_22 : decode cX12_routeOf 22 = .ok (.aload_n 0, 1) := by decide +kernel
theorem dX12_routeOf_23 : decode cX12_routeOf 23 = .ok (.getfield 29, 3) := by decide +kernel
theorem dX12_routeOf_26 : decode cX12_routeOf 26 = .ok (.aload_n 0, 1) := by decide +kernel
theorem dX12_routeOf_27 : decode cX12_routeOf 27 = .ok (.getfield 190, 3) := by decide +kernel
theorem dX12_routeOf_30 : decode cX12_routeOf 30 = .ok (.iconst 1, 1) := by decide +kernel
theorem dX12_routeOf_31 : decode cX12_routeOf 31 = .ok (.isub, 1) := by decide +kernel
theorem dX12_routeOf_32 : decode cX12_routeOf 32 = .ok (.iaload, 1) := by decide +kernel
theorem dX12_routeOf_33 : decode cX12_routeOf 33 = .ok (.aload_n 0, 1) := by decide +kernel
theorem dX12_routeOf_34 : decode cX12_routeOf 34 = .ok (.iload_n 1, 1) := by decide +kernel
theorem dX12_routeOf_35 : decode cX12_routeOf 35 = .ok (.invokevirtual 187, 3) := by decide +kernel
theorem dX12_routeOf_38 : decode cX12_routeOf 38 = .ok (.isub, 1) := by decide +kernel
theorem dX12_routeOf_39 : decode cX12_routeOf 39 = .ok (.imul, 1) := by decide +kernel
theorem dX12_routeOf_40 : decode cX12_routeOf 40 = .ok (.istore_n 3, 1) := by decide +kernel
theorem dX12_routeOf_41 : decode cX12_routeOf 41 = .ok (.iload_n 2, 1) := by decide +kernel
theorem dX12_routeOf_42 : decode cX12_routeOf 42 = .ok (.tableswitch 47 0 2 #[26, 33, 40], 26) := by decide +kernel
theorem dX12_routeOf_68 : decode cX12_routeOf 68 = .ok (.iload_n 3, 1) := by decide +kernel
theorem dX12_routeOf_69 : decode cX12_routeOf 69 = .ok (.aload_n 0, 1) := by decide +kernel
theorem dX12_routeOf_70 : decode cX12_routeOf 70 = .ok (.invokevirtual 214, 3) := by decide +kernel
theorem dX12_routeOf_73 : decode cX12_routeOf 73 = .ok (.iadd, 1) := by decide +kernel
theorem dX12_routeOf_74 : decode cX12_routeOf 74 = .ok (.ireturn, 1) := by decide +kernel
theorem dX12_routeOf_75 : decode cX12_routeOf 75 = .ok (.iload_n 3, 1) := by decide +kernel
theorem dX12_routeOf_76 : decode cX12_routeOf 76 = .ok (.aload_n 0, 1) := by decide +kernel
theorem dX12_routeOf_77 : decode cX12_routeOf 77 = .ok (.invokevirtual 223, 3) := by decide +kernel
theorem dX12_routeOf_80 : decode cX12_routeOf 80 = .ok (.iadd, 1) := by decide +kernel
theorem dX12_routeOf_81 : decode cX12_routeOf 81 = .ok (.ireturn, 1) := by decide +kernel
theorem dX12_routeOf_82 : decode cX12_routeOf 82 = .ok (.iload_n 3, 1) := by decide +kernel
theorem dX12_routeOf_83 : decode cX12_routeOf 83 = .ok (.aload_n 0, 1) := by decide +kernel
theorem dX12_routeOf_84 : decode cX12_routeOf 84 = .ok (.invokevirtual 226, 3) := by decide +kernel
theorem dX12_routeOf_87 : decode cX12_routeOf 87 = .ok (.iadd, 1) := by decide +kernel
theorem dX12_routeOf_88 : decode cX12_routeOf 88 = .ok (.ireturn, 1) := by decide +kernel
theorem dX12_routeOf_89 : decode cX12_routeOf 89 = .ok (.iload_n 3, 1) := by decide +kernel
theorem dX12_routeOf_90 : decode cX12_routeOf 90 = .ok (.aload_n 0, 1) := by decide +kernel
theorem dX12_routeOf_91 : decode cX12_routeOf 91 = .ok (.aload_n 0, 1) := by decide +kernel
theorem dX12_routeOf_92 : decode cX12_routeOf 92 = .ok (.invokevirtual 229, 3) := by decide +kernel
theorem dX12_routeOf_95 : decode cX12_routeOf 95 = .ok (.invokevirtual 211, 3) := by decide +kernel
theorem dX12_routeOf_98 : decode cX12_routeOf 98 = .ok (.iadd, 1) := by decide +kernel
theorem dX12_routeOf_99 : decode cX12_routeOf 99 = .ok (.ireturn, 1) := by decide +kernel
theorem dX12_routes_0 : decode cX12_routes 0 = .ok (.aload_n 0, 1) := by decide +kernel
theorem dX12_routes_1 : decode cX12_routes 1 = .ok (.iload_n 1, 1) := by decide +kernel
theorem dX12_routes_2 : decode cX12_routes 2 = .ok (.invokevirtual 232, 3) := by decide +kernel
theorem dX12_routes_5 : decode cX12_routes 5 = .ok (.iconst 0, 1) := by decide +kernel
theorem dX12_routes_6 : decode cX12_routes 6 = .ok (.istore_n 3, 1) := by decide +kernel
theorem dX12_routes_7 : decode cX12_routes 7 = .ok (.iconst 0, 1) := by decide +kernel
theorem dX12_routes_8 : decode cX12_routes 8 = .ok (.istore 4, 2) := by decide +kernel
theorem dX12_routes_10 : decode cX12_routes 10 = .ok (.iload 4, 2) := by decide +kernel
theorem dX12_routes_12 : decode cX12_routes 12 = .ok (.aload_n 0, 1) := by decide +kernel
theorem dX12_routes_13 : decode cX12_routes 13 = .ok (.invokevirtual 77, 3) := by decide +kernel
theorem dX12_routes_16 : decode cX12_routes 16 = .ok (.if_icmp .ge 19, 3) := by decide +kernel
theorem dX12_routes_19 : decode cX12_routes 19 = .ok (.iload_n 3, 1) := by decide +kernel
theorem dX12_routes_20 : decode cX12_routes 20 = .ok (.aload_n 0, 1) := by decide +kernel
theorem dX12_routes_21 : decode cX12_routes 21 = .ok (.iload 4, 2) := by decide +kernel
theorem dX12_routes_23 : decode cX12_routes 23 = .ok (.iload_n 2, 1) := by decide +kernel
theorem dX12_routes_24 : decode cX12_routes 24 = .ok (.invokevirtual 235, 3) := by decide +kernel
theorem dX12_routes_27 : decode cX12_routes 27 = .ok (.iadd, 1) := by decide +kernel
theorem dX12_routes_28 : decode cX12_routes 28 = .ok (.istore_n 3, 1) := by decide +kernel
theorem dX12_routes_29 : decode cX12_routes 29 = .ok (.iinc 4 1, 3) := by decide +kernel
theorem dX12_routes_32 : decode cX12_routes 32 = .ok (.goto (-22), 3) := by decide +kernel
theorem dX12_routes_35 : decode cX12_routes 35 = .ok (.iload_n 3, 1) := by decide +kernel
theorem dX12_routes_36 : decode cX12_routes 36 = .ok (.ireturn, 1) := by decide +kernel
theorem dX12_allRoutes_0 : decode cX12_allRoutes 0 = .ok (.iconst 0, 1) := by decide +kernel
theorem dX12_allRoutes_1 : decode cX12_allRoutes 1 = .ok (.istore_n 1, 1) := by decide +kernel
theorem dX12_allRoutes_2 : decode cX12_allRoutes 2 = .ok (.iconst 0, 1) := by decide +kernel
theorem dX12_allRoutes_3 : decode cX12_allRoutes 3 = .ok (.istore_n 2, 1) := by decide +kernel
theorem dX12_allRoutes_4 : decode cX12_allRoutes 4 = .ok (.iload_n 2, 1) := by decide +kernel
theorem dX12_allRoutes_5 : decode cX12_allRoutes 5 = .ok (.aload_n 0, 1) := by decide +kernel
theorem dX12_allRoutes_6 : decode cX12_allRoutes 6 = .ok (.getfield 7, 3) := by decide +kernel
theorem dX12_allRoutes_9 : decode cX12_allRoutes 9 = .ok (.iconst 5, 1) := by decide +kernel
theorem dX12_allRoutes_10 : decode cX12_allRoutes 10 = .ok (.iaload, 1) := by decide +kernel
theorem dX12_allRoutes_11 : decode cX12_allRoutes 11 = .ok (.if_icmp .ge 33, 3) := by decide +kernel
theorem dX12_allRoutes_14 : decode cX12_allRoutes 14 = .ok (.iload_n 1, 1) := by decide +kernel
theorem dX12_allRoutes_15 : decode cX12_allRoutes 15 = .ok (.aload_n 0, 1) := by decide +kernel
theorem dX12_allRoutes_16 : decode cX12_allRoutes 16 = .ok (.aload_n 0, 1) := by decide +kernel
theorem dX12_allRoutes_17 : decode cX12_allRoutes 17 = .ok (.getfield 7, 3) := by decide +kernel
theorem dX12_allRoutes_20 : decode cX12_allRoutes 20 = .ok (.sipush 461, 3) := by decide +kernel
theorem dX12_allRoutes_23 : decode cX12_allRoutes 23 = .ok (.iload_n 2, 1) := by decide +kernel
theorem dX12_allRoutes_24 : decode cX12_allRoutes 24 = .ok (.iadd, 1) := by decide +kernel
theorem dX12_allRoutes_25 : decode cX12_allRoutes 25 = .ok (.iaload, 1) := by decide +kernel
theorem dX12_allRoutes_26 : decode cX12_allRoutes 26 = .ok (.aload_n 0, 1) := by decide +kernel
theorem dX12_allRoutes_27 : decode cX12_allRoutes 27 = .ok (.getfield 7, 3) := by decide +kernel
theorem dX12_allRoutes_30 : decode cX12_allRoutes 30 = .ok (.bipush 6, 2) := by decide +kernel
theorem dX12_allRoutes_32 : decode cX12_allRoutes 32 = .ok (.iaload, 1) := by decide +kernel
theorem dX12_allRoutes_33 : decode cX12_allRoutes 33 = .ok (.invokevirtual 238, 3) := by decide +kernel
theorem dX12_allRoutes_36 : decode cX12_allRoutes 36 = .ok (.iadd, 1) := by decide +kernel
theorem dX12_allRoutes_37 : decode cX12_allRoutes 37 = .ok (.istore_n 1, 1) := by decide +kernel
theorem dX12_allRoutes_38 : decode cX12_allRoutes 38 = .ok (.iinc 2 1, 3) := by decide +kernel
theorem dX12_allRoutes_41 : decode cX12_allRoutes 41 = .ok (.goto (-37), 3) := by decide +kernel
theorem dX12_allRoutes_44 : decode cX12_allRoutes 44 = .ok (.iload_n 1, 1) := by decide +kernel
theorem dX12_allRoutes_45 : decode cX12_allRoutes 45 = .ok (.ireturn, 1) := by decide +kernel
theorem dX12_gainOf_0 : decode cX12_gainOf 0 = .ok (.aload_n 0, 1) := by decide +kernel
theorem dX12_gainOf_1 : decode cX12_gainOf 1 = .ok (.getfield 7, 3) := by decide +kernel
theorem dX12_gainOf_4 : decode cX12_gainOf 4 = .ok (.sipush 461, 3) := by decide +kernel
theorem dX12_gainOf_7 : decode cX12_gainOf 7 = .ok (.iload_n 2, 1) := by decide +kernel
theorem dX12_gainOf_8 : decode cX12_gainOf 8 = .ok (.iadd, 1) := by decide +kernel
theorem dX12_gainOf_9 : decode cX12_gainOf 9 = .ok (.iaload, 1) := by decide +kernel
theorem dX12_gainOf_10 : decode cX12_gainOf 10 = .ok (.istore 4, 2) := by decide +kernel
theorem dX12_gainOf_12 : decode cX12_gainOf 12 = .ok (.aload_n 0, 1) := by decide +kernel
theorem dX12_gainOf_13 : decode cX12_gainOf 13 = .ok (.getfield 7, 3) := by decide +kernel
theorem dX12_gainOf_16 : decode cX12_gainOf 16 = .ok (.sipush 461, 3) := by decide +kernel
theorem dX12_gainOf_19 : decode cX12_gainOf 19 = .ok (.iload_n 3, 1) := by decide +kernel
theorem dX12_gainOf_20 : decode cX12_gainOf 20 = .ok (.iadd, 1) := by decide +kernel
theorem dX12_gainOf_21 : decode cX12_gainOf 21 = .ok (.iaload, 1) := by decide +kernel
theorem dX12_gainOf_22 : decode cX12_gainOf 22 = .ok (.istore 5, 2) := by decide +kernel
theorem dX12_gainOf_24 : decode cX12_gainOf 24 = .ok (.aload_n 0, 1) := by decide +kernel
theorem dX12_gainOf_25 : decode cX12_gainOf 25 = .ok (.getfield 7, 3) := by decide +kernel
theorem dX12_gainOf_28 : decode cX12_gainOf 28 = .ok (.bipush 6, 2) := by decide +kernel
theorem dX12_gainOf_30 : decode cX12_gainOf 30 = .ok (.iaload, 1) := by decide +kernel
theorem dX12_gainOf_31 : decode cX12_gainOf 31 = .ok (.istore 6, 2) := by decide +kernel
theorem dX12_gainOf_33 : decode cX12_gainOf 33 = .ok (.aload_n 0, 1) := by decide +kernel
theorem dX12_gainOf_34 : decode cX12_gainOf 34 = .ok (.iload 4, 2) := by decide +kernel
theorem dX12_gainOf_36 : decode cX12_gainOf 36 = .ok (.iload 6, 2) := by decide +kernel
theorem dX12_gainOf_38 : decode cX12_gainOf 38 = .ok (.invokevirtual 238, 3) := by decide +kernel
theorem dX12_gainOf_41 : decode cX12_gainOf 41 = .ok (.aload_n 0, 1) := by decide +kernel
theorem dX12_gainOf_42 : decode cX12_gainOf 42 = .ok (.iload 5, 2) := by decide +kernel
theorem dX12_gainOf_44 : decode cX12_gainOf 44 = .ok (.iload 6, 2) := by decide +kernel
theorem dX12_gainOf_46 : decode cX12_gainOf 46 = .ok (.invokevirtual 238, 3) := by decide +kernel
theorem dX12_gainOf_49 : decode cX12_gainOf 49 = .ok (.iadd, 1) := by decide +kernel
theorem dX12_gainOf_50 : decode cX12_gainOf 50 = .ok (.aload_n 0, 1) := by decide +kernel
theorem dX12_gainOf_51 : decode cX12_gainOf 51 = .ok (.iload 4, 2) := by decide +kernel
theorem dX12_gainOf_53 : decode cX12_gainOf 53 = .ok (.iconst 1, 1) := by decide +kernel
theorem dX12_gainOf_54 : decode cX12_gainOf 54 = .ok (.iload_n 1, 1) := by decide +kernel
theorem dX12_gainOf_55 : decode cX12_gainOf 55 = .ok (.ishl, 1) := by decide +kernel
theorem dX12_gainOf_56 : decode cX12_gainOf 56 = .ok (.iconst (-1), 1) := by decide +kernel
theorem dX12_gainOf_57 : decode cX12_gainOf 57 = .ok (.ixor, 1) := by decide +kernel
theorem dX12_gainOf_58 : decode cX12_gainOf 58 = .ok (.iand, 1) := by decide +kernel
theorem dX12_gainOf_59 : decode cX12_gainOf 59 = .ok (.iload 6, 2) := by decide +kernel
theorem dX12_gainOf_61 : decode cX12_gainOf 61 = .ok (.invokevirtual 238, 3) := by decide +kernel
theorem dX12_gainOf_64 : decode cX12_gainOf 64 = .ok (.isub, 1) := by decide +kernel
theorem dX12_gainOf_65 : decode cX12_gainOf 65 = .ok (.aload_n 0, 1) := by decide +kernel
theorem dX12_gainOf_66 : decode cX12_gainOf 66 = .ok (.iload 5, 2) := by decide +kernel
theorem dX12_gainOf_68 : decode cX12_gainOf 68 = .ok (.iconst 1, 1) := by decide +kernel
theorem dX12_gainOf_69 : decode cX12_gainOf 69 = .ok (.iload_n 1, 1) := by decide +kernel
theorem dX12_gainOf_70 : decode cX12_gainOf 70 = .ok (.ishl, 1) := by decide +kernel
theorem dX12_gainOf_71 : decode cX12_gainOf 71 = .ok (.ior, 1) := by decide +kernel
theorem dX12_gainOf_72 : decode cX12_gainOf 72 = .ok (.iload 6, 2) := by decide +kernel
theorem dX12_gainOf_74 : decode cX12_gainOf 74 = .ok (.invokevirtual 238, 3) := by decide +kernel
theorem dX12_gainOf_77 : decode cX12_gainOf 77 = .ok (.isub, 1) := by decide +kernel
theorem dX12_gainOf_78 : decode cX12_gainOf 78 = .ok (.ireturn, 1) := by decide +kernel
theorem dX12_takes_0 : decode cX12_takes 0 = .ok (.aload_n 0, 1) := by decide +kernel
theorem dX12_takes_1 : decode cX12_takes 1 = .ok (.getfield 7, 3) := by decide +kernel
theorem dX12_takes_4 : decode cX12_takes 4 = .ok (.sipush 461, 3) := by decide +kernel
theorem dX12_takes_7 : decode cX12_takes 7 = .ok (.iload_n 1, 1) := by decide +kernel
theorem dX12_takes_8 : decode cX12_takes 8 = .ok (.iadd, 1) := by decide +kernel
theorem dX12_takes_9 : decode cX12_takes 9 = .ok (.iaload, 1) := by decide +kernel
theorem dX12_takes_10 : decode cX12_takes 10 = .ok (.istore 5, 2) := by decide +kernel
theorem dX12_takes_12 : decode cX12_takes 12 = .ok (.iload 5, 2) := by decide +kernel
theorem dX12_takes_14 : decode cX12_takes 14 = .ok (.invokestatic 156, 3) := by decide +kernel
theorem dX12_takes_17 : decode cX12_takes 17 = .ok (.iload_n 3, 1) := by decide +kernel
theorem dX12_takes_18 : decode cX12_takes 18 = .ok (.if_icmp .ge 24, 3) := by decide +kernel
theorem dX12_takes_21 : decode cX12_takes 21 = .ok (.aload_n 0, 1) := by decide +kernel
theorem dX12_takes_22 : decode cX12_takes 22 = .ok (.iload 5, 2) := by decide +kernel
theorem dX12_takes_24 : decode cX12_takes 24 = .ok (.invokevirtual 162, 3) := by decide +kernel
theorem dX12_takes_27 : decode cX12_takes 27 = .ok (.aload_n 0, 1) := by decide +kernel
theorem dX12_takes_28 : decode cX12_takes 28 = .ok (.iload_n 2, 1) := by decide +kernel
theorem dX12_takes_29 : decode cX12_takes 29 = .ok (.invokevirtual 130, 3) := by decide +kernel
theorem dX12_takes_32 : decode cX12_takes 32 = .ok (.iadd, 1) := by decide +kernel
theorem dX12_takes_33 : decode cX12_takes 33 = .ok (.iload 4, 2) := by decide +kernel
theorem dX12_takes_35 : decode cX12_takes 35 = .ok (.if_icmp .gt 7, 3) := by decide +kernel
theorem dX12_takes_38 : decode cX12_takes 38 = .ok (.iconst 1, 1) := by decide +kernel
theorem dX12_takes_39 : decode cX12_takes 39 = .ok (.goto 4, 3) := by decide +kernel
theorem dX12_takes_42 : decode cX12_takes 42 = .ok (.iconst 0, 1) := by decide +kernel
theorem dX12_takes_43 : decode cX12_takes 43 = .ok (.ireturn, 1) := by decide +kernel
theorem dX12_seeksMove_0 : decode cX12_seeksMove 0 = .ok (.iconst 0, 1) := by decide +kernel
theorem dX12_seeksMove_1 : decode cX12_seeksMove 1 = .ok (.istore_n 3, 1) := by decide +kernel
theorem dX12_seeksMove_2 : decode cX12_seeksMove 2 = .ok (.iconst 0, 1) := by decide +kernel
theorem dX12_seeksMove_3 : decode cX12_seeksMove 3 = .ok (.istore 4, 2) := by decide +kernel
theorem dX12_seeksMove_5 : decode cX12_seeksMove 5 = .ok (.iload 4, 2) := by decide +kernel
theorem dX12_seeksMove_7 : decode cX12_seeksMove 7 = .ok (.aload_n 0, 1) := by decide +kernel
theorem dX12_seeksMove_8 : decode cX12_seeksMove 8 = .ok (.getfield 7, 3) := by decide +kernel
theorem dX12_seeksMove_11 : decode cX12_seeksMove 11 = .ok (.iconst 4, 1) := by decide +kernel
theorem dX12_seeksMove_12 : decode cX12_seeksMove 12 = .ok (.iaload, 1) := by decide +kernel
theorem dX12_seeksMove_13 : decode cX12_seeksMove 13 = .ok (.if_icmp .ge 100, 3) := by decide +kernel
theorem dX12_seeksMove_16 : decode cX12_seeksMove 16 = .ok (.aload_n 0, 1) := by decide +kernel
theorem dX12_seeksMove_17 : decode cX12_seeksMove 17 = .ok (.iload 4, 2) := by decide +kernel
theorem dX12_seeksMove_19 : decode cX12_seeksMove 19 = .ok (.invokevirtual 139, 3) := by decide +kernel
theorem dX12_seeksMove_22 : decode cX12_seeksMove 22 = .ok (.istore 5, 2) := by decide +kernel
theorem dX12_seeksMove_24 : decode cX12_seeksMove 24 = .ok (.iconst 0, 1) := by decide +kernel
theorem dX12_seeksMove_25 : decode cX12_seeksMove 25 = .ok (.istore 6, 2) := by decide +kernel
theorem dX12_seeksMove_27 : decode cX12_seeksMove 27 = .ok (.iload 6, 2) := by decide +kernel
theorem dX12_seeksMove_29 : decode cX12_seeksMove 29 = .ok (.aload_n 0, 1) := by decide +kernel
theorem dX12_seeksMove_30 : decode cX12_seeksMove 30 = .ok (.getfield 7, 3) := by decide +kernel
theorem dX12_seeksMove_33 : decode cX12_seeksMove 33 = .ok (.iconst 5, 1) := by decide +kernel
theorem dX12_seeksMove_34 : decode cX12_seeksMove 34 = .ok (.iaload, 1) := by decide +kernel
theorem dX12_seeksMove_35 : decode cX12_seeksMove 35 = .ok (.if_icmp .ge 72, 3) := by decide +kernel
theorem dX12_seeksMove_38 : decode cX12_seeksMove 38 = .ok (.iload 5, 2) := by decide +kernel
theorem dX12_seeksMove_40 : decode cX12_seeksMove 40 = .ok (.iconst (-1), 1) := by decide +kernel
theorem dX12_seeksMove_41 : decode cX12_seeksMove 41 = .ok (.if_icmp .eq 66, 3) := by decide +kernel
theorem dX12_seeksMove_44 : decode cX12_seeksMove 44 = .ok (.iload 6, 2) := by decide +kernel
theorem dX12_seeksMove_46 : decode cX12_seeksMove 46 = .ok (.iload 5, 2) := by decide +kernel
theorem dX12_seeksMove_48 : decode cX12_seeksMove 48 = .ok (.if_icmp .eq 29, 3) := by decide +kernel
theorem dX12_seeksMove_51 : decode cX12_seeksMove 51 = .ok (.aload_n 0, 1) := by decide +kernel
theorem dX12_seeksMove_52 : decode cX12_seeksMove 52 = .ok (.iload 6, 2) := by decide +kernel
theorem dX12_seeksMove_54 : decode cX12_seeksMove 54 = .ok (.iload 4, 2) := by decide +kernel
theorem dX12_seeksMove_56 : decode cX12_seeksMove 56 = .ok (.iload_n 1, 1) := by decide +kernel
theorem dX12_seeksMove_57 : decode cX12_seeksMove 57 = .ok (.iload_n 2, 1) := by decide +kernel
theorem dX12_seeksMove_58 : decode cX12_seeksMove 58 = .ok (.invokevirtual 241, 3) := by decide +kernel
theorem dX12_seeksMove_61 : decode cX12_seeksMove 61 = .ok (.ifCond .eq 16, 3) := by decide +kernel
theorem dX12_seeksMove_64 : decode cX12_seeksMove 64 = .ok (.aload_n 0, 1) := by decide +kernel
theorem dX12_seeksMove_65 : decode cX12_seeksMove 65 = .ok (.iload 4, 2) := by decide +kernel
theorem dX12_seeksMove_67 : decode cX12_seeksMove 67 = .ok (.iload 5, 2) := by decide +kernel
theorem dX12_seeksMove_69 : decode cX12_seeksMove 69 = .ok (.iload 6, 2) := by decide +kernel
theorem dX12_seeksMove_71 : decode cX12_seeksMove 71 = .ok (.invokevirtual 245, 3) := by decide +kernel
theorem dX12_seeksMove_74 : decode cX12_seeksMove 74 = .ok (.goto 4, 3) := by decide +kernel
theorem dX12_seeksMove_77 : decode cX12_seeksMove 77 = .ok (.iconst 0, 1) := by decide +kernel
theorem dX12_seeksMove_78 : decode cX12_seeksMove 78 = .ok (.istore 7, 2) := by decide +kernel
theorem dX12_seeksMove_80 : decode cX12_seeksMove 80 = .ok (.iload 7, 2) := by decide +kernel
theorem dX12_seeksMove_82 : decode cX12_seeksMove 82 = .ok (.iload_n 3, 1) := by decide +kernel
theorem dX12_seeksMove_83 : decode cX12_seeksMove 83 = .ok (.if_icmp .le 18, 3) := by decide +kernel
theorem dX12_seeksMove_86 : decode cX12_seeksMove 86 = .ok (.iload 7, 2) := by decide +kernel
theorem dX12_seeksMove_88 : decode cX12_seeksMove 88 = .ok (.istore_n 3, 1) := by decide +kernel
theorem dX12_seeksMove_89 : decode cX12_seeksMove 89 = .ok (.aload_n 0, 1) := by decide +kernel
theorem dX12_seeksMove_90 : decode cX12_seeksMove 90 = .ok (.iload 4, 2) := by decide +kernel
theorem dX12_seeksMove_92 : decode cX12_seeksMove 92 = .ok (.putfield 248, 3) := by decide +kernel
theorem dX12_seeksMove_95 : decode cX12_seeksMove 95 = .ok (.aload_n 0, 1) := by decide +kernel
theorem dX12_seeksMove_96 : decode cX12_seeksMove 96 = .ok (.iload 6, 2) := by decide +kernel
theorem dX12_seeksMove_98 : decode cX12_seeksMove 98 = .ok (.putfield 251, 3) := by decide +kernel
theorem dX12_seeksMove_101 : decode cX12_seeksMove 101 = .ok (.iinc 6 1, 3) := by decide +kernel
theorem dX12_seeksMove_104 : decode cX12_seeksMove 104 = .ok (.goto (-77), 3) := by decide +kernel
theorem dX12_seeksMove_107 : decode cX12_seeksMove 107 = .ok (.iinc 4 1, 3) := by decide +kernel
theorem dX12_seeksMove_110 : decode cX12_seeksMove 110 = .ok (.goto (-105), 3) := by decide +kernel
theorem dX12_seeksMove_113 : decode cX12_seeksMove 113 = .ok (.iload_n 3, 1) := by decide +kernel
theorem dX12_seeksMove_114 : decode cX12_seeksMove 114 = .ok (.ifCond .le 7, 3) := by decide +kernel
theorem dX12_seeksMove_117 : decode cX12_seeksMove 117 = .ok (.iconst 1, 1) := by decide +kernel
theorem dX12_seeksMove_118 : decode cX12_seeksMove 118 = .ok (.goto 4, 3) := by decide +kernel
theorem dX12_seeksMove_121 : decode cX12_seeksMove 121 = .ok (.iconst 0, 1) := by decide +kernel
theorem dX12_seeksMove_122 : decode cX12_seeksMove 122 = .ok (.ireturn, 1) := by decide +kernel
theorem dX12_improve_0 : decode cX12_improve 0 = .ok (.aload_n 0, 1) := by decide +kernel
theorem dX12_improve_1 : decode cX12_improve 1 = .ok (.iload_n 1, 1) := by decide +kernel
theorem dX12_improve_2 : decode cX12_improve 2 = .ok (.iconst 1, 1) := by decide +kernel
theorem dX12_improve_3 : decode cX12_improve 3 = .ok (.bipush 6, 2) := by decide +kernel
theorem dX12_improve_5 : decode cX12_improve 5 = .ok (.invokestatic 73, 3) := by decide +kernel
theorem dX12_improve_8 : decode cX12_improve 8 = .ok (.ifCond .eq 17, 3) := by decide +kernel
theorem dX12_improve_11 : decode cX12_improve 11 = .ok (.iload_n 2, 1) := by decide +kernel
theorem dX12_improve_12 : decode cX12_improve 12 = .ok (.iconst 1, 1) := by decide +kernel
theorem dX12_improve_13 : decode cX12_improve 13 = .ok (.ldc 168, 2) := by decide +kernel
theorem dX12_improve_15 : decode cX12_improve 15 = .ok (.invokestatic 73, 3) := by decide +kernel
theorem dX12_improve_18 : decode cX12_improve 18 = .ok (.ifCond .eq 7, 3) := by decide +kernel
theorem dX12_improve_21 : decode cX12_improve 21 = .ok (.iconst 0, 1) := by decide +kernel
theorem dX12_improve_22 : decode cX12_improve 22 = .ok (.goto 4, 3) := by decide +kernel
theorem dX12_improve_25 : decode cX12_improve 25 = .ok (.iconst 1, 1) := by decide +kernel
theorem dX12_improve_26 : decode cX12_improve 26 = .ok (.putfield 70, 3) := by decide +kernel
theorem dX12_improve_29 : decode cX12_improve 29 = .ok (.aload_n 0, 1) := by decide +kernel
theorem dX12_improve_30 : decode cX12_improve 30 = .ok (.getfield 70, 3) := by decide +kernel
theorem dX12_improve_33 : decode cX12_improve 33 = .ok (.ifCond .le 5, 3) := by decide +kernel
theorem dX12_improve_36 : decode cX12_improve 36 = .ok (.iconst 0, 1) := by decide +kernel
theorem dX12_improve_37 : decode cX12_improve 37 = .ok (.ireturn, 1) := by decide +kernel
theorem dX12_improve_38 : decode cX12_improve 38 = .ok (.iconst 0, 1) := by decide +kernel
theorem dX12_improve_39 : decode cX12_improve 39 = .ok (.istore_n 3, 1) := by decide +kernel
theorem dX12_improve_40 : decode cX12_improve 40 = .ok (.aload_n 0, 1) := by decide +kernel
theorem dX12_improve_41 : decode cX12_improve 41 = .ok (.iload_n 1, 1) := by decide +kernel
theorem dX12_improve_42 : decode cX12_improve 42 = .ok (.iload_n 2, 1) := by decide +kernel
theorem dX12_improve_43 : decode cX12_improve 43 = .ok (.invokevirtual 254, 3) := by decide +kernel
theorem dX12_improve_46 : decode cX12_improve 46 = .ok (.ifCond .eq 83, 3) := by decide +kernel
theorem dX12_improve_49 : decode cX12_improve 49 = .ok (.aload_n 0, 1) := by decide +kernel
theorem dX12_improve_50 : decode cX12_improve 50 = .ok (.aload_n 0, 1) := by decide +kernel
theorem dX12_improve_51 : decode cX12_improve 51 = .ok (.getfield 248, 3) := by decide +kernel
theorem dX12_improve_54 : decode cX12_improve 54 = .ok (.invokevirtual 139, 3) := by decide +kernel
theorem dX12_improve_57 : decode cX12_improve 57 = .ok (.istore 4, 2) := by decide +kernel
theorem dX12_improve_59 : decode cX12_improve 59 = .ok (.aload_n 0, 1) := by decide +kernel
theorem dX12_improve_60 : decode cX12_improve 60 = .ok (.getfield 7, 3) := by decide +kernel
theorem dX12_improve_63 : decode cX12_improve 63 = .ok (.sipush 461, 3) := by decide +kernel
theorem dX12_improve_66 : decode cX12_improve 66 = .ok (.aload_n 0, 1) := by decide +kernel
theorem dX12_improve_67 : decode cX12_improve 67 = .ok (.getfield 251, 3) := by decide +kernel
theorem dX12_improve_70 : decode cX12_improve 70 = .ok (.iadd, 1) := by decide +kernel
theorem dX12_improve_71 : decode cX12_improve 71 = .ok (.dup2, 1) := by decide +kernel
theorem dX12_improve_72 : decode cX12_improve 72 = .ok (.iaload, 1) := by decide +kernel
theorem dX12_improve_73 : decode cX12_improve 73 = .ok (.iconst 1, 1) := by decide +kernel
theorem dX12_improve_74 : decode cX12_improve 74 = .ok (.aload_n 0, 1) := by decide +kernel
theorem dX12_improve_75 : decode cX12_improve 75 = .ok (.getfield 248, 3) := by decide +kernel
theorem dX12_improve_78 : decode cX12_improve 78 = .ok (.ishl, 1) := by decide +kernel
theorem dX12_improve_79 : decode cX12_improve 79 = .ok (.ior, 1) := by decide +kernel
theorem dX12_improve_80 : decode cX12_improve 80 = .ok (.iastore, 1) := by decide +kernel
theorem dX12_improve_81 : decode cX12_improve 81 = .ok (.aload_n 0, 1) := by decide +kernel
theorem dX12_improve_82 : decode cX12_improve 82 = .ok (.getfield 7, 3) := by decide +kernel
theorem dX12_improve_85 : decode cX12_improve 85 = .ok (.sipush 461, 3) := by decide +kernel
theorem dX12_improve_88 : decode cX12_improve 88 = .ok (.iload 4, 2) := by decide +kernel
theorem dX12_improve_90 : decode cX12_improve 90 = .ok (.iadd, 1) := by decide +kernel
theorem dX12_improve_91 : decode cX12_improve 91 = .ok (.dup2, 1) := by decide +kernel
theorem dX12_improve_92 : decode cX12_improve 92 = .ok (.iaload, 1) := by decide +kernel
theorem dX12_improve_93 : decode cX12_improve 93 = .ok (.iconst 1, 1) := by decide +kernel
theorem dX12_improve_94 : decode cX12_improve 94 = .ok (.aload_n 0, 1) := by decide +kernel
theorem dX12_improve_95 : decode cX12_improve 95 = .ok (.getfield 248, 3) := by decide +kernel
theorem dX12_improve_98 : decode cX12_improve 98 = .ok (.ishl, 1) := by decide +kernel
theorem dX12_improve_99 : decode cX12_improve 99 = .ok (.iconst (-1), 1) := by decide +kernel
theorem dX12_improve_100 : decode cX12_improve 100 = .ok (.ixor, 1) := by decide +kernel
theorem dX12_improve_101 : decode cX12_improve 101 = .ok (.iand, 1) := by decide +kernel
theorem dX12_improve_102 : decode cX12_improve 102 = .ok (.iastore, 1) := by decide +kernel
theorem dX12_improve_103 : decode cX12_improve 103 = .ok (.aload_n 0, 1) := by decide +kernel
theorem dX12_improve_104 : decode cX12_improve 104 = .ok (.getfield 7, 3) := by decide +kernel
theorem dX12_improve_107 : decode cX12_improve 107 = .ok (.sipush 461, 3) := by decide +kernel
theorem dX12_improve_110 : decode cX12_improve 110 = .ok (.iload 4, 2) := by decide +kernel
theorem dX12_improve_112 : decode cX12_improve 112 = .ok (.iadd, 1) := by decide +kernel
theorem dX12_improve_113 : decode cX12_improve 113 = .ok (.iaload, 1) := by decide +kernel
theorem dX12_improve_114 : decode cX12_improve 114 = .ok (.ifCond .ne 9, 3) := by decide +kernel
theorem dX12_improve_117 : decode cX12_improve 117 = .ok (.aload_n 0, 1) := by decide +kernel
theorem dX12_improve_118 : decode cX12_improve 118 = .ok (.iload 4, 2) := by decide +kernel
theorem dX12_improve_120 : decode cX12_improve 120 = .ok (.invokevirtual 142, 3) := by decide +kernel
theorem dX12_improve_123 : decode cX12_improve 123 = .ok (.iinc 3 1, 3) := by decide +kernel
theorem dX12_improve_126 : decode cX12_improve 126 = .ok (.goto (-86), 3) := by decide +kernel
theorem dX12_improve_129 : decode cX12_improve 129 = .ok (.iload_n 3, 1) := by decide +kernel
theorem dX12_improve_130 : decode cX12_improve 130 = .ok (.ireturn, 1) := by decide +kernel
theorem dX12_setPolicy_0 : decode cX12_setPolicy 0 = .ok (.aload_n 0, 1) := by decide +kernel
theorem dX12_setPolicy_1 : decode cX12_setPolicy 1 = .ok (.iload_n 1, 1) := by decide +kernel
theorem dX12_setPolicy_2 : decode cX12_setPolicy 2 = .ok (.iconst 0, 1) := by decide +kernel
theorem dX12_setPolicy_3 : decode cX12_setPolicy 3 = .ok (.iconst 3, 1) := by decide +kernel
theorem dX12_setPolicy_4 : decode cX12_setPolicy 4 = .ok (.invokestatic 73, 3) := by decide +kernel
theorem dX12_setPolicy_7 : decode cX12_setPolicy 7 = .ok (.ifCond .eq 7, 3) := by decide +kernel
theorem dX12_setPolicy_10 : decode cX12_setPolicy 10 = .ok (.iconst 0, 1) := by decide +kernel
theorem dX12_setPolicy_11 : decode cX12_setPolicy 11 = .ok (.goto 4, 3) := by decide +kernel
theorem dX12_setPolicy_14 : decode cX12_setPolicy 14 = .ok (.iconst 1, 1) := by decide +kernel
theorem dX12_setPolicy_15 : decode cX12_setPolicy 15 = .ok (.putfield 70, 3) := by decide +kernel
theorem dX12_setPolicy_18 : decode cX12_setPolicy 18 = .ok (.aload_n 0, 1) := by decide +kernel
theorem dX12_setPolicy_19 : decode cX12_setPolicy 19 = .ok (.getfield 70, 3) := by decide +kernel
theorem dX12_setPolicy_22 : decode cX12_setPolicy 22 = .ok (.ifCond .le 5, 3) := by decide +kernel
theorem dX12_setPolicy_25 : decode cX12_setPolicy 25 = .ok (.iconst 0, 1) := by decide +kernel
theorem dX12_setPolicy_26 : decode cX12_setPolicy 26 = .ok (.ireturn, 1) := by decide +kernel
theorem dX12_setPolicy_27 : decode cX12_setPolicy 27 = .ok (.aload_n 0, 1) := by decide +kernel
theorem dX12_setPolicy_28 : decode cX12_setPolicy 28 = .ok (.getfield 7, 3) := by decide +kernel
theorem dX12_setPolicy_31 : decode cX12_setPolicy 31 = .ok (.bipush 6, 2) := by decide +kernel
theorem dX12_setPolicy_33 : decode cX12_setPolicy 33 = .ok (.iaload, 1) := by decide +kernel
theorem dX12_setPolicy_34 : decode cX12_setPolicy 34 = .ok (.istore_n 2, 1) := by decide +kernel
theorem dX12_setPolicy_35 : decode cX12_setPolicy 35 = .ok (.aload_n 0, 1) := by decide +kernel
theorem dX12_setPolicy_36 : decode cX12_setPolicy 36 = .ok (.getfield 7, 3) := by decide +kernel
theorem dX12_setPolicy_39 : decode cX12_setPolicy 39 = .ok (.bipush 6, 2) := by decide +kernel
theorem dX12_setPolicy_41 : decode cX12_setPolicy 41 = .ok (.iload_n 1, 1) := by decide +kernel
theorem dX12_setPolicy_42 : decode cX12_setPolicy 42 = .ok (.iastore, 1) := by decide +kernel
theorem dX12_setPolicy_43 : decode cX12_setPolicy 43 = .ok (.iload_n 2, 1) := by decide +kernel
theorem dX12_setPolicy_44 : decode cX12_setPolicy 44 = .ok (.ireturn, 1) := by decide +kernel
theorem dX12_setZones_0 : decode cX12_setZones 0 = .ok (.iload_n 1, 1) := by decide +kernel
theorem dX12_setZones_1 : decode cX12_setZones 1 = .ok (.iconst (-1), 1) := by decide +kernel
theorem dX12_setZones_2 : decode cX12_setZones 2 = .ok (.if_icmp .ne 16, 3) := by decide +kernel
theorem dX12_setZones_5 : decode cX12_setZones 5 = .ok (.iload_n 2, 1) := by decide +kernel
theorem dX12_setZones_6 : decode cX12_setZones 6 = .ok (.iconst (-1), 1) := by decide +kernel
theorem dX12_setZones_7 : decode cX12_setZones 7 = .ok (.if_icmp .ne 7, 3) := by decide +kernel
theorem dX12_setZones_10 : decode cX12_setZones 10 = .ok (.iconst 1, 1) := by decide +kernel
theorem dX12_setZones_11 : decode cX12_setZones 11 = .ok (.goto 51, 3) := by decide +kernel
theorem dX12_setZones_14 : decode cX12_setZones 14 = .ok (.iconst 0, 1) := by decide +kernel
theorem dX12_setZones_15 : decode cX12_setZones 15 = .ok (.goto 47, 3) := by decide +kernel
theorem dX12_setZones_18 : decode cX12_setZones 18 = .ok (.iload_n 1, 1) := by decide +kernel
theorem dX12_setZones_19 : decode cX12_setZones 19 = .ok (.iconst 1, 1) := by decide +kernel
theorem dX12_setZones_20 : decode cX12_setZones 20 = .ok (.aload_n 0, 1) := by decide +kernel
theorem dX12_setZones_21 : decode cX12_setZones 21 = .ok (.getfield 7, 3) := by decide +kernel
theorem dX12_setZones_24 : decode cX12_setZones 24 = .ok (.iconst 0, 1) := by decide +kernel
theorem dX12_setZones_25 : decode cX12_setZones 25 = .ok (.iaload, 1) := by decide +kernel
theorem dX12_setZones_26 : decode cX12_setZones 26 = .ok (.iconst 1, 1) := by decide +kernel
theorem dX12_setZones_27 : decode cX12_setZones 27 = .ok (.isub, 1) := by decide +kernel
theorem dX12_setZones_28 : decode cX12_setZones 28 = .ok (.invokestatic 73, 3) := by decide +kernel
theorem dX12_setZones_31 : decode cX12_setZones 31 = .ok (.ifCond .eq 30, 3) := by decide +kernel
theorem dX12_setZones_34 : decode cX12_setZones 34 = .ok (.iload_n 2, 1) := by decide +kernel
theorem dX12_setZones_35 : decode cX12_setZones 35 = .ok (.iconst (-1), 1) := by decide +kernel
theorem dX12_setZones_36 : decode cX12_setZones 36 = .ok (.if_icmp .eq 21, 3) := by decide +kernel
theorem dX12_setZones_39 : decode cX12_setZones 39 = .ok (.iload_n 2, 1) := by decide +kernel
theorem dX12_setZones_40 : decode cX12_setZones 40 = .ok (.iload_n 1, 1) := by decide +kernel
theorem dX12_setZones_41 : decode cX12_setZones 41 = .ok (.iconst 1, 1) := by decide +kernel
theorem dX12_setZones_42 : decode cX12_setZones 42 = .ok (.iadd, 1) := by decide +kernel
theorem dX12_setZones_43 : decode cX12_setZones 43 = .ok (.aload_n 0, 1) := by decide +kernel
theorem dX12_setZones_44 : decode cX12_setZones 44 = .ok (.getfield 7, 3) := by decide +kernel
theorem dX12_setZones_47 : decode cX12_setZones 47 = .ok (.iconst 0, 1) := by decide +kernel
theorem dX12_setZones_48 : decode cX12_setZones 48 = .ok (.iaload, 1) := by decide +kernel
theorem dX12_setZones_49 : decode cX12_setZones 49 = .ok (.iconst 1, 1) := by decide +kernel
theorem dX12_setZones_50 : decode cX12_setZones 50 = .ok (.isub, 1) := by decide +kernel
theorem dX12_setZones_51 : decode cX12_setZones 51 = .ok (.invokestatic 73, 3) := by decide +kernel
theorem dX12_setZones_54 : decode cX12_setZones 54 = .ok (.ifCond .eq 7, 3) := by decide +kernel
theorem dX12_setZones_57 : decode cX12_setZones 57 = .ok (.iconst 1, 1) := by decide +kernel
theorem dX12_setZones_58 : decode cX12_setZones 58 = .ok (.goto 4, 3) := by decide +kernel
theorem dX12_setZones_61 : decode cX12_setZones 61 = .ok (.iconst 0, 1) := by decide +kernel
theorem dX12_setZones_62 : decode cX12_setZones 62 = .ok (.istore_n 3, 1) := by decide +kernel
theorem dX12_setZones_63 : decode cX12_setZones 63 = .ok (.aload_n 0, 1) := by decide +kernel
theorem dX12_setZones_64 : decode cX12_setZones 64 = .ok (.iload_n 3, 1) := by decide +kernel
theorem dX12_setZones_65 : decode cX12_setZones 65 = .ok (.ifCond .eq 7, 3) := by decide +kernel
theorem dX12_setZones_68 : decode cX12_setZones 68 = .ok (.iconst 0, 1) := by decide +kernel
theorem dX12_setZones_69 : decode cX12_setZones 69 = .ok (.goto 4, 3) := by decide +kernel
theorem dX12_setZones_72 : decode cX12_setZones 72 = .ok (.iconst 1, 1) := by decide +kernel
theorem dX12_setZones_73 : decode cX12_setZones 73 = .ok (.putfield 70, 3) := by decide +kernel
theorem dX12_setZones_76 : decode cX12_setZones 76 = .ok (.aload_n 0, 1) := by decide +kernel
theorem dX12_setZones_77 : decode cX12_setZones 77 = .ok (.getfield 70, 3) := by decide +kernel
theorem dX12_setZones_80 : decode cX12_setZones 80 = .ok (.ifCond .le 5, 3) := by decide +kernel
theorem dX12_setZones_83 : decode cX12_setZones 83 = .ok (.iconst 0, 1) := by decide +kernel
theorem dX12_setZones_84 : decode cX12_setZones 84 = .ok (.ireturn, 1) := by decide +kernel
theorem dX12_setZones_85 : decode cX12_setZones 85 = .ok (.aload_n 0, 1) := by decide +kernel
theorem dX12_setZones_86 : decode cX12_setZones 86 = .ok (.getfield 7, 3) := by decide +kernel
theorem dX12_setZones_89 : decode cX12_setZones 89 = .ok (.bipush 7, 2) := by decide +kernel
theorem dX12_setZones_91 : decode cX12_setZones 91 = .ok (.iload_n 1, 1) := by decide +kernel
theorem dX12_setZones_92 : decode cX12_setZones 92 = .ok (.iastore, 1) := by decide +kernel
theorem dX12_setZones_93 : decode cX12_setZones 93 = .ok (.aload_n 0, 1) := by decide +kernel
theorem dX12_setZones_94 : decode cX12_setZones 94 = .ok (.getfield 7, 3) := by decide +kernel
theorem dX12_setZones_97 : decode cX12_setZones 97 = .ok (.bipush 8, 2) := by decide +kernel
theorem dX12_setZones_99 : decode cX12_setZones 99 = .ok (.iload_n 2, 1) := by decide +kernel
theorem dX12_setZones_100 : decode cX12_setZones 100 = .ok (.iastore, 1) := by decide +kernel
theorem dX12_setZones_101 : decode cX12_setZones 101 = .ok (.aload_n 0, 1) := by decide +kernel
theorem dX12_setZones_102 : decode cX12_setZones 102 = .ok (.invokevirtual 77, 3) := by decide +kernel
theorem dX12_setZones_105 : decode cX12_setZones 105 = .ok (.ireturn, 1) := by decide +kernel
theorem dX12_zoneOf_0 : decode cX12_zoneOf 0 = .ok (.aload_n 0, 1) := by decide +kernel
theorem dX12_zoneOf_1 : decode cX12_zoneOf 1 = .ok (.aload_n 0, 1) := by decide +kernel
theorem dX12_zoneOf_2 : decode cX12_zoneOf 2 = .ok (.iload_n 1, 1) := by decide +kernel
theorem dX12_zoneOf_3 : decode cX12_zoneOf 3 = .ok (.invokevirtual 85, 3) := by decide +kernel
theorem dX12_zoneOf_6 : decode cX12_zoneOf 6 = .ok (.ifCond .eq 7, 3) := by decide +kernel
theorem dX12_zoneOf_9 : decode cX12_zoneOf 9 = .ok (.iconst 0, 1) := by decide +kernel
theorem dX12_zoneOf_10 : decode cX12_zoneOf 10 = .ok (.goto 4, 3) := by decide +kernel
theorem dX12_zoneOf_13 : decode cX12_zoneOf 13 = .ok (.iconst 1, 1) := by decide +kernel
theorem dX12_zoneOf_14 : decode cX12_zoneOf 14 = .ok (.putfield 70, 3) := by decide +kernel
theorem dX12_zoneOf_17 : decode cX12_zoneOf 17 = .ok (.aload_n 0, 1) := by decide +kernel
theorem dX12_zoneOf_18 : decode cX12_zoneOf 18 = .ok (.getfield 70, 3) := by decide +kernel
theorem dX12_zoneOf_21 : decode cX12_zoneOf 21 = .ok (.ifCond .le 5, 3) := by decide +kernel
theorem dX12_zoneOf_24 : decode cX12_zoneOf 24 = .ok (.iconst 0, 1) := by decide +kernel
theorem dX12_zoneOf_25 : decode cX12_zoneOf 25 = .ok (.ireturn, 1) := by decide +kernel
theorem dX12_zoneOf_26 : decode cX12_zoneOf 26 = .ok (.iconst 0, 1) := by decide +kernel
theorem dX12_zoneOf_27 : decode cX12_zoneOf 27 = .ok (.istore_n 2, 1) := by decide +kernel
theorem dX12_zoneOf_28 : decode cX12_zoneOf 28 = .ok (.iload_n 1, 1) := by decide +kernel
theorem dX12_zoneOf_29 : decode cX12_zoneOf 29 = .ok (.aload_n 0, 1) := by decide +kernel
theorem dX12_zoneOf_30 : decode cX12_zoneOf 30 = .ok (.iload_n 2, 1) := by decide +kernel
theorem dX12_zoneOf_31 : decode cX12_zoneOf 31 = .ok (.invokevirtual 193, 3) := by decide +kernel
theorem dX12_zoneOf_34 : decode cX12_zoneOf 34 = .ok (.if_icmp .lt 9, 3) := by decide +kernel
theorem dX12_zoneOf_37 : decode cX12_zoneOf 37 = .ok (.iinc 2 1, 3) := by decide +kernel
theorem dX12_zoneOf_40 : decode cX12_zoneOf 40 = .ok (.goto (-12), 3) := by decide +kernel
theorem dX12_zoneOf_43 : decode cX12_zoneOf 43 = .ok (.iload_n 2, 1) := by decide +kernel
theorem dX12_zoneOf_44 : decode cX12_zoneOf 44 = .ok (.ireturn, 1) := by decide +kernel
theorem dX12_setBuffer_0 : decode cX12_setBuffer 0 = .ok (.aload_n 0, 1) := by decide +kernel
theorem dX12_setBuffer_1 : decode cX12_setBuffer 1 = .ok (.iload_n 1, 1) := by decide +kernel
theorem dX12_setBuffer_2 : decode cX12_setBuffer 2 = .ok (.iconst 0, 1) := by decide +kernel
theorem dX12_setBuffer_3 : decode cX12_setBuffer 3 = .ok (.iconst 1, 1) := by decide +kernel
theorem dX12_setBuffer_4 : decode cX12_setBuffer 4 = .ok (.invokestatic 73, 3) := by decide +kernel
theorem dX12_setBuffer_7 : decode cX12_setBuffer 7 = .ok (.ifCond .ne 7, 3) := by decide +kernel
theorem dX12_setBuffer_10 : decode cX12_setBuffer 10 = .ok (.iconst 1, 1) := by decide +kernel
theorem dX12_setBuffer_11 : decode cX12_setBuffer 11 = .ok (.goto 17, 3) := by decide +kernel
theorem dX12_setBuffer_14 : decode cX12_setBuffer 14 = .ok (.iload_n 2, 1) := by decide +kernel
theorem dX12_setBuffer_15 : decode cX12_setBuffer 15 = .ok (.iconst 0, 1) := by decide +kernel
theorem dX12_setBuffer_16 : decode cX12_setBuffer 16 = .ok (.iconst 4, 1) := by decide +kernel
theorem dX12_setBuffer_17 : decode cX12_setBuffer 17 = .ok (.invokestatic 73, 3) := by decide +kernel
theorem dX12_setBuffer_20 : decode cX12_setBuffer 20 = .ok (.ifCond .ne 7, 3) := by decide +kernel
theorem dX12_setBuffer_23 : decode cX12_setBuffer 23 = .ok (.iconst 2, 1) := by decide +kernel
theorem dX12_setBuffer_24 : decode cX12_setBuffer 24 = .ok (.goto 4, 3) := by decide +kernel
theorem dX12_setBuffer_27 : decode cX12_setBuffer 27 = .ok (.iconst 0, 1) := by decide +kernel
theorem dX12_setBuffer_28 : decode cX12_setBuffer 28 = .ok (.putfield 70, 3) := by decide +kernel
theorem dX12_setBuffer_31 : decode cX12_setBuffer 31 = .ok (.aload_n 0, 1) := by decide +kernel
theorem dX12_setBuffer_32 : decode cX12_setBuffer 32 = .ok (.getfield 70, 3) := by decide +kernel
theorem dX12_setBuffer_35 : decode cX12_setBuffer 35 = .ok (.ifCond .le 5, 3) := by decide +kernel
theorem dX12_setBuffer_38 : decode cX12_setBuffer 38 = .ok (.iconst 0, 1) := by decide +kernel
theorem dX12_setBuffer_39 : decode cX12_setBuffer 39 = .ok (.ireturn, 1) := by decide +kernel
theorem dX12_setBuffer_40 : decode cX12_setBuffer 40 = .ok (.aload_n 0, 1) := by decide +kernel
theorem dX12_setBuffer_41 : decode cX12_setBuffer 41 = .ok (.getfield 7, 3) := by decide +kernel
theorem dX12_setBuffer_44 : decode cX12_setBuffer 44 = .ok (.bipush 9, 2) := by decide +kernel
theorem dX12_setBuffer_46 : decode cX12_setBuffer 46 = .ok (.iload_n 1, 1) := by decide +kernel
theorem dX12_setBuffer_47 : decode cX12_setBuffer 47 = .ok (.iadd, 1) := by decide +kernel
theorem dX12_setBuffer_48 : decode cX12_setBuffer 48 = .ok (.iaload, 1) := by decide +kernel
theorem dX12_setBuffer_49 : decode cX12_setBuffer 49 = .ok (.istore_n 3, 1) := by decide +kernel
theorem dX12_setBuffer_50 : decode cX12_setBuffer 50 = .ok (.aload_n 0, 1) := by decide +kernel
theorem dX12_setBuffer_51 : decode cX12_setBuffer 51 = .ok (.getfield 7, 3) := by decide +kernel
theorem dX12_setBuffer_54 : decode cX12_setBuffer 54 = .ok (.bipush 9, 2) := by decide +kernel
theorem dX12_setBuffer_56 : decode cX12_setBuffer 56 = .ok (.iload_n 1, 1) := by decide +kernel
theorem dX12_setBuffer_57 : decode cX12_setBuffer 57 = .ok (.iadd, 1) := by decide +kernel
theorem dX12_setBuffer_58 : decode cX12_setBuffer 58 = .ok (.iload_n 2, 1) := by decide +kernel
theorem dX12_setBuffer_59 : decode cX12_setBuffer 59 = .ok (.iastore, 1) := by decide +kernel
theorem dX12_setBuffer_60 : decode cX12_setBuffer 60 = .ok (.iload_n 3, 1) := by decide +kernel
theorem dX12_setBuffer_61 : decode cX12_setBuffer 61 = .ok (.ireturn, 1) := by decide +kernel
theorem dX12_setTimes_0 : decode cX12_setTimes 0 = .ok (.aload_n 0, 1) := by decide +kernel
theorem dX12_setTimes_1 : decode cX12_setTimes 1 = .ok (.iload_n 1, 1) := by decide +kernel
theorem dX12_setTimes_2 : decode cX12_setTimes 2 = .ok (.iconst 0, 1) := by decide +kernel
theorem dX12_setTimes_3 : decode cX12_setTimes 3 = .ok (.bipush 99, 2) := by decide +kernel
theorem dX12_setTimes_5 : decode cX12_setTimes 5 = .ok (.invokestatic 73, 3) := by decide +kernel
theorem dX12_setTimes_8 : decode cX12_setTimes 8 = .ok (.ifCond .eq 17, 3) := by decide +kernel
theorem dX12_setTimes_11 : decode cX12_setTimes 11 = .ok (.iload_n 2, 1) := by decide +kernel
theorem dX12_setTimes_12 : decode cX12_setTimes 12 = .ok (.iconst 0, 1) := by decide +kernel
theorem dX12_setTimes_13 : decode cX12_setTimes 13 = .ok (.bipush 99, 2) := by decide +kernel
theorem dX12_setTimes_15 : decode cX12_setTimes 15 = .ok (.invokestatic 73, 3) := by decide +kernel
theorem dX12_setTimes_18 : decode cX12_setTimes 18 = .ok (.ifCond .eq 7, 3) := by decide +kernel
theorem dX12_setTimes_21 : decode cX12_setTimes 21 = .ok (.iconst 0, 1) := by decide +kernel
theorem dX12_setTimes_22 : decode cX12_setTimes 22 = .ok (.goto 4, 3) := by decide +kernel
theorem dX12_setTimes_25 : decode cX12_setTimes 25 = .ok (.iconst 1, 1) := by decide +kernel
theorem dX12_setTimes_26 : decode cX12_setTimes 26 = .ok (.putfield 70, 3) := by decide +kernel
theorem dX12_setTimes_29 : decode cX12_setTimes 29 = .ok (.aload_n 0, 1) := by decide +kernel
theorem dX12_setTimes_30 : decode cX12_setTimes 30 = .ok (.getfield 70, 3) := by decide +kernel
theorem dX12_setTimes_33 : decode cX12_setTimes 33 = .ok (.ifCond .le 5, 3) := by decide +kernel
theorem dX12_setTimes_36 : decode cX12_setTimes 36 = .ok (.iconst 0, 1) := by decide +kernel
theorem dX12_setTimes_37 : decode cX12_setTimes 37 = .ok (.ireturn, 1) := by decide +kernel
theorem dX12_setTimes_38 : decode cX12_setTimes 38 = .ok (.bipush 100, 2) := by decide +kernel
theorem dX12_setTimes_40 : decode cX12_setTimes 40 = .ok (.aload_n 0, 1) := by decide +kernel
theorem dX12_setTimes_41 : decode cX12_setTimes 41 = .ok (.getfield 7, 3) := by decide +kernel
theorem dX12_setTimes_44 : decode cX12_setTimes 44 = .ok (.bipush 11, 2) := by decide +kernel
theorem dX12_setTimes_46 : decode cX12_setTimes 46 = .ok (.iaload, 1) := by decide +kernel
theorem dX12_setTimes_47 : decode cX12_setTimes 47 = .ok (.imul, 1) := by decide +kernel
theorem dX12_setTimes_48 : decode cX12_setTimes 48 = .ok (.aload_n 0, 1) := by decide +kernel
theorem dX12_setTimes_49 : decode cX12_setTimes 49 = .ok (.getfield 7, 3) := by decide +kernel
theorem dX12_setTimes_52 : decode cX12_setTimes 52 = .ok (.bipush 12, 2) := by decide +kernel
theorem dX12_setTimes_54 : decode cX12_setTimes 54 = .ok (.iaload, 1) := by decide +kernel
theorem dX12_setTimes_55 : decode cX12_setTimes 55 = .ok (.iadd, 1) := by decide +kernel
theorem dX12_setTimes_56 : decode cX12_setTimes 56 = .ok (.istore_n 3, 1) := by decide +kernel
theorem dX12_setTimes_57 : decode cX12_setTimes 57 = .ok (.aload_n 0, 1) := by decide +kernel
theorem dX12_setTimes_58 : decode cX12_setTimes 58 = .ok (.getfield 7, 3) := by decide +kernel
theorem dX12_setTimes_61 : decode cX12_setTimes 61 = .ok (.bipush 11, 2) := by decide +kernel
theorem dX12_setTimes_63 : decode cX12_setTimes 63 = .ok (.iload_n 1, 1) := by decide +kernel
theorem dX12_setTimes_64 : decode cX12_setTimes 64 = .ok (.iastore, 1) := by decide +kernel
theorem dX12_setTimes_65 : decode cX12_setTimes 65 = .ok (.aload_n 0, 1) := by decide +kernel
theorem dX12_setTimes_66 : decode cX12_setTimes 66 = .ok (.getfield 7, 3) := by decide +kernel
theorem dX12_setTimes_69 : decode cX12_setTimes 69 = .ok (.bipush 12, 2) := by decide +kernel
theorem dX12_setTimes_71 : decode cX12_setTimes 71 = .ok (.iload_n 2, 1) := by decide +kernel
theorem dX12_setTimes_72 : decode cX12_setTimes 72 = .ok (.iastore, 1) := by decide +kernel
theorem dX12_setTimes_73 : decode cX12_setTimes 73 = .ok (.iload_n 3, 1) := by decide +kernel
theorem dX12_setTimes_74 : decode cX12_setTimes 74 = .ok (.ireturn, 1) := by decide +kernel
theorem dX12_isPart_0 : decode cX12_isPart 0 = .ok (.aload_n 0, 1) := by decide +kernel
theorem dX12_isPart_1 : decode cX12_isPart 1 = .ok (.iload_n 1, 1) := by decide +kernel
theorem dX12_isPart_2 : decode cX12_isPart 2 = .ok (.invokevirtual 184, 3) := by decide +kernel
theorem dX12_isPart_5 : decode cX12_isPart 5 = .ok (.ifCond .eq 15, 3) := by decide +kernel
theorem dX12_isPart_8 : decode cX12_isPart 8 = .ok (.aload_n 0, 1) := by decide +kernel
theorem dX12_isPart_9 : decode cX12_isPart 9 = .ok (.iload_n 2, 1) := by decide +kernel
theorem dX12_isPart_10 : decode cX12_isPart 10 = .ok (.invokevirtual 257, 3) := by decide +kernel
theorem dX12_isPart_13 : decode cX12_isPart 13 = .ok (.ifCond .eq 7, 3) := by decide +kernel
theorem dX12_isPart_16 : decode cX12_isPart 16 = .ok (.iconst 1, 1) := by decide +kernel
theorem dX12_isPart_17 : decode cX12_isPart 17 = .ok (.goto 4, 3) := by decide +kernel
theorem dX12_isPart_20 : decode cX12_isPart 20 = .ok (.iconst 0, 1) := by decide +kernel
theorem dX12_isPart_21 : decode cX12_isPart 21 = .ok (.ireturn, 1) := by decide +kernel
theorem dX12_routeLength_0 : decode cX12_routeLength 0 = .ok (.aload_n 0, 1) := by decide +kernel
theorem dX12_routeLength_1 : decode cX12_routeLength 1 = .ok (.aload_n 0, 1) := by decide +kernel
theorem dX12_routeLength_2 : decode cX12_routeLength 2 = .ok (.iload_n 1, 1) := by decide +kernel
theorem dX12_routeLength_3 : decode cX12_routeLength 3 = .ok (.iload_n 2, 1) := by decide +kernel
theorem dX12_routeLength_4 : decode cX12_routeLength 4 = .ok (.invokevirtual 260, 3) := by decide +kernel
theorem dX12_routeLength_7 : decode cX12_routeLength 7 = .ok (.ifCond .ne 7, 3) := by decide +kernel
theorem dX12_routeLength_10 : decode cX12_routeLength 10 = .ok (.iconst 1, 1) := by decide +kernel
theorem dX12_routeLength_11 : decode cX12_routeLength 11 = .ok (.goto 17, 3) := by decide +kernel
theorem dX12_routeLength_14 : decode cX12_routeLength 14 = .ok (.iload_n 3, 1) := by decide +kernel
theorem dX12_routeLength_15 : decode cX12_routeLength 15 = .ok (.iconst 0, 1) := by decide +kernel
theorem dX12_routeLength_16 : decode cX12_routeLength 16 = .ok (.iconst 3, 1) := by decide +kernel
theorem dX12_routeLength_17 : decode cX12_routeLength 17 = .ok (.invokestatic 73, 3) := by decide +kernel
theorem dX12_routeLength_20 : decode cX12_routeLength 20 = .ok (.ifCond .ne 7, 3) := by decide +kernel
theorem dX12_routeLength_23 : decode cX12_routeLength 23 = .ok (.iconst 2, 1) := by decide +kernel
theorem dX12_routeLength_24 : decode cX12_routeLength 24 = .ok (.goto 4, 3) := by decide +kernel
theorem dX12_routeLength_27 : decode cX12_routeLength 27 = .ok (.iconst 0, 1) := by decide +kernel
theorem dX12_routeLength_28 : decode cX12_routeLength 28 = .ok (.putfield 70, 3) := by decide +kernel
theorem dX12_routeLength_31 : decode cX12_routeLength 31 = .ok (.aload_n 0, 1) := by decide +kernel
theorem dX12_routeLength_32 : decode cX12_routeLength 32 = .ok (.getfield 70, 3) := by decide +kernel
theorem dX12_routeLength_35 : decode cX12_routeLength 35 = .ok (.ifCond .le 5, 3) := by decide +kernel
theorem dX12_routeLength_38 : decode cX12_routeLength 38 = .ok (.iconst 0, 1) := by decide +kernel
theorem dX12_routeLength_39 : decode cX12_routeLength 39 = .ok (.ireturn, 1) := by decide +kernel
theorem dX12_routeLength_40 : decode cX12_routeLength 40 = .ok (.aload_n 0, 1) := by decide +kernel
theorem dX12_routeLength_41 : decode cX12_routeLength 41 = .ok (.aload_n 0, 1) := by decide +kernel
theorem dX12_routeLength_42 : decode cX12_routeLength 42 = .ok (.getfield 7, 3) := by decide +kernel
theorem dX12_routeLength_45 : decode cX12_routeLength 45 = .ok (.sipush 461, 3) := by decide +kernel
theorem dX12_routeLength_48 : decode cX12_routeLength 48 = .ok (.iload_n 1, 1) := by decide +kernel
theorem dX12_routeLength_49 : decode cX12_routeLength 49 = .ok (.iadd, 1) := by decide +kernel
theorem dX12_routeLength_50 : decode cX12_routeLength 50 = .ok (.iaload, 1) := by decide +kernel
theorem dX12_routeLength_51 : decode cX12_routeLength 51 = .ok (.invokevirtual 232, 3) := by decide +kernel
theorem dX12_routeLength_54 : decode cX12_routeLength 54 = .ok (.aload_n 0, 1) := by decide +kernel
theorem dX12_routeLength_55 : decode cX12_routeLength 55 = .ok (.iload_n 2, 1) := by decide +kernel
theorem dX12_routeLength_56 : decode cX12_routeLength 56 = .ok (.iload_n 3, 1) := by decide +kernel
theorem dX12_routeLength_57 : decode cX12_routeLength 57 = .ok (.invokevirtual 235, 3) := by decide +kernel
theorem dX12_routeLength_60 : decode cX12_routeLength 60 = .ok (.ireturn, 1) := by decide +kernel
theorem dX12_batchRoute_0 : decode cX12_batchRoute 0 = .ok (.aload_n 0, 1) := by decide +kernel
theorem dX12_batchRoute_1 : decode cX12_batchRoute 1 = .ok (.aload_n 0, 1) := by decide +kernel
theorem dX12_batchRoute_2 : decode cX12_batchRoute 2 = .ok (.iload_n 1, 1) := by decide +kernel
theorem dX12_batchRoute_3 : decode cX12_batchRoute 3 = .ok (.invokevirtual 184, 3) := by decide +kernel
theorem dX12_batchRoute_6 : decode cX12_batchRoute 6 = .ok (.ifCond .eq 7, 3) := by decide +kernel
theorem dX12_batchRoute_9 : decode cX12_batchRoute 9 = .ok (.iconst 0, 1) := by decide +kernel
theorem dX12_batchRoute_10 : decode cX12_batchRoute 10 = .ok (.goto 4, 3) := by decide +kernel
theorem dX12_batchRoute_13 : decode cX12_batchRoute 13 = .ok (.iconst 1, 1) := by decide +kernel
theorem dX12_batchRoute_14 : decode cX12_batchRoute 14 = .ok (.putfield 70, 3) := by decide +kernel
theorem dX12_batchRoute_17 : decode cX12_batchRoute 17 = .ok (.aload_n 0, 1) := by decide +kernel
theorem dX12_batchRoute_18 : decode cX12_batchRoute 18 = .ok (.getfield 70, 3) := by decide +kernel
theorem dX12_batchRoute_21 : decode cX12_batchRoute 21 = .ok (.ifCond .le 7, 3) := by decide +kernel
theorem dX12_batchRoute_24 : decode cX12_batchRoute 24 = .ok (.iconst 0, 1) := by decide +kernel
theorem dX12_batchRoute_25 : decode cX12_batchRoute 25 = .ok (.goto 24, 3) := by decide +kernel
theorem dX12_batchRoute_28 : decode cX12_batchRoute 28 = .ok (.aload_n 0, 1) := by decide +kernel
theorem dX12_batchRoute_29 : decode cX12_batchRoute 29 = .ok (.aload_n 0, 1) := by decide +kernel
theorem dX12_batchRoute_30 : decode cX12_batchRoute 30 = .ok (.getfield 7, 3) := by decide +kernel
theorem dX12_batchRoute_33 : decode cX12_batchRoute 33 = .ok (.sipush 461, 3) := by decide +kernel
theorem dX12_batchRoute_36 : decode cX12_batchRoute 36 = .ok (.iload_n 1, 1) := by decide +kernel
theorem dX12_batchRoute_37 : decode cX12_batchRoute 37 = .ok (.iadd, 1) := by decide +kernel
theorem dX12_batchRoute_38 : decode cX12_batchRoute 38 = .ok (.iaload, 1) := by decide +kernel
theorem dX12_batchRoute_39 : decode cX12_batchRoute 39 = .ok (.aload_n 0, 1) := by decide +kernel
theorem dX12_batchRoute_40 : decode cX12_batchRoute 40 = .ok (.getfield 7, 3) := by decide +kernel
theorem dX12_batchRoute_43 : decode cX12_batchRoute 43 = .ok (.bipush 6, 2) := by decide +kernel
theorem dX12_batchRoute_45 : decode cX12_batchRoute 45 = .ok (.iaload, 1) := by decide +kernel
theorem dX12_batchRoute_46 : decode cX12_batchRoute 46 = .ok (.invokevirtual 238, 3) := by decide +kernel
theorem dX12_batchRoute_49 : decode cX12_batchRoute 49 = .ok (.ireturn, 1) := by decide +kernel
theorem dX12_bestPolicy_0 : decode cX12_bestPolicy 0 = .ok (.aload_n 0, 1) := by decide +kernel
theorem dX12_bestPolicy_1 : decode cX12_bestPolicy 1 = .ok (.aload_n 0, 1) := by decide +kernel
theorem dX12_bestPolicy_2 : decode cX12_bestPolicy 2 = .ok (.iload_n 1, 1) := by decide +kernel
theorem dX12_bestPolicy_3 : decode cX12_bestPolicy 3 = .ok (.invokevirtual 184, 3) := by decide +kernel
theorem dX12_bestPolicy_6 : decode cX12_bestPolicy 6 = .ok (.ifCond .eq 7, 3) := by decide +kernel
theorem dX12_bestPolicy_9 : decode cX12_bestPolicy 9 = .ok (.iconst 0, 1) := by decide +kernel
theorem dX12_bestPolicy_10 : decode cX12_bestPolicy 10 = .ok (.goto 4, 3) := by decide +kernel
theorem dX12_bestPolicy_13 : decode cX12_bestPolicy 13 = .ok (.iconst 1, 1) := by decide +kernel
theorem dX12_bestPolicy_14 : decode cX12_bestPolicy 14 = .ok (.putfield 70, 3) := by decide +kernel
theorem dX12_bestPolicy_17 : decode cX12_bestPolicy 17 = .ok (.aload_n 0, 1) := by decide +kernel
theorem dX12_bestPolicy_18 : decode cX12_bestPolicy 18 = .ok (.getfield 70, 3) := by decide +kernel
theorem dX12_bestPolicy_21 : decode cX12_bestPolicy 21 = .ok (.ifCond .le 5, 3) := by decide +kernel
theorem dX12_bestPolicy_24 : decode cX12_bestPolicy 24 = .ok (.iconst 0, 1) := by decide +kernel
theorem dX12_bestPolicy_25 : decode cX12_bestPolicy 25 = .ok (.ireturn, 1) := by decide +kernel
theorem dX12_bestPolicy_26 : decode cX12_bestPolicy 26 = .ok (.iconst 0, 1) := by decide +kernel
theorem dX12_bestPolicy_27 : decode cX12_bestPolicy 27 = .ok (.istore_n 2, 1) := by decide +kernel
theorem dX12_bestPolicy_28 : decode cX12_bestPolicy 28 = .ok (.iconst 1, 1) := by decide +kernel
theorem dX12_bestPolicy_29 : decode cX12_bestPolicy 29 = .ok (.istore_n 3, 1) := by decide +kernel
theorem dX12_bestPolicy_30 : decode cX12_bestPolicy 30 = .ok (.iload_n 3, 1) := by decide +kernel
theorem dX12_bestPolicy_31 : decode cX12_bestPolicy 31 = .ok (.iconst 4, 1) := by decide +kernel
theorem dX12_bestPolicy_32 : decode cX12_bestPolicy 32 = .ok (.if_icmp .ge 48, 3) := by decide +kernel
theorem dX12_bestPolicy_35 : decode cX12_bestPolicy 35 = .ok (.aload_n 0, 1) := by decide +kernel
theorem dX12_bestPolicy_36 : decode cX12_bestPolicy 36 = .ok (.aload_n 0, 1) := by decide +kernel
theorem dX12_bestPolicy_37 : decode cX12_bestPolicy 37 = .ok (.getfield 7, 3) := by decide +kernel
theorem dX12_bestPolicy_40 : decode cX12_bestPolicy 40 = .ok (.sipush 461, 3) := by decide +kernel
theorem dX12_bestPolicy_43 : decode cX12_bestPolicy 43 = .ok (.iload_n 1, 1) := by decide +kernel
theorem dX12_bestPolicy_44 : decode cX12_bestPolicy 44 = .ok (.iadd, 1) := by decide +kernel
theorem dX12_bestPolicy_45 : decode cX12_bestPolicy 45 = .ok (.iaload, 1) := by decide +kernel
theorem dX12_bestPolicy_46 : decode cX12_bestPolicy 46 = .ok (.iload_n 3, 1) := by decide +kernel
theorem dX12_bestPolicy_47 : decode cX12_bestPolicy 47 = .ok (.invokevirtual 238, 3) := by decide +kernel
theorem dX12_bestPolicy_50 : decode cX12_bestPolicy 50 = .ok (.aload_n 0, 1) := by decide +kernel
theorem dX12_bestPolicy_51 : decode cX12_bestPolicy 51 = .ok (.aload_n 0, 1) := by decide +kernel
theorem dX12_bestPolicy_52 : decode cX12_bestPolicy 52 = .ok (.getfield 7, 3) := by decide +kernel
theorem dX12_bestPolicy_55 : decode cX12_bestPolicy 55 = .ok (.sipush 461, 3) := by decide +kernel
theorem dX12_bestPolicy_58 : decode cX12_bestPolicy 58 = .ok (.iload_n 1, 1) := by decide +kernel
theorem dX12_bestPolicy_59 : decode cX12_bestPolicy 59 = .ok (.iadd, 1) := by decide +kernel
theorem dX12_bestPolicy_60 : decode cX12_bestPolicy 60 = .ok (.iaload, 1) := by decide +kernel
theorem dX12_bestPolicy_61 : decode cX12_bestPolicy 61 = .ok (.iload_n 2, 1) := by decide +kernel
theorem dX12_bestPolicy_62 : decode cX12_bestPolicy 62 = .ok (.invokevirtual 238, 3) := by decide +kernel
theorem dX12_bestPolicy_65 : decode cX12_bestPolicy 65 = .ok (.if_icmp .ge 7, 3) := by decide +kernel
theorem dX12_bestPolicy_68 : decode cX12_bestPolicy 68 = .ok (.iload_n 3, 1) := by decide +kernel
theorem dX12_bestPolicy_69 : decode cX12_bestPolicy 69 = .ok (.goto 4, 3) := by decide +kernel
theorem dX12_bestPolicy_72 : decode cX12_bestPolicy 72 = .ok (.iload_n 2, 1) := by decide +kernel
theorem dX12_bestPolicy_73 : decode cX12_bestPolicy 73 = .ok (.istore_n 2, 1) := by decide +kernel
theorem dX12_bestPolicy_74 : decode cX12_bestPolicy 74 = .ok (.iinc 3 1, 3) := by decide +kernel
theorem dX12_bestPolicy_77 : decode cX12_bestPolicy 77 = .ok (.goto (-47), 3) := by decide +kernel
theorem dX12_bestPolicy_80 : decode cX12_bestPolicy 80 = .ok (.iload_n 2, 1) := by decide +kernel
theorem dX12_bestPolicy_81 : decode cX12_bestPolicy 81 = .ok (.ireturn, 1) := by decide +kernel
theorem dX12_stopsAt_0 : decode cX12_stopsAt 0 = .ok (.iconst 0, 1) := by decide +kernel
theorem dX12_stopsAt_1 : decode cX12_stopsAt 1 = .ok (.istore_n 3, 1) := by decide +kernel
theorem dX12_stopsAt_2 : decode cX12_stopsAt 2 = .ok (.iload_n 3, 1) := by decide +kernel
theorem dX12_stopsAt_3 : decode cX12_stopsAt 3 = .ok (.aload_n 0, 1) := by decide +kernel
theorem dX12_stopsAt_4 : decode cX12_stopsAt 4 = .ok (.getfield 7, 3) := by decide +kernel
theorem dX12_stopsAt_7 : decode cX12_stopsAt 7 = .ok (.iconst 3, 1) := by decide +kernel
theorem dX12_stopsAt_8 : decode cX12_stopsAt 8 = .ok (.iaload, 1) := by decide +kernel
theorem dX12_stopsAt_9 : decode cX12_stopsAt 9 = .ok (.if_icmp .ge 58, 3) := by decide +kernel
theorem dX12_stopsAt_12 : decode cX12_stopsAt 12 = .ok (.aload_n 0, 1) := by decide +kernel
theorem dX12_stopsAt_13 : decode cX12_stopsAt 13 = .ok (.getfield 26, 3) := by decide +kernel
theorem dX12_stopsAt_16 : decode cX12_stopsAt 16 = .ok (.iload_n 3, 1) := by decide +kernel
theorem dX12_stopsAt_17 : decode cX12_stopsAt 17 = .ok (.baload, 1) := by decide +kernel
theorem dX12_stopsAt_18 : decode cX12_stopsAt 18 = .ok (.ifCond .eq 43, 3) := by decide +kernel
theorem dX12_stopsAt_21 : decode cX12_stopsAt 21 = .ok (.aload_n 0, 1) := by decide +kernel
theorem dX12_stopsAt_22 : decode cX12_stopsAt 22 = .ok (.iload_n 3, 1) := by decide +kernel
theorem dX12_stopsAt_23 : decode cX12_stopsAt 23 = .ok (.iconst 0, 1) := by decide +kernel
theorem dX12_stopsAt_24 : decode cX12_stopsAt 24 = .ok (.invokevirtual 96, 3) := by decide +kernel
theorem dX12_stopsAt_27 : decode cX12_stopsAt 27 = .ok (.iload_n 1, 1) := by decide +kernel
theorem dX12_stopsAt_28 : decode cX12_stopsAt 28 = .ok (.if_icmp .ne 33, 3) := by decide +kernel
theorem dX12_stopsAt_31 : decode cX12_stopsAt 31 = .ok (.aload_n 0, 1) := by decide +kernel
theorem dX12_stopsAt_32 : decode cX12_stopsAt 32 = .ok (.iload_n 3, 1) := by decide +kernel
theorem dX12_stopsAt_33 : decode cX12_stopsAt 33 = .ok (.iconst 1, 1) := by decide +kernel
theorem dX12_stopsAt_34 : decode cX12_stopsAt 34 = .ok (.invokevirtual 96, 3) := by decide +kernel
theorem dX12_stopsAt_37 : decode cX12_stopsAt 37 = .ok (.iload_n 2, 1) := by decide +kernel
theorem dX12_stopsAt_38 : decode cX12_stopsAt 38 = .ok (.if_icmp .ne 23, 3) := by decide +kernel
theorem dX12_stopsAt_41 : decode cX12_stopsAt 41 = .ok (.aload_n 0, 1) := by decide +kernel
theorem dX12_stopsAt_42 : decode cX12_stopsAt 42 = .ok (.getfield 32, 3) := by decide +kernel
theorem dX12_stopsAt_45 : decode cX12_stopsAt 45 = .ok (.aload_n 0, 1) := by decide +kernel
theorem dX12_stopsAt_46 : decode cX12_stopsAt 46 = .ok (.getfield 263, 3) := by decide +kernel
theorem dX12_stopsAt_49 : decode cX12_stopsAt 49 = .ok (.iload_n 3, 1) := by decide +kernel
theorem dX12_stopsAt_50 : decode cX12_stopsAt 50 = .ok (.iastore, 1) := by decide +kernel
theorem dX12_stopsAt_51 : decode cX12_stopsAt 51 = .ok (.aload_n 0, 1) := by decide +kernel
theorem dX12_stopsAt_52 : decode cX12_stopsAt 52 = .ok (.dup, 1) := by decide +kernel
theorem dX12_stopsAt_53 : decode cX12_stopsAt 53 = .ok (.getfield 263, 3) := by decide +kernel
theorem dX12_stopsAt_56 : decode cX12_stopsAt 56 = .ok (.iconst 1, 1) := by decide +kernel
theorem dX12_stopsAt_57 : decode cX12_stopsAt 57 = .ok (.iadd, 1) := by decide +kernel
theorem dX12_stopsAt_58 : decode cX12_stopsAt 58 = .ok (.putfield 263, 3) := by decide +kernel
theorem dX12_stopsAt_61 : decode cX12_stopsAt 61 = .ok (.iinc 3 1, 3) := by decide +kernel
theorem dX12_stopsAt_64 : decode cX12_stopsAt 64 = .ok (.goto (-62), 3) := by decide +kernel
theorem dX12_stopsAt_67 : decode cX12_stopsAt 67 = .ok (.return_, 1) := by decide +kernel
theorem dX12_goesUp_0 : decode cX12_goesUp 0 = .ok (.iload_n 2, 1) := by decide +kernel
theorem dX12_goesUp_1 : decode cX12_goesUp 1 = .ok (.istore 4, 2) := by decide +kernel
theorem dX12_goesUp_3 : decode cX12_goesUp 3 = .ok (.iload 4, 2) := by decide +kernel
theorem dX12_goesUp_5 : decode cX12_goesUp 5 = .ok (.iload_n 3, 1) := by decide +kernel
theorem dX12_goesUp_6 : decode cX12_goesUp 6 = .ok (.if_icmp .gt 16, 3) := by decide +kernel
theorem dX12_goesUp_9 : decode cX12_goesUp 9 = .ok (.aload_n 0, 1) := by decide +kernel
theorem dX12_goesUp_10 : decode cX12_goesUp 10 = .ok (.iload_n 1, 1) := by decide +kernel
theorem dX12_goesUp_11 : decode cX12_goesUp 11 = .ok (.iload 4, 2) := by decide +kernel
theorem dX12_goesUp_13 : decode cX12_goesUp 13 = .ok (.invokevirtual 266, 3) := by decide +kernel
theorem dX12_goesUp_16 : decode cX12_goesUp 16 = .ok (.iinc 4 1, 3) := by decide +kernel
theorem dX12_goesUp_19 : decode cX12_goesUp 19 = .ok (.goto (-16), 3) := by decide +kernel
theorem dX12_goesUp_22 : decode cX12_goesUp 22 = .ok (.return_, 1) := by decide +kernel
theorem dX12_goesDown_0 : decode cX12_goesDown 0 = .ok (.iload_n 2, 1) := by decide +kernel
theorem dX12_goesDown_1 : decode cX12_goesDown 1 = .ok (.istore 4, 2) := by decide +kernel
theorem dX12_goesDown_3 : decode cX12_goesDown 3 = .ok (.iload 4, 2) := by decide +kernel
theorem dX12_goesDown_5 : decode cX12_goesDown 5 = .ok (.iload_n 3, 1) := by decide +kernel
theorem dX12_goesDown_6 : decode cX12_goesDown 6 = .ok (.if_icmp .lt 16, 3) := by decide +kernel
theorem dX12_goesDown_9 : decode cX12_goesDown 9 = .ok (.aload_n 0, 1) := by decide +kernel
theorem dX12_goesDown_10 : decode cX12_goesDown 10 = .ok (.iload_n 1, 1) := by decide +kernel
theorem dX12_goesDown_11 : decode cX12_goesDown 11 = .ok (.iload 4, 2) := by decide +kernel
theorem dX12_goesDown_13 : decode cX12_goesDown 13 = .ok (.invokevirtual 266, 3) := by decide +kernel
theorem dX12_goesDown_16 : decode cX12_goesDown 16 = .ok (.iinc 4 (-1), 3) := by decide +kernel
theorem dX12_goesDown_19 : decode cX12_goesDown 19 = .ok (.goto (-16), 3) := by decide +kernel
theorem dX12_goesDown_22 : decode cX12_goesDown 22 = .ok (.return_, 1) := by decide +kernel
theorem dX12_goes_0 : decode cX12_goes 0 = .ok (.iload_n 2, 1) := by decide +kernel
theorem dX12_goes_1 : decode cX12_goes 1 = .ok (.ifCond .eq 18, 3) := by decide +kernel
theorem dX12_goes_4 : decode cX12_goes 4 = .ok (.aload_n 0, 1) := by decide +kernel
theorem dX12_goes_5 : decode cX12_goes 5 = .ok (.iload_n 1, 1) := by decide +kernel
theorem dX12_goes_6 : decode cX12_goes 6 = .ok (.iconst 1, 1) := by decide +kernel
theorem dX12_goes_7 : decode cX12_goes 7 = .ok (.aload_n 0, 1) := by decide +kernel
theorem dX12_goes_8 : decode cX12_goes 8 = .ok (.getfield 7, 3) := by decide +kernel
theorem dX12_goes_11 : decode cX12_goes 11 = .ok (.iconst 1, 1) := by decide +kernel
theorem dX12_goes_12 : decode cX12_goes 12 = .ok (.iaload, 1) := by decide +kernel
theorem dX12_goes_13 : decode cX12_goes 13 = .ok (.invokevirtual 269, 3) := by decide +kernel
theorem dX12_goes_16 : decode cX12_goes 16 = .ok (.goto 15, 3) := by decide +kernel
theorem dX12_goes_19 : decode cX12_goes 19 = .ok (.aload_n 0, 1) := by decide +kernel
theorem dX12_goes_20 : decode cX12_goes 20 = .ok (.iload_n 1, 1) := by decide +kernel
theorem dX12_goes_21 : decode cX12_goes 21 = .ok (.aload_n 0, 1) := by decide +kernel
theorem dX12_goes_22 : decode cX12_goes 22 = .ok (.getfield 7, 3) := by decide +kernel
theorem dX12_goes_25 : decode cX12_goes 25 = .ok (.iconst 1, 1) := by decide +kernel
theorem dX12_goes_26 : decode cX12_goes 26 = .ok (.iaload, 1) := by decide +kernel
theorem dX12_goes_27 : decode cX12_goes 27 = .ok (.iconst 1, 1) := by decide +kernel
theorem dX12_goes_28 : decode cX12_goes 28 = .ok (.invokevirtual 272, 3) := by decide +kernel
theorem dX12_goes_31 : decode cX12_goes 31 = .ok (.return_, 1) := by decide +kernel
theorem dX12_stopsByGaps_0 : decode cX12_stopsByGaps 0 = .ok (.aload_n 0, 1) := by decide +kernel
theorem dX12_stopsByGaps_1 : decode cX12_stopsByGaps 1 = .ok (.getfield 190, 3) := by decide +kernel
theorem dX12_stopsByGaps_4 : decode cX12_stopsByGaps 4 = .ok (.iconst 1, 1) := by decide +kernel
theorem dX12_stopsByGaps_5 : decode cX12_stopsByGaps 5 = .ok (.isub, 1) := by decide +kernel
theorem dX12_stopsByGaps_6 : decode cX12_stopsByGaps 6 = .ok (.istore_n 1, 1) := by decide +kernel
theorem dX12_stopsByGaps_7 : decode cX12_stopsByGaps 7 = .ok (.aload_n 0, 1) := by decide +kernel
theorem dX12_stopsByGaps_8 : decode cX12_stopsByGaps 8 = .ok (.aload_n 0, 1) := by decide +kernel
theorem dX12_stopsByGaps_9 : decode cX12_stopsByGaps 9 = .ok (.getfield 29, 3) := by decide +kernel
theorem dX12_stopsByGaps_12 : decode cX12_stopsByGaps 12 = .ok (.iconst 0, 1) := by decide +kernel
theorem dX12_stopsByGaps_13 : decode cX12_stopsByGaps 13 = .ok (.iaload, 1) := by decide +kernel
theorem dX12_stopsByGaps_14 : decode cX12_stopsByGaps 14 = .ok (.iconst 1, 1) := by decide +kernel
theorem dX12_stopsByGaps_15 : decode cX12_stopsByGaps 15 = .ok (.invokevirtual 275, 3) := by decide +kernel
theorem dX12_stopsByGaps_18 : decode cX12_stopsByGaps 18 = .ok (.iconst 1, 1) := by decide +kernel
theorem dX12_stopsByGaps_19 : decode cX12_stopsByGaps 19 = .ok (.istore_n 2, 1) := by decide +kernel
theorem dX12_stopsByGaps_20 : decode cX12_stopsByGaps 20 = .ok (.iload_n 2, 1) := by decide +kernel
theorem dX12_stopsByGaps_21 : decode cX12_stopsByGaps 21 = .ok (.iload_n 1, 1) := by decide +kernel
theorem dX12_stopsByGaps_22 : decode cX12_stopsByGaps 22 = .ok (.if_icmp .ge 41, 3) := by decide +kernel
theorem dX12_stopsByGaps_25 : decode cX12_stopsByGaps 25 = .ok (.aload_n 0, 1) := by decide +kernel
theorem dX12_stopsByGaps_26 : decode cX12_stopsByGaps 26 = .ok (.aload_n 0, 1) := by decide +kernel
theorem dX12_stopsByGaps_27 : decode cX12_stopsByGaps 27 = .ok (.getfield 29, 3) := by decide +kernel
theorem dX12_stopsByGaps_30 : decode cX12_stopsByGaps 30 = .ok (.iload_n 2, 1) := by decide +kernel
theorem dX12_stopsByGaps_31 : decode cX12_stopsByGaps 31 = .ok (.iaload, 1) := by decide +kernel
theorem dX12_stopsByGaps_32 : decode cX12_stopsByGaps 32 = .ok (.invokevirtual 217, 3) := by decide +kernel
theorem dX12_stopsByGaps_35 : decode cX12_stopsByGaps 35 = .ok (.aload_n 0, 1) := by decide +kernel
theorem dX12_stopsByGaps_36 : decode cX12_stopsByGaps 36 = .ok (.aload_n 0, 1) := by decide +kernel
theorem dX12_stopsByGaps_37 : decode cX12_stopsByGaps 37 = .ok (.getfield 29, 3) := by decide +kernel
theorem dX12_stopsByGaps_40 : decode cX12_stopsByGaps 40 = .ok (.iload_n 2, 1) := by decide +kernel
theorem dX12_stopsByGaps_41 : decode cX12_stopsByGaps 41 = .ok (.iaload, 1) := by decide +kernel
theorem dX12_stopsByGaps_42 : decode cX12_stopsByGaps 42 = .ok (.aload_n 0, 1) := by decide +kernel
theorem dX12_stopsByGaps_43 : decode cX12_stopsByGaps 43 = .ok (.getfield 7, 3) := by decide +kernel
theorem dX12_stopsByGaps_46 : decode cX12_stopsByGaps 46 = .ok (.iconst 1, 1) := by decide +kernel
theorem dX12_stopsByGaps_47 : decode cX12_stopsByGaps 47 = .ok (.iaload, 1) := by decide +kernel
theorem dX12_stopsByGaps_48 : decode cX12_stopsByGaps 48 = .ok (.aload_n 0, 1) := by decide +kernel
theorem dX12_stopsByGaps_49 : decode cX12_stopsByGaps 49 = .ok (.getfield 199, 3) := by decide +kernel
theorem dX12_stopsByGaps_52 : decode cX12_stopsByGaps 52 = .ok (.iconst 1, 1) := by decide +kernel
theorem dX12_stopsByGaps_53 : decode cX12_stopsByGaps 53 = .ok (.iadd, 1) := by decide +kernel
theorem dX12_stopsByGaps_54 : decode cX12_stopsByGaps 54 = .ok (.invokevirtual 272, 3) := by decide +kernel
theorem dX12_stopsByGaps_57 : decode cX12_stopsByGaps 57 = .ok (.iinc 2 1, 3) := by decide +kernel
theorem dX12_stopsByGaps_60 : decode cX12_stopsByGaps 60 = .ok (.goto (-40), 3) := by decide +kernel
theorem dX12_stopsByGaps_63 : decode cX12_stopsByGaps 63 = .ok (.aload_n 0, 1) := by decide +kernel
theorem dX12_stopsByGaps_64 : decode cX12_stopsByGaps 64 = .ok (.aload_n 0, 1) := by decide +kernel
theorem dX12_stopsByGaps_65 : decode cX12_stopsByGaps 65 = .ok (.getfield 29, 3) := by decide +kernel
theorem dX12_stopsByGaps_68 : decode cX12_stopsByGaps 68 = .ok (.iload_n 1, 1) := by decide +kernel
theorem dX12_stopsByGaps_69 : decode cX12_stopsByGaps 69 = .ok (.iaload, 1) := by decide +kernel
theorem dX12_stopsByGaps_70 : decode cX12_stopsByGaps 70 = .ok (.iconst 0, 1) := by decide +kernel
theorem dX12_stopsByGaps_71 : decode cX12_stopsByGaps 71 = .ok (.invokevirtual 275, 3) := by decide +kernel
theorem dX12_stopsByGaps_74 : decode cX12_stopsByGaps 74 = .ok (.iload_n 1, 1) := by decide +kernel
theorem dX12_stopsByGaps_75 : decode cX12_stopsByGaps 75 = .ok (.iconst 1, 1) := by decide +kernel
theorem dX12_stopsByGaps_76 : decode cX12_stopsByGaps 76 = .ok (.isub, 1) := by decide +kernel
theorem dX12_stopsByGaps_77 : decode cX12_stopsByGaps 77 = .ok (.istore_n 2, 1) := by decide +kernel
theorem dX12_stopsByGaps_78 : decode cX12_stopsByGaps 78 = .ok (.iload_n 2, 1) := by decide +kernel
theorem dX12_stopsByGaps_79 : decode cX12_stopsByGaps 79 = .ok (.ifCond .le 34, 3) := by decide +kernel
theorem dX12_stopsByGaps_82 : decode cX12_stopsByGaps 82 = .ok (.aload_n 0, 1) := by decide +kernel
theorem dX12_stopsByGaps_83 : decode cX12_stopsByGaps 83 = .ok (.aload_n 0, 1) := by decide +kernel
theorem dX12_stopsByGaps_84 : decode cX12_stopsByGaps 84 = .ok (.getfield 29, 3) := by decide +kernel
theorem dX12_stopsByGaps_87 : decode cX12_stopsByGaps 87 = .ok (.iload_n 2, 1) := by decide +kernel
theorem dX12_stopsByGaps_88 : decode cX12_stopsByGaps 88 = .ok (.iaload, 1) := by decide +kernel
theorem dX12_stopsByGaps_89 : decode cX12_stopsByGaps 89 = .ok (.invokevirtual 217, 3) := by decide +kernel
theorem dX12_stopsByGaps_92 : decode cX12_stopsByGaps 92 = .ok (.aload_n 0, 1) := by decide +kernel
theorem dX12_stopsByGaps_93 : decode cX12_stopsByGaps 93 = .ok (.aload_n 0, 1) := by decide +kernel
theorem dX12_stopsByGaps_94 : decode cX12_stopsByGaps 94 = .ok (.getfield 29, 3) := by decide +kernel
theorem dX12_stopsByGaps_97 : decode cX12_stopsByGaps 97 = .ok (.iload_n 2, 1) := by decide +kernel
theorem dX12_stopsByGaps_98 : decode cX12_stopsByGaps 98 = .ok (.iaload, 1) := by decide +kernel
theorem dX12_stopsByGaps_99 : decode cX12_stopsByGaps 99 = .ok (.iconst 1, 1) := by decide +kernel
theorem dX12_stopsByGaps_100 : decode cX12_stopsByGaps 100 = .ok (.aload_n 0, 1) := by decide +kernel
theorem dX12_stopsByGaps_101 : decode cX12_stopsByGaps 101 = .ok (.getfield 199, 3) := by decide +kernel
theorem dX12_stopsByGaps_104 : decode cX12_stopsByGaps 104 = .ok (.invokevirtual 269, 3) := by decide +kernel
theorem dX12_stopsByGaps_107 : decode cX12_stopsByGaps 107 = .ok (.iinc 2 (-1), 3) := by decide +kernel
theorem dX12_stopsByGaps_110 : decode cX12_stopsByGaps 110 = .ok (.goto (-32), 3) := by decide +kernel
theorem dX12_stopsByGaps_113 : decode cX12_stopsByGaps 113 = .ok (.return_, 1) := by decide +kernel
theorem dX12_stopsCombined_0 : decode cX12_stopsCombined 0 = .ok (.aload_n 0, 1) := by decide +kernel
theorem dX12_stopsCombined_1 : decode cX12_stopsCombined 1 = .ok (.invokevirtual 229, 3) := by decide +kernel
theorem dX12_stopsCombined_4 : decode cX12_stopsCombined 4 = .ok (.istore_n 1, 1) := by decide +kernel
theorem dX12_stopsCombined_5 : decode cX12_stopsCombined 5 = .ok (.iconst 0, 1) := by decide +kernel
theorem dX12_stopsCombined_6 : decode cX12_stopsCombined 6 = .ok (.istore_n 2, 1) := by decide +kernel
theorem dX12_stopsCombined_7 : decode cX12_stopsCombined 7 = .ok (.iconst 0, 1) := by decide +kernel
theorem dX12_stopsCombined_8 : decode cX12_stopsCombined 8 = .ok (.istore_n 3, 1) := by decide +kernel
theorem dX12_stopsCombined_9 : decode cX12_stopsCombined 9 = .ok (.iload_n 3, 1) := by decide +kernel
theorem dX12_stopsCombined_10 : decode cX12_stopsCombined 10 = .ok (.aload_n 0, 1) := by decide +kernel
theorem dX12_stopsCombined_11 : decode cX12_stopsCombined 11 = .ok (.getfield 190, 3) := by decide +kernel
theorem dX12_stopsCombined_14 : decode cX12_stopsCombined 14 = .ok (.if_icmp .ge 50, 3) := by decide +kernel
theorem dX12_stopsCombined_17 : decode cX12_stopsCombined 17 = .ok (.aload_n 0, 1) := by decide +kernel
theorem dX12_stopsCombined_18 : decode cX12_stopsCombined 18 = .ok (.aload_n 0, 1) := by decide +kernel
theorem dX12_stopsCombined_19 : decode cX12_stopsCombined 19 = .ok (.getfield 29, 3) := by decide +kernel
theorem dX12_stopsCombined_22 : decode cX12_stopsCombined 22 = .ok (.iload_n 3, 1) := by decide +kernel
theorem dX12_stopsCombined_23 : decode cX12_stopsCombined 23 = .ok (.iaload, 1) := by decide +kernel
theorem dX12_stopsCombined_24 : decode cX12_stopsCombined 24 = .ok (.iload_n 2, 1) := by decide +kernel
theorem dX12_stopsCombined_25 : decode cX12_stopsCombined 25 = .ok (.ifCond .ne 7, 3) := by decide +kernel
theorem dX12_stopsCombined_28 : decode cX12_stopsCombined 28 = .ok (.iconst 1, 1) := by decide +kernel
theorem dX12_stopsCombined_29 : decode cX12_stopsCombined 29 = .ok (.goto 4, 3) := by decide +kernel
theorem dX12_stopsCombined_32 : decode cX12_stopsCombined 32 = .ok (.iconst 0, 1) := by decide +kernel
theorem dX12_stopsCombined_33 : decode cX12_stopsCombined 33 = .ok (.invokevirtual 275, 3) := by decide +kernel
theorem dX12_stopsCombined_36 : decode cX12_stopsCombined 36 = .ok (.iload_n 2, 1) := by decide +kernel
theorem dX12_stopsCombined_37 : decode cX12_stopsCombined 37 = .ok (.iload_n 1, 1) := by decide +kernel
theorem dX12_stopsCombined_38 : decode cX12_stopsCombined 38 = .ok (.aload_n 0, 1) := by decide +kernel
theorem dX12_stopsCombined_39 : decode cX12_stopsCombined 39 = .ok (.getfield 190, 3) := by decide +kernel
theorem dX12_stopsCombined_42 : decode cX12_stopsCombined 42 = .ok (.iconst 1, 1) := by decide +kernel
theorem dX12_stopsCombined_43 : decode cX12_stopsCombined 43 = .ok (.isub, 1) := by decide +kernel
theorem dX12_stopsCombined_44 : decode cX12_stopsCombined 44 = .ok (.iload_n 3, 1) := by decide +kernel
theorem dX12_stopsCombined_45 : decode cX12_stopsCombined 45 = .ok (.isub, 1) := by decide +kernel
theorem dX12_stopsCombined_46 : decode cX12_stopsCombined 46 = .ok (.invokestatic 136, 3) := by decide +kernel
theorem dX12_stopsCombined_49 : decode cX12_stopsCombined 49 = .ok (.if_icmp .eq 7, 3) := by decide +kernel
theorem dX12_stopsCombined_52 : decode cX12_stopsCombined 52 = .ok (.iconst 1, 1) := by decide +kernel
theorem dX12_stopsCombined_53 : decode cX12_stopsCombined 53 = .ok (.goto 4, 3) := by decide +kernel
theorem dX12_stopsCombined_56 : decode cX12_stopsCombined 56 = .ok (.iconst 0, 1) := by decide +kernel
theorem dX12_stopsCombined_57 : decode cX12_stopsCombined 57 = .ok (.istore_n 2, 1) := by decide +kernel
theorem dX12_stopsCombined_58 : decode cX12_stopsCombined 58 = .ok (.iinc 3 1, 3) := by decide +kernel
theorem dX12_stopsCombined_61 : decode cX12_stopsCombined 61 = .ok (.goto (-52), 3) := by decide +kernel
theorem dX12_stopsCombined_64 : decode cX12_stopsCombined 64 = .ok (.return_, 1) := by decide +kernel
theorem dX12_laysStops_0 : decode cX12_laysStops 0 = .ok (.aload_n 0, 1) := by decide +kernel
theorem dX12_laysStops_1 : decode cX12_laysStops 1 = .ok (.iload_n 1, 1) := by decide +kernel
theorem dX12_laysStops_2 : decode cX12_laysStops 2 = .ok (.invokevirtual 220, 3) := by decide +kernel
theorem dX12_laysStops_5 : decode cX12_laysStops 5 = .ok (.aload_n 0, 1) := by decide +kernel
theorem dX12_laysStops_6 : decode cX12_laysStops 6 = .ok (.iconst 0, 1) := by decide +kernel
theorem dX12_laysStops_7 : decode cX12_laysStops 7 = .ok (.putfield 263, 3) := by decide +kernel
theorem dX12_laysStops_10 : decode cX12_laysStops 10 = .ok (.aload_n 0, 1) := by decide +kernel
theorem dX12_laysStops_11 : decode cX12_laysStops 11 = .ok (.getfield 7, 3) := by decide +kernel
theorem dX12_laysStops_14 : decode cX12_laysStops 14 = .ok (.bipush 6, 2) := by decide +kernel
theorem dX12_laysStops_16 : decode cX12_laysStops 16 = .ok (.iaload, 1) := by decide +kernel
theorem dX12_laysStops_17 : decode cX12_laysStops 17 = .ok (.iconst 2, 1) := by decide +kernel
theorem dX12_laysStops_18 : decode cX12_laysStops 18 = .ok (.if_icmp .ne 18, 3) := by decide +kernel
theorem dX12_laysStops_21 : decode cX12_laysStops 21 = .ok (.aload_n 0, 1) := by decide +kernel
theorem dX12_laysStops_22 : decode cX12_laysStops 22 = .ok (.getfield 190, 3) := by decide +kernel
theorem dX12_laysStops_25 : decode cX12_laysStops 25 = .ok (.iconst 1, 1) := by decide +kernel
theorem dX12_laysStops_26 : decode cX12_laysStops 26 = .ok (.if_icmp .le 10, 3) := by decide +kernel
theorem dX12_laysStops_29 : decode cX12_laysStops 29 = .ok (.aload_n 0, 1) := by decide +kernel
theorem dX12_laysStops_30 : decode cX12_laysStops 30 = .ok (.invokevirtual 279, 3) := by decide +kernel
theorem dX12_laysStops_33 : decode cX12_laysStops 33 = .ok (.goto 69, 3) := by decide +kernel
theorem dX12_laysStops_36 : decode cX12_laysStops 36 = .ok (.aload_n 0, 1) := by decide +kernel
theorem dX12_laysStops_37 : decode cX12_laysStops 37 = .ok (.getfield 7, 3) := by decide +kernel
theorem dX12_laysStops_40 : decode cX12_laysStops 40 = .ok (.bipush 6, 2) := by decide +kernel
theorem dX12_laysStops_42 : decode cX12_laysStops 42 = .ok (.iaload, 1) := by decide +kernel
theorem dX12_laysStops_43 : decode cX12_laysStops 43 = .ok (.iconst 3, 1) := by decide +kernel
theorem dX12_laysStops_44 : decode cX12_laysStops 44 = .ok (.if_icmp .ne 10, 3) := by decide +kernel
theorem dX12_laysStops_47 : decode cX12_laysStops 47 = .ok (.aload_n 0, 1) := by decide +kernel
theorem dX12_laysStops_48 : decode cX12_laysStops 48 = .ok (.invokevirtual 282, 3) := by decide +kernel
theorem dX12_laysStops_51 : decode cX12_laysStops 51 = .ok (.goto 51, 3) := by decide +kernel
theorem dX12_laysStops_54 : decode cX12_laysStops 54 = .ok (.iconst 0, 1) := by decide +kernel
theorem dX12_laysStops_55 : decode cX12_laysStops 55 = .ok (.istore_n 2, 1) := by decide +kernel
theorem dX12_laysStops_56 : decode cX12_laysStops 56 = .ok (.iload_n 2, 1) := by decide +kernel
theorem dX12_laysStops_57 : decode cX12_laysStops 57 = .ok (.aload_n 0, 1) := by decide +kernel
theorem dX12_laysStops_58 : decode cX12_laysStops 58 = .ok (.getfield 190, 3) := by decide +kernel
theorem dX12_laysStops_61 : decode cX12_laysStops 61 = .ok (.if_icmp .ge 41, 3) := by decide +kernel
theorem dX12_laysStops_64 : decode cX12_laysStops 64 = .ok (.aload_n 0, 1) := by decide +kernel
theorem dX12_laysStops_65 : decode cX12_laysStops 65 = .ok (.aload_n 0, 1) := by decide +kernel
theorem dX12_laysStops_66 : decode cX12_laysStops 66 = .ok (.getfield 29, 3) := by decide +kernel
theorem dX12_laysStops_69 : decode cX12_laysStops 69 = .ok (.iload_n 2, 1) := by decide +kernel
theorem dX12_laysStops_70 : decode cX12_laysStops 70 = .ok (.iaload, 1) := by decide +kernel
theorem dX12_laysStops_71 : decode cX12_laysStops 71 = .ok (.aload_n 0, 1) := by decide +kernel
theorem dX12_laysStops_72 : decode cX12_laysStops 72 = .ok (.getfield 7, 3) := by decide +kernel
theorem dX12_laysStops_75 : decode cX12_laysStops 75 = .ok (.bipush 6, 2) := by decide +kernel
theorem dX12_laysStops_77 : decode cX12_laysStops 77 = .ok (.iaload, 1) := by decide +kernel
theorem dX12_laysStops_78 : decode cX12_laysStops 78 = .ok (.iconst 1, 1) := by decide +kernel
theorem dX12_laysStops_79 : decode cX12_laysStops 79 = .ok (.if_icmp .ne 9, 3) := by decide +kernel
theorem dX12_laysStops_82 : decode cX12_laysStops 82 = .ok (.iload_n 2, 1) := by decide +kernel
theorem dX12_laysStops_83 : decode cX12_laysStops 83 = .ok (.iconst 2, 1) := by decide +kernel
theorem dX12_laysStops_84 : decode cX12_laysStops 84 = .ok (.irem, 1) := by decide +kernel
theorem dX12_laysStops_85 : decode cX12_laysStops 85 = .ok (.ifCond .ne 7, 3) := by decide +kernel
theorem dX12_laysStops_88 : decode cX12_laysStops 88 = .ok (.iconst 1, 1) := by decide +kernel
theorem dX12_laysStops_89 : decode cX12_laysStops 89 = .ok (.goto 4, 3) := by decide +kernel
theorem dX12_laysStops_92 : decode cX12_laysStops 92 = .ok (.iconst 0, 1) := by decide +kernel
theorem dX12_laysStops_93 : decode cX12_laysStops 93 = .ok (.invokevirtual 275, 3) := by decide +kernel
theorem dX12_laysStops_96 : decode cX12_laysStops 96 = .ok (.iinc 2 1, 3) := by decide +kernel
theorem dX12_laysStops_99 : decode cX12_laysStops 99 = .ok (.goto (-43), 3) := by decide +kernel
theorem dX12_laysStops_102 : decode cX12_laysStops 102 = .ok (.return_, 1) := by decide +kernel
theorem dX12_stopCount_0 : decode cX12_stopCount 0 = .ok (.aload_n 0, 1) := by decide +kernel
theorem dX12_stopCount_1 : decode cX12_stopCount 1 = .ok (.aload_n 0, 1) := by decide +kernel
theorem dX12_stopCount_2 : decode cX12_stopCount 2 = .ok (.iload_n 1, 1) := by decide +kernel
theorem dX12_stopCount_3 : decode cX12_stopCount 3 = .ok (.iload_n 2, 1) := by decide +kernel
theorem dX12_stopCount_4 : decode cX12_stopCount 4 = .ok (.invokevirtual 260, 3) := by decide +kernel
theorem dX12_stopCount_7 : decode cX12_stopCount 7 = .ok (.ifCond .eq 7, 3) := by decide +kernel
theorem dX12_stopCount_10 : decode cX12_stopCount 10 = .ok (.iconst 0, 1) := by decide +kernel
theorem dX12_stopCount_11 : decode cX12_stopCount 11 = .ok (.goto 4, 3) := by decide +kernel
theorem dX12_stopCount_14 : decode cX12_stopCount 14 = .ok (.iconst 1, 1) := by decide +kernel
theorem dX12_stopCount_15 : decode cX12_stopCount 15 = .ok (.putfield 70, 3) := by decide +kernel
theorem dX12_stopCount_18 : decode cX12_stopCount 18 = .ok (.aload_n 0, 1) := by decide +kernel
theorem dX12_stopCount_19 : decode cX12_stopCount 19 = .ok (.getfield 70, 3) := by decide +kernel
theorem dX12_stopCount_22 : decode cX12_stopCount 22 = .ok (.ifCond .le 5, 3) := by decide +kernel
theorem dX12_stopCount_25 : decode cX12_stopCount 25 = .ok (.iconst 0, 1) := by decide +kernel
theorem dX12_stopCount_26 : decode cX12_stopCount 26 = .ok (.ireturn, 1) := by decide +kernel
theorem dX12_stopCount_27 : decode cX12_stopCount 27 = .ok (.aload_n 0, 1) := by decide +kernel
theorem dX12_stopCount_28 : decode cX12_stopCount 28 = .ok (.aload_n 0, 1) := by decide +kernel
theorem dX12_stopCount_29 : decode cX12_stopCount 29 = .ok (.getfield 7, 3) := by decide +kernel
theorem dX12_stopCount_32 : decode cX12_stopCount 32 = .ok (.sipush 461, 3) := by decide +kernel
theorem dX12_stopCount_35 : decode cX12_stopCount 35 = .ok (.iload_n 1, 1) := by decide +kernel
theorem dX12_stopCount_36 : decode cX12_stopCount 36 = .ok (.iadd, 1) := by decide +kernel
theorem dX12_stopCount_37 : decode cX12_stopCount 37 = .ok (.iaload, 1) := by decide +kernel
theorem dX12_stopCount_38 : decode cX12_stopCount 38 = .ok (.invokevirtual 232, 3) := by decide +kernel
theorem dX12_stopCount_41 : decode cX12_stopCount 41 = .ok (.aload_n 0, 1) := by decide +kernel
theorem dX12_stopCount_42 : decode cX12_stopCount 42 = .ok (.iload_n 2, 1) := by decide +kernel
theorem dX12_stopCount_43 : decode cX12_stopCount 43 = .ok (.invokevirtual 285, 3) := by decide +kernel
theorem dX12_stopCount_46 : decode cX12_stopCount 46 = .ok (.aload_n 0, 1) := by decide +kernel
theorem dX12_stopCount_47 : decode cX12_stopCount 47 = .ok (.getfield 263, 3) := by decide +kernel
theorem dX12_stopCount_50 : decode cX12_stopCount 50 = .ok (.ireturn, 1) := by decide +kernel
theorem dX12_stopItem_0 : decode cX12_stopItem 0 = .ok (.aload_n 0, 1) := by decide +kernel
theorem dX12_stopItem_1 : decode cX12_stopItem 1 = .ok (.aload_n 0, 1) := by decide +kernel
theorem dX12_stopItem_2 : decode cX12_stopItem 2 = .ok (.iload_n 1, 1) := by decide +kernel
theorem dX12_stopItem_3 : decode cX12_stopItem 3 = .ok (.iload_n 2, 1) := by decide +kernel
theorem dX12_stopItem_4 : decode cX12_stopItem 4 = .ok (.invokevirtual 260, 3) := by decide +kernel
theorem dX12_stopItem_7 : decode cX12_stopItem 7 = .ok (.ifCond .eq 7, 3) := by decide +kernel
theorem dX12_stopItem_10 : decode cX12_stopItem 10 = .ok (.iconst 0, 1) := by decide +kernel
theorem dX12_stopItem_11 : decode cX12_stopItem 11 = .ok (.goto 4, 3) := by decide +kernel
theorem dX12_stopItem_14 : decode cX12_stopItem 14 = .ok (.iconst 1, 1) := by decide +kernel
theorem dX12_stopItem_15 : decode cX12_stopItem 15 = .ok (.putfield 70, 3) := by decide +kernel
theorem dX12_stopItem_18 : decode cX12_stopItem 18 = .ok (.aload_n 0, 1) := by decide +kernel
theorem dX12_stopItem_19 : decode cX12_stopItem 19 = .ok (.getfield 70, 3) := by decide +kernel
theorem dX12_stopItem_22 : decode cX12_stopItem 22 = .ok (.ifCond .le 5, 3) := by decide +kernel
theorem dX12_stopItem_25 : decode cX12_stopItem 25 = .ok (.iconst 0, 1) := by decide +kernel
theorem dX12_stopItem_26 : decode cX12_stopItem 26 = .ok (.ireturn, 1) := by decide +kernel
theorem dX12_stopItem_27 : decode cX12_stopItem 27 = .ok (.aload_n 0, 1) := by decide +kernel
theorem dX12_stopItem_28 : decode cX12_stopItem 28 = .ok (.aload_n 0, 1) := by decide +kernel
theorem dX12_stopItem_29 : decode cX12_stopItem 29 = .ok (.getfield 7, 3) := by decide +kernel
theorem dX12_stopItem_32 : decode cX12_stopItem 32 = .ok (.sipush 461, 3) := by decide +kernel
theorem dX12_stopItem_35 : decode cX12_stopItem 35 = .ok (.iload_n 1, 1) := by decide +kernel
theorem dX12_stopItem_36 : decode cX12_stopItem 36 = .ok (.iadd, 1) := by decide +kernel
theorem dX12_stopItem_37 : decode cX12_stopItem 37 = .ok (.iaload, 1) := by decide +kernel
theorem dX12_stopItem_38 : decode cX12_stopItem 38 = .ok (.invokevirtual 232, 3) := by decide +kernel
theorem dX12_stopItem_41 : decode cX12_stopItem 41 = .ok (.aload_n 0, 1) := by decide +kernel
theorem dX12_stopItem_42 : decode cX12_stopItem 42 = .ok (.iload_n 2, 1) := by decide +kernel
theorem dX12_stopItem_43 : decode cX12_stopItem 43 = .ok (.invokevirtual 285, 3) := by decide +kernel
theorem dX12_stopItem_46 : decode cX12_stopItem 46 = .ok (.aload_n 0, 1) := by decide +kernel
theorem dX12_stopItem_47 : decode cX12_stopItem 47 = .ok (.iload_n 3, 1) := by decide +kernel
theorem dX12_stopItem_48 : decode cX12_stopItem 48 = .ok (.iconst 0, 1) := by decide +kernel
theorem dX12_stopItem_49 : decode cX12_stopItem 49 = .ok (.aload_n 0, 1) := by decide +kernel
theorem dX12_stopItem_50 : decode cX12_stopItem 50 = .ok (.getfield 263, 3) := by decide +kernel
theorem dX12_stopItem_53 : decode cX12_stopItem 53 = .ok (.iconst 1, 1) := by decide +kernel
theorem dX12_stopItem_54 : decode cX12_stopItem 54 = .ok (.isub, 1) := by decide +kernel
theorem dX12_stopItem_55 : decode cX12_stopItem 55 = .ok (.invokestatic 73, 3) := by decide +kernel
theorem dX12_stopItem_58 : decode cX12_stopItem 58 = .ok (.ifCond .eq 7, 3) := by decide +kernel
theorem dX12_stopItem_61 : decode cX12_stopItem 61 = .ok (.iconst 0, 1) := by decide +kernel
theorem dX12_stopItem_62 : decode cX12_stopItem 62 = .ok (.goto 4, 3) := by decide +kernel
theorem dX12_stopItem_65 : decode cX12_stopItem 65 = .ok (.iconst 1, 1) := by decide +kernel
theorem dX12_stopItem_66 : decode cX12_stopItem 66 = .ok (.putfield 70, 3) := by decide +kernel
theorem dX12_stopItem_69 : decode cX12_stopItem 69 = .ok (.aload_n 0, 1) := by decide +kernel
theorem dX12_stopItem_70 : decode cX12_stopItem 70 = .ok (.getfield 70, 3) := by decide +kernel
theorem dX12_stopItem_73 : decode cX12_stopItem 73 = .ok (.ifCond .le 7, 3) := by decide +kernel
theorem dX12_stopItem_76 : decode cX12_stopItem 76 = .ok (.iconst 0, 1) := by decide +kernel
theorem dX12_stopItem_77 : decode cX12_stopItem 77 = .ok (.goto 9, 3) := by decide +kernel
theorem dX12_stopItem_80 : decode cX12_stopItem 80 = .ok (.aload_n 0, 1) := by decide +kernel
theorem dX12_stopItem_81 : decode cX12_stopItem 81 = .ok (.getfield 32, 3) := by decide +kernel
theorem dX12_stopItem_84 : decode cX12_stopItem 84 = .ok (.iload_n 3, 1) := by decide +kernel
theorem dX12_stopItem_85 : decode cX12_stopItem 85 = .ok (.iaload, 1) := by decide +kernel
theorem dX12_stopItem_86 : decode cX12_stopItem 86 = .ok (.ireturn, 1) := by decide +kernel
theorem dX12_savedDistance_0 : decode cX12_savedDistance 0 = .ok (.aload_n 0, 1) := by decide +kernel
theorem dX12_savedDistance_1 : decode cX12_savedDistance 1 = .ok (.iconst 0, 1) := by decide +kernel
theorem dX12_savedDistance_2 : decode cX12_savedDistance 2 = .ok (.putfield 70, 3) := by decide +kernel
theorem dX12_savedDistance_5 : decode cX12_savedDistance 5 = .ok (.iconst 0, 1) := by decide +kernel
theorem dX12_savedDistance_6 : decode cX12_savedDistance 6 = .ok (.istore_n 1, 1) := by decide +kernel
theorem dX12_savedDistance_7 : decode cX12_savedDistance 7 = .ok (.iconst 0, 1) := by decide +kernel
theorem dX12_savedDistance_8 : decode cX12_savedDistance 8 = .ok (.istore_n 2, 1) := by decide +kernel
theorem dX12_savedDistance_9 : decode cX12_savedDistance 9 = .ok (.iload_n 2, 1) := by decide +kernel
theorem dX12_savedDistance_10 : decode cX12_savedDistance 10 = .ok (.aload_n 0, 1) := by decide +kernel
theorem dX12_savedDistance_11 : decode cX12_savedDistance 11 = .ok (.getfield 7, 3) := by decide +kernel
theorem dX12_savedDistance_14 : decode cX12_savedDistance 14 = .ok (.iconst 4, 1) := by decide +kernel
theorem dX12_savedDistance_15 : decode cX12_savedDistance 15 = .ok (.iaload, 1) := by decide +kernel
theorem dX12_savedDistance_16 : decode cX12_savedDistance 16 = .ok (.if_icmp .ge 39, 3) := by decide +kernel
theorem dX12_savedDistance_19 : decode cX12_savedDistance 19 = .ok (.iload_n 1, 1) := by decide +kernel
theorem dX12_savedDistance_20 : decode cX12_savedDistance 20 = .ok (.aload_n 0, 1) := by decide +kernel
theorem dX12_savedDistance_21 : decode cX12_savedDistance 21 = .ok (.iload_n 2, 1) := by decide +kernel
theorem dX12_savedDistance_22 : decode cX12_savedDistance 22 = .ok (.invokevirtual 139, 3) := by decide +kernel
theorem dX12_savedDistance_25 : decode cX12_savedDistance 25 = .ok (.iconst (-1), 1) := by decide +kernel
theorem dX12_savedDistance_26 : decode cX12_savedDistance 26 = .ok (.if_icmp .ne 7, 3) := by decide +kernel
theorem dX12_savedDistance_29 : decode cX12_savedDistance 29 = .ok (.iconst 0, 1) := by decide +kernel
theorem dX12_savedDistance_30 : decode cX12_savedDistance 30 = .ok (.goto 17, 3) := by decide +kernel
theorem dX12_savedDistance_33 : decode cX12_savedDistance 33 = .ok (.aload_n 0, 1) := by decide +kernel
theorem dX12_savedDistance_34 : decode cX12_savedDistance 34 = .ok (.iconst 1, 1) := by decide +kernel
theorem dX12_savedDistance_35 : decode cX12_savedDistance 35 = .ok (.iload_n 2, 1) := by decide +kernel
theorem dX12_savedDistance_36 : decode cX12_savedDistance 36 = .ok (.ishl, 1) := by decide +kernel
theorem dX12_savedDistance_37 : decode cX12_savedDistance 37 = .ok (.aload_n 0, 1) := by decide +kernel
theorem dX12_savedDistance_38 : decode cX12_savedDistance 38 = .ok (.getfield 7, 3) := by decide +kernel
theorem dX12_savedDistance_41 : decode cX12_savedDistance 41 = .ok (.bipush 6, 2) := by decide +kernel
theorem dX12_savedDistance_43 : decode cX12_savedDistance 43 = .ok (.iaload, 1) := by decide +kernel
theorem dX12_savedDistance_44 : decode cX12_savedDistance 44 = .ok (.invokevirtual 238, 3) := by decide +kernel
theorem dX12_savedDistance_47 : decode cX12_savedDistance 47 = .ok (.iadd, 1) := by decide +kernel
theorem dX12_savedDistance_48 : decode cX12_savedDistance 48 = .ok (.istore_n 1, 1) := by decide +kernel
theorem dX12_savedDistance_49 : decode cX12_savedDistance 49 = .ok (.iinc 2 1, 3) := by decide +kernel
theorem dX12_savedDistance_52 : decode cX12_savedDistance 52 = .ok (.goto (-43), 3) := by decide +kernel
theorem dX12_savedDistance_55 : decode cX12_savedDistance 55 = .ok (.iload_n 1, 1) := by decide +kernel
theorem dX12_savedDistance_56 : decode cX12_savedDistance 56 = .ok (.aload_n 0, 1) := by decide +kernel
theorem dX12_savedDistance_57 : decode cX12_savedDistance 57 = .ok (.invokevirtual 288, 3) := by decide +kernel
theorem dX12_savedDistance_60 : decode cX12_savedDistance 60 = .ok (.isub, 1) := by decide +kernel
theorem dX12_savedDistance_61 : decode cX12_savedDistance 61 = .ok (.ireturn, 1) := by decide +kernel
theorem dX12_laysWork_0 : decode cX12_laysWork 0 = .ok (.iconst 0, 1) := by decide +kernel
theorem dX12_laysWork_1 : decode cX12_laysWork 1 = .ok (.istore_n 1, 1) := by decide +kernel
theorem dX12_laysWork_2 : decode cX12_laysWork 2 = .ok (.iload_n 1, 1) := by decide +kernel
theorem dX12_laysWork_3 : decode cX12_laysWork 3 = .ok (.aload_n 0, 1) := by decide +kernel
theorem dX12_laysWork_4 : decode cX12_laysWork 4 = .ok (.getfield 7, 3) := by decide +kernel
theorem dX12_laysWork_7 : decode cX12_laysWork 7 = .ok (.iconst 5, 1) := by decide +kernel
theorem dX12_laysWork_8 : decode cX12_laysWork 8 = .ok (.iaload, 1) := by decide +kernel
theorem dX12_laysWork_9 : decode cX12_laysWork 9 = .ok (.if_icmp .ge 105, 3) := by decide +kernel
theorem dX12_laysWork_12 : decode cX12_laysWork 12 = .ok (.aload_n 0, 1) := by decide +kernel
theorem dX12_laysWork_13 : decode cX12_laysWork 13 = .ok (.getfield 38, 3) := by decide +kernel
theorem dX12_laysWork_16 : decode cX12_laysWork 16 = .ok (.iload_n 1, 1) := by decide +kernel
theorem dX12_laysWork_17 : decode cX12_laysWork 17 = .ok (.iload_n 1, 1) := by decide +kernel
theorem dX12_laysWork_18 : decode cX12_laysWork 18 = .ok (.iastore, 1) := by decide +kernel
theorem dX12_laysWork_19 : decode cX12_laysWork 19 = .ok (.aload_n 0, 1) := by decide +kernel
theorem dX12_laysWork_20 : decode cX12_laysWork 20 = .ok (.aload_n 0, 1) := by decide +kernel
theorem dX12_laysWork_21 : decode cX12_laysWork 21 = .ok (.getfield 7, 3) := by decide +kernel
theorem dX12_laysWork_24 : decode cX12_laysWork 24 = .ok (.sipush 461, 3) := by decide +kernel
theorem dX12_laysWork_27 : decode cX12_laysWork 27 = .ok (.iload_n 1, 1) := by decide +kernel
theorem dX12_laysWork_28 : decode cX12_laysWork 28 = .ok (.iadd, 1) := by decide +kernel
theorem dX12_laysWork_29 : decode cX12_laysWork 29 = .ok (.iaload, 1) := by decide +kernel
theorem dX12_laysWork_30 : decode cX12_laysWork 30 = .ok (.invokevirtual 232, 3) := by decide +kernel
theorem dX12_laysWork_33 : decode cX12_laysWork 33 = .ok (.iconst 0, 1) := by decide +kernel
theorem dX12_laysWork_34 : decode cX12_laysWork 34 = .ok (.istore_n 2, 1) := by decide +kernel
theorem dX12_laysWork_35 : decode cX12_laysWork 35 = .ok (.iload_n 2, 1) := by decide +kernel
theorem dX12_laysWork_36 : decode cX12_laysWork 36 = .ok (.aload_n 0, 1) := by decide +kernel
theorem dX12_laysWork_37 : decode cX12_laysWork 37 = .ok (.invokevirtual 77, 3) := by decide +kernel
theorem dX12_laysWork_40 : decode cX12_laysWork 40 = .ok (.if_icmp .ge 68, 3) := by decide +kernel
theorem dX12_laysWork_43 : decode cX12_laysWork 43 = .ok (.aload_n 0, 1) := by decide +kernel
theorem dX12_laysWork_44 : decode cX12_laysWork 44 = .ok (.iload_n 2, 1) := by decide +kernel
theorem dX12_laysWork_45 : decode cX12_laysWork 45 = .ok (.invokevirtual 285, 3) := by decide +kernel
theorem dX12_laysWork_48 : decode cX12_laysWork 48 = .ok (.aload_n 0, 1) := by decide +kernel
theorem dX12_laysWork_49 : decode cX12_laysWork 49 = .ok (.getfield 35, 3) := by decide +kernel
theorem dX12_laysWork_52 : decode cX12_laysWork 52 = .ok (.iconst 3, 1) := by decide +kernel
theorem dX12_laysWork_53 : decode cX12_laysWork 53 = .ok (.iload_n 1, 1) := by decide +kernel
theorem dX12_laysWork_54 : decode cX12_laysWork 54 = .ok (.imul, 1) := by decide +kernel
theorem dX12_laysWork_55 : decode cX12_laysWork 55 = .ok (.iload_n 2, 1) := by decide +kernel
theorem dX12_laysWork_56 : decode cX12_laysWork 56 = .ok (.iadd, 1) := by decide +kernel
theorem dX12_laysWork_57 : decode cX12_laysWork 57 = .ok (.aload_n 0, 1) := by decide +kernel
theorem dX12_laysWork_58 : decode cX12_laysWork 58 = .ok (.getfield 263, 3) := by decide +kernel
theorem dX12_laysWork_61 : decode cX12_laysWork 61 = .ok (.ifCond .ne 7, 3) := by decide +kernel
theorem dX12_laysWork_64 : decode cX12_laysWork 64 = .ok (.iconst 0, 1) := by decide +kernel
theorem dX12_laysWork_65 : decode cX12_laysWork 65 = .ok (.goto 36, 3) := by decide +kernel
theorem dX12_laysWork_68 : decode cX12_laysWork 68 = .ok (.aload_n 0, 1) := by decide +kernel
theorem dX12_laysWork_69 : decode cX12_laysWork 69 = .ok (.getfield 7, 3) := by decide +kernel
theorem dX12_laysWork_72 : decode cX12_laysWork 72 = .ok (.bipush 11, 2) := by decide +kernel
theorem dX12_laysWork_74 : decode cX12_laysWork 74 = .ok (.iaload, 1) := by decide +kernel
theorem dX12_laysWork_75 : decode cX12_laysWork 75 = .ok (.aload_n 0, 1) := by decide +kernel
theorem dX12_laysWork_76 : decode cX12_laysWork 76 = .ok (.iload_n 2, 1) := by decide +kernel
theorem dX12_laysWork_77 : decode cX12_laysWork 77 = .ok (.aload_n 0, 1) := by decide +kernel
theorem dX12_laysWork_78 : decode cX12_laysWork 78 = .ok (.getfield 7, 3) := by decide +kernel
theorem dX12_laysWork_81 : decode cX12_laysWork 81 = .ok (.bipush 6, 2) := by decide +kernel
theorem dX12_laysWork_83 : decode cX12_laysWork 83 = .ok (.iaload, 1) := by decide +kernel
theorem dX12_laysWork_84 : decode cX12_laysWork 84 = .ok (.invokevirtual 235, 3) := by decide +kernel
theorem dX12_laysWork_87 : decode cX12_laysWork 87 = .ok (.iadd, 1) := by decide +kernel
theorem dX12_laysWork_88 : decode cX12_laysWork 88 = .ok (.aload_n 0, 1) := by decide +kernel
theorem dX12_laysWork_89 : decode cX12_laysWork 89 = .ok (.getfield 7, 3) := by decide +kernel
theorem dX12_laysWork_92 : decode cX12_laysWork 92 = .ok (.bipush 12, 2) := by decide +kernel
theorem dX12_laysWork_94 : decode cX12_laysWork 94 = .ok (.iaload, 1) := by decide +kernel
theorem dX12_laysWork_95 : decode cX12_laysWork 95 = .ok (.aload_n 0, 1) := by decide +kernel
theorem dX12_laysWork_96 : decode cX12_laysWork 96 = .ok (.getfield 263, 3) := by decide +kernel
theorem dX12_laysWork_99 : decode cX12_laysWork 99 = .ok (.imul, 1) := by decide +kernel
theorem dX12_laysWork_100 : decode cX12_laysWork 100 = .ok (.iadd, 1) := by decide +kernel
theorem dX12_laysWork_101 : decode cX12_laysWork 101 = .ok (.iastore, 1) := by decide +kernel
theorem dX12_laysWork_102 : decode cX12_laysWork 102 = .ok (.iinc 2 1, 3) := by decide +kernel
theorem dX12_laysWork_105 : decode cX12_laysWork 105 = .ok (.goto (-70), 3) := by decide +kernel
theorem dX12_laysWork_108 : decode cX12_laysWork 108 = .ok (.iinc 1 1, 3) := by decide +kernel
theorem dX12_laysWork_111 : decode cX12_laysWork 111 = .ok (.goto (-109), 3) := by decide +kernel
theorem dX12_laysWork_114 : decode cX12_laysWork 114 = .ok (.return_, 1) := by decide +kernel
theorem dX12_whenRoom_0 : decode cX12_whenRoom 0 = .ok (.aload_n 0, 1) := by decide +kernel
theorem dX12_whenRoom_1 : decode cX12_whenRoom 1 = .ok (.getfield 7, 3) := by decide +kernel
theorem dX12_whenRoom_4 : decode cX12_whenRoom 4 = .ok (.bipush 9, 2) := by decide +kernel
theorem dX12_whenRoom_6 : decode cX12_whenRoom 6 = .ok (.iload_n 2, 1) := by decide +kernel
theorem dX12_whenRoom_7 : decode cX12_whenRoom 7 = .ok (.iadd, 1) := by decide +kernel
theorem dX12_whenRoom_8 : decode cX12_whenRoom 8 = .ok (.iaload, 1) := by decide +kernel
theorem dX12_whenRoom_9 : decode cX12_whenRoom 9 = .ok (.istore_n 3, 1) := by decide +kernel
theorem dX12_whenRoom_10 : decode cX12_whenRoom 10 = .ok (.iload_n 1, 1) := by decide +kernel
theorem dX12_whenRoom_11 : decode cX12_whenRoom 11 = .ok (.iconst 1, 1) := by decide +kernel
theorem dX12_whenRoom_12 : decode cX12_whenRoom 12 = .ok (.iload_n 3, 1) := by decide +kernel
theorem dX12_whenRoom_13 : decode cX12_whenRoom 13 = .ok (.invokestatic 291, 3) := by decide +kernel
theorem dX12_whenRoom_16 : decode cX12_whenRoom 16 = .ok (.if_icmp .ge 5, 3) := by decide +kernel
theorem dX12_whenRoom_19 : decode cX12_whenRoom 19 = .ok (.iconst 0, 1) := by decide +kernel
theorem dX12_whenRoom_20 : decode cX12_whenRoom 20 = .ok (.ireturn, 1) := by decide +kernel
theorem dX12_whenRoom_21 : decode cX12_whenRoom 21 = .ok (.iload_n 3, 1) := by decide +kernel
theorem dX12_whenRoom_22 : decode cX12_whenRoom 22 = .ok (.ifCond .ne 20, 3) := by decide +kernel
theorem dX12_whenRoom_25 : decode cX12_whenRoom 25 = .ok (.aload_n 0, 1) := by decide +kernel
theorem dX12_whenRoom_26 : decode cX12_whenRoom 26 = .ok (.getfield 44, 3) := by decide +kernel
theorem dX12_whenRoom_29 : decode cX12_whenRoom 29 = .ok (.iconst 3, 1) := by decide +kernel
theorem dX12_whenRoom_30 : decode cX12_whenRoom 30 = .ok (.iload_n 1, 1) := by decide +kernel
theorem dX12_whenRoom_31 : decode cX12_whenRoom 31 = .ok (.iconst 1, 1) := by decide +kernel
theorem dX12_whenRoom_32 : decode cX12_whenRoom 32 = .ok (.isub, 1) := by decide +kernel
theorem dX12_whenRoom_33 : decode cX12_whenRoom 33 = .ok (.imul, 1) := by decide +kernel
theorem dX12_whenRoom_34 : decode cX12_whenRoom 34 = .ok (.iload_n 2, 1) := by decide +kernel
theorem dX12_whenRoom_35 : decode cX12_whenRoom 35 = .ok (.iadd, 1) := by decide +kernel
theorem dX12_whenRoom_36 : decode cX12_whenRoom 36 = .ok (.iconst 1, 1) := by decide +kernel
theorem dX12_whenRoom_37 : decode cX12_whenRoom 37 = .ok (.iadd, 1) := by decide +kernel
theorem dX12_whenRoom_38 : decode cX12_whenRoom 38 = .ok (.iaload, 1) := by decide +kernel
theorem dX12_whenRoom_39 : decode cX12_whenRoom 39 = .ok (.goto 17, 3) := by decide +kernel
theorem dX12_whenRoom_42 : decode cX12_whenRoom 42 = .ok (.aload_n 0, 1) := by decide +kernel
theorem dX12_whenRoom_43 : decode cX12_whenRoom 43 = .ok (.getfield 41, 3) := by decide +kernel
theorem dX12_whenRoom_46 : decode cX12_whenRoom 46 = .ok (.iconst 3, 1) := by decide +kernel
theorem dX12_whenRoom_47 : decode cX12_whenRoom 47 = .ok (.iload_n 1, 1) := by decide +kernel
theorem dX12_whenRoom_48 : decode cX12_whenRoom 48 = .ok (.iload_n 3, 1) := by decide +kernel
theorem dX12_whenRoom_49 : decode cX12_whenRoom 49 = .ok (.isub, 1) := by decide +kernel
theorem dX12_whenRoom_50 : decode cX12_whenRoom 50 = .ok (.imul, 1) := by decide +kernel
theorem dX12_whenRoom_51 : decode cX12_whenRoom 51 = .ok (.iload_n 2, 1) := by decide +kernel
theorem dX12_whenRoom_52 : decode cX12_whenRoom 52 = .ok (.iadd, 1) := by decide +kernel
theorem dX12_whenRoom_53 : decode cX12_whenRoom 53 = .ok (.iconst 1, 1) := by decide +kernel
theorem dX12_whenRoom_54 : decode cX12_whenRoom 54 = .ok (.iadd, 1) := by decide +kernel
theorem dX12_whenRoom_55 : decode cX12_whenRoom 55 = .ok (.iaload, 1) := by decide +kernel
theorem dX12_whenRoom_56 : decode cX12_whenRoom 56 = .ok (.ireturn, 1) := by decide +kernel
theorem dX12_laysTimes_0 : decode cX12_laysTimes 0 = .ok (.iconst 0, 1) := by decide +kernel
theorem dX12_laysTimes_1 : decode cX12_laysTimes 1 = .ok (.istore_n 1, 1) := by decide +kernel
theorem dX12_laysTimes_2 : decode cX12_laysTimes 2 = .ok (.iload_n 1, 1) := by decide +kernel
theorem dX12_laysTimes_3 : decode cX12_laysTimes 3 = .ok (.aload_n 0, 1) := by decide +kernel
theorem dX12_laysTimes_4 : decode cX12_laysTimes 4 = .ok (.getfield 7, 3) := by decide +kernel
theorem dX12_laysTimes_7 : decode cX12_laysTimes 7 = .ok (.iconst 5, 1) := by decide +kernel
theorem dX12_laysTimes_8 : decode cX12_laysTimes 8 = .ok (.iaload, 1) := by decide +kernel
theorem dX12_laysTimes_9 : decode cX12_laysTimes 9 = .ok (.if_icmp .ge 133, 3) := by decide +kernel
theorem dX12_laysTimes_12 : decode cX12_laysTimes 12 = .ok (.iconst 0, 1) := by decide +kernel
theorem dX12_laysTimes_13 : decode cX12_laysTimes 13 = .ok (.istore_n 2, 1) := by decide +kernel
theorem dX12_laysTimes_14 : decode cX12_laysTimes 14 = .ok (.iload_n 2, 1) := by decide +kernel
theorem dX12_laysTimes_15 : decode cX12_laysTimes 15 = .ok (.aload_n 0, 1) := by decide +kernel
theorem dX12_laysTimes_16 : decode cX12_laysTimes 16 = .ok (.invokevirtual 77, 3) := by decide +kernel
theorem dX12_laysTimes_19 : decode cX12_laysTimes 19 = .ok (.if_icmp .ge 117, 3) := by decide +kernel
theorem dX12_laysTimes_22 : decode cX12_laysTimes 22 = .ok (.iconst 3, 1) := by decide +kernel
theorem dX12_laysTimes_23 : decode cX12_laysTimes 23 = .ok (.iload_n 1, 1) := by decide +kernel
theorem dX12_laysTimes_24 : decode cX12_laysTimes 24 = .ok (.imul, 1) := by decide +kernel
theorem dX12_laysTimes_25 : decode cX12_laysTimes 25 = .ok (.iload_n 2, 1) := by decide +kernel
theorem dX12_laysTimes_26 : decode cX12_laysTimes 26 = .ok (.iadd, 1) := by decide +kernel
theorem dX12_laysTimes_27 : decode cX12_laysTimes 27 = .ok (.istore_n 3, 1) := by decide +kernel
theorem dX12_laysTimes_28 : decode cX12_laysTimes 28 = .ok (.iload_n 2, 1) := by decide +kernel
theorem dX12_laysTimes_29 : decode cX12_laysTimes 29 = .ok (.ifCond .ne 7, 3) := by decide +kernel
theorem dX12_laysTimes_32 : decode cX12_laysTimes 32 = .ok (.iconst 0, 1) := by decide +kernel
theorem dX12_laysTimes_33 : decode cX12_laysTimes 33 = .ok (.goto 11, 3) := by decide +kernel
theorem dX12_laysTimes_36 : decode cX12_laysTimes 36 = .ok (.aload_n 0, 1) := by decide +kernel
theorem dX12_laysTimes_37 : decode cX12_laysTimes 37 = .ok (.getfield 44, 3) := by decide +kernel
theorem dX12_laysTimes_40 : decode cX12_laysTimes 40 = .ok (.iload_n 3, 1) := by decide +kernel
theorem dX12_laysTimes_41 : decode cX12_laysTimes 41 = .ok (.iconst 1, 1) := by decide +kernel
theorem dX12_laysTimes_42 : decode cX12_laysTimes 42 = .ok (.isub, 1) := by decide +kernel
theorem dX12_laysTimes_43 : decode cX12_laysTimes 43 = .ok (.iaload, 1) := by decide +kernel
theorem dX12_laysTimes_44 : decode cX12_laysTimes 44 = .ok (.istore 4, 2) := by decide +kernel
theorem dX12_laysTimes_46 : decode cX12_laysTimes 46 = .ok (.aload_n 0, 1) := by decide +kernel
theorem dX12_laysTimes_47 : decode cX12_laysTimes 47 = .ok (.getfield 41, 3) := by decide +kernel
theorem dX12_laysTimes_50 : decode cX12_laysTimes 50 = .ok (.iload_n 3, 1) := by decide +kernel
theorem dX12_laysTimes_51 : decode cX12_laysTimes 51 = .ok (.iload_n 1, 1) := by decide +kernel
theorem dX12_laysTimes_52 : decode cX12_laysTimes 52 = .ok (.ifCond .ne 8, 3) := by decide +kernel
theorem dX12_laysTimes_55 : decode cX12_laysTimes 55 = .ok (.iload 4, 2) := by decide +kernel
theorem dX12_laysTimes_57 : decode cX12_laysTimes 57 = .ok (.goto 16, 3) := by decide +kernel
theorem dX12_laysTimes_60 : decode cX12_laysTimes 60 = .ok (.iload 4, 2) := by decide +kernel
theorem dX12_laysTimes_62 : decode cX12_laysTimes 62 = .ok (.aload_n 0, 1) := by decide +kernel
theorem dX12_laysTimes_63 : decode cX12_laysTimes 63 = .ok (.getfield 44, 3) := by decide +kernel
theorem dX12_laysTimes_66 : decode cX12_laysTimes 66 = .ok (.iload_n 3, 1) := by decide +kernel
theorem dX12_laysTimes_67 : decode cX12_laysTimes 67 = .ok (.iconst 3, 1) := by decide +kernel
theorem dX12_laysTimes_68 : decode cX12_laysTimes 68 = .ok (.isub, 1) := by decide +kernel
theorem dX12_laysTimes_69 : decode cX12_laysTimes 69 = .ok (.iaload, 1) := by decide +kernel
theorem dX12_laysTimes_70 : decode cX12_laysTimes 70 = .ok (.invokestatic 291, 3) := by decide +kernel
theorem dX12_laysTimes_73 : decode cX12_laysTimes 73 = .ok (.iastore, 1) := by decide +kernel
theorem dX12_laysTimes_74 : decode cX12_laysTimes 74 = .ok (.aload_n 0, 1) := by decide +kernel
theorem dX12_laysTimes_75 : decode cX12_laysTimes 75 = .ok (.getfield 41, 3) := by decide +kernel
theorem dX12_laysTimes_78 : decode cX12_laysTimes 78 = .ok (.iload_n 3, 1) := by decide +kernel
theorem dX12_laysTimes_79 : decode cX12_laysTimes 79 = .ok (.iaload, 1) := by decide +kernel
theorem dX12_laysTimes_80 : decode cX12_laysTimes 80 = .ok (.aload_n 0, 1) := by decide +kernel
theorem dX12_laysTimes_81 : decode cX12_laysTimes 81 = .ok (.getfield 35, 3) := by decide +kernel
theorem dX12_laysTimes_84 : decode cX12_laysTimes 84 = .ok (.iconst 3, 1) := by decide +kernel
theorem dX12_laysTimes_85 : decode cX12_laysTimes 85 = .ok (.aload_n 0, 1) := by decide +kernel
theorem dX12_laysTimes_86 : decode cX12_laysTimes 86 = .ok (.getfield 38, 3) := by decide +kernel
theorem dX12_laysTimes_89 : decode cX12_laysTimes 89 = .ok (.iload_n 1, 1) := by decide +kernel
theorem dX12_laysTimes_90 : decode cX12_laysTimes 90 = .ok (.iaload, 1) := by decide +kernel
theorem dX12_laysTimes_91 : decode cX12_laysTimes 91 = .ok (.imul, 1) := by decide +kernel
theorem dX12_laysTimes_92 : decode cX12_laysTimes 92 = .ok (.iload_n 2, 1) := by decide +kernel
theorem dX12_laysTimes_93 : decode cX12_laysTimes 93 = .ok (.iadd, 1) := by decide +kernel
theorem dX12_laysTimes_94 : decode cX12_laysTimes 94 = .ok (.iaload, 1) := by decide +kernel
theorem dX12_laysTimes_95 : decode cX12_laysTimes 95 = .ok (.iadd, 1) := by decide +kernel
theorem dX12_laysTimes_96 : decode cX12_laysTimes 96 = .ok (.istore 5, 2) := by decide +kernel
theorem dX12_laysTimes_98 : decode cX12_laysTimes 98 = .ok (.aload_n 0, 1) := by decide +kernel
theorem dX12_laysTimes_99 : decode cX12_laysTimes 99 = .ok (.getfield 44, 3) := by decide +kernel
theorem dX12_laysTimes_102 : decode cX12_laysTimes 102 = .ok (.iload_n 3, 1) := by decide +kernel
theorem dX12_laysTimes_103 : decode cX12_laysTimes 103 = .ok (.iload_n 2, 1) := by decide +kernel
theorem dX12_laysTimes_104 : decode cX12_laysTimes 104 = .ok (.aload_n 0, 1) := by decide +kernel
theorem dX12_laysTimes_105 : decode cX12_laysTimes 105 = .ok (.invokevirtual 77, 3) := by decide +kernel
theorem dX12_laysTimes_108 : decode cX12_laysTimes 108 = .ok (.iconst 1, 1) := by decide +kernel
theorem dX12_laysTimes_109 : decode cX12_laysTimes 109 = .ok (.isub, 1) := by decide +kernel
theorem dX12_laysTimes_110 : decode cX12_laysTimes 110 = .ok (.if_icmp .ne 8, 3) := by decide +kernel
theorem dX12_laysTimes_113 : decode cX12_laysTimes 113 = .ok (.iload 5, 2) := by decide +kernel
theorem dX12_laysTimes_115 : decode cX12_laysTimes 115 = .ok (.goto 14, 3) := by decide +kernel
theorem dX12_laysTimes_118 : decode cX12_laysTimes 118 = .ok (.iload 5, 2) := by decide +kernel
theorem dX12_laysTimes_120 : decode cX12_laysTimes 120 = .ok (.aload_n 0, 1) := by decide +kernel
theorem dX12_laysTimes_121 : decode cX12_laysTimes 121 = .ok (.iload_n 1, 1) := by decide +kernel
theorem dX12_laysTimes_122 : decode cX12_laysTimes 122 = .ok (.iload_n 2, 1) := by decide +kernel
theorem dX12_laysTimes_123 : decode cX12_laysTimes 123 = .ok (.invokevirtual 294, 3) := by decide +kernel
theorem dX12_laysTimes_126 : decode cX12_laysTimes 126 = .ok (.invokestatic 291, 3) := by decide +kernel
theorem dX12_laysTimes_129 : decode cX12_laysTimes 129 = .ok (.iastore, 1) := by decide +kernel
theorem dX12_laysTimes_130 : decode cX12_laysTimes 130 = .ok (.iinc 2 1, 3) := by decide +kernel
theorem dX12_laysTimes_133 : decode cX12_laysTimes 133 = .ok (.goto (-119), 3) := by decide +kernel
theorem dX12_laysTimes_136 : decode cX12_laysTimes 136 = .ok (.iinc 1 1, 3) := by decide +kernel
theorem dX12_laysTimes_139 : decode cX12_laysTimes 139 = .ok (.goto (-137), 3) := by decide +kernel
theorem dX12_laysTimes_142 : decode cX12_laysTimes 142 = .ok (.return_, 1) := by decide +kernel
theorem dX12_laysSchedule_0 : decode cX12_laysSchedule 0 = .ok (.aload_n 0, 1) := by decide +kernel
theorem dX12_laysSchedule_1 : decode cX12_laysSchedule 1 = .ok (.invokevirtual 297, 3) := by decide +kernel
theorem dX12_laysSchedule_4 : decode cX12_laysSchedule 4 = .ok (.aload_n 0, 1) := by decide +kernel
theorem dX12_laysSchedule_5 : decode cX12_laysSchedule 5 = .ok (.invokevirtual 300, 3) := by decide +kernel
theorem dX12_laysSchedule_8 : decode cX12_laysSchedule 8 = .ok (.return_, 1) := by decide +kernel
theorem dX12_completes_0 : decode cX12_completes 0 = .ok (.aload_n 0, 1) := by decide +kernel
theorem dX12_completes_1 : decode cX12_completes 1 = .ok (.getfield 44, 3) := by decide +kernel
theorem dX12_completes_4 : decode cX12_completes 4 = .ok (.iconst 3, 1) := by decide +kernel
theorem dX12_completes_5 : decode cX12_completes 5 = .ok (.iload_n 1, 1) := by decide +kernel
theorem dX12_completes_6 : decode cX12_completes 6 = .ok (.imul, 1) := by decide +kernel
theorem dX12_completes_7 : decode cX12_completes 7 = .ok (.aload_n 0, 1) := by decide +kernel
theorem dX12_completes_8 : decode cX12_completes 8 = .ok (.invokevirtual 77, 3) := by decide +kernel
theorem dX12_completes_11 : decode cX12_completes 11 = .ok (.iadd, 1) := by decide +kernel
theorem dX12_completes_12 : decode cX12_completes 12 = .ok (.iconst 1, 1) := by decide +kernel
theorem dX12_completes_13 : decode cX12_completes 13 = .ok (.isub, 1) := by decide +kernel
theorem dX12_completes_14 : decode cX12_completes 14 = .ok (.iaload, 1) := by decide +kernel
theorem dX12_completes_15 : decode cX12_completes 15 = .ok (.ireturn, 1) := by decide +kernel
theorem dX12_tardiness_0 : decode cX12_tardiness 0 = .ok (.iconst 0, 1) := by decide +kernel
theorem dX12_tardiness_1 : decode cX12_tardiness 1 = .ok (.istore_n 1, 1) := by decide +kernel
theorem dX12_tardiness_2 : decode cX12_tardiness 2 = .ok (.iconst 0, 1) := by decide +kernel
theorem dX12_tardiness_3 : decode cX12_tardiness 3 = .ok (.istore_n 2, 1) := by decide +kernel
theorem dX12_tardiness_4 : decode cX12_tardiness 4 = .ok (.iload_n 2, 1) := by decide +kernel
theorem dX12_tardiness_5 : decode cX12_tardiness 5 = .ok (.aload_n 0, 1) := by decide +kernel
theorem dX12_tardiness_6 : decode cX12_tardiness 6 = .ok (.getfield 7, 3) := by decide +kernel
theorem dX12_tardiness_9 : decode cX12_tardiness 9 = .ok (.iconst 5, 1) := by decide +kernel
theorem dX12_tardiness_10 : decode cX12_tardiness 10 = .ok (.iaload, 1) := by decide +kernel
theorem dX12_tardiness_11 : decode cX12_tardiness 11 = .ok (.if_icmp .ge 72, 3) := by decide +kernel
theorem dX12_tardiness_14 : decode cX12_tardiness 14 = .ok (.iconst 0, 1) := by decide +kernel
theorem dX12_tardiness_15 : decode cX12_tardiness 15 = .ok (.istore_n 3, 1) := by decide +kernel
theorem dX12_tardiness_16 : decode cX12_tardiness 16 = .ok (.iload_n 3, 1) := by decide +kernel
theorem dX12_tardiness_17 : decode cX12_tardiness 17 = .ok (.aload_n 0, 1) := by decide +kernel
theorem dX12_tardiness_18 : decode cX12_tardiness 18 = .ok (.getfield 7, 3) := by decide +kernel
theorem dX12_tardiness_21 : decode cX12_tardiness 21 = .ok (.iconst 4, 1) := by decide +kernel
theorem dX12_tardiness_22 : decode cX12_tardiness 22 = .ok (.iaload, 1) := by decide +kernel
theorem dX12_tardiness_23 : decode cX12_tardiness 23 = .ok (.if_icmp .ge 54, 3) := by decide +kernel
theorem dX12_tardiness_26 : decode cX12_tardiness 26 = .ok (.iload_n 1, 1) := by decide +kernel
theorem dX12_tardiness_27 : decode cX12_tardiness 27 = .ok (.aload_n 0, 1) := by decide +kernel
theorem dX12_tardiness_28 : decode cX12_tardiness 28 = .ok (.getfield 7, 3) := by decide +kernel
theorem dX12_tardiness_31 : decode cX12_tardiness 31 = .ok (.sipush 461, 3) := by decide +kernel
theorem dX12_tardiness_34 : decode cX12_tardiness 34 = .ok (.aload_n 0, 1) := by decide +kernel
theorem dX12_tardiness_35 : decode cX12_tardiness 35 = .ok (.getfield 38, 3) := by decide +kernel
theorem dX12_tardiness_38 : decode cX12_tardiness 38 = .ok (.iload_n 2, 1) := by decide +kernel
theorem dX12_tardiness_39 : decode cX12_tardiness 39 = .ok (.iaload, 1) := by decide +kernel
theorem dX12_tardiness_40 : decode cX12_tardiness 40 = .ok (.iadd, 1) := by decide +kernel
theorem dX12_tardiness_41 : decode cX12_tardiness 41 = .ok (.iaload, 1) := by decide +kernel
theorem dX12_tardiness_42 : decode cX12_tardiness 42 = .ok (.iload_n 3, 1) := by decide +kernel
theorem dX12_tardiness_43 : decode cX12_tardiness 43 = .ok (.invokestatic 136, 3) := by decide +kernel
theorem dX12_tardiness_46 : decode cX12_tardiness 46 = .ok (.ifCond .eq 22, 3) := by decide +kernel
theorem dX12_tardiness_49 : decode cX12_tardiness 49 = .ok (.iconst 0, 1) := by decide +kernel
theorem dX12_tardiness_50 : decode cX12_tardiness 50 = .ok (.aload_n 0, 1) := by decide +kernel
theorem dX12_tardiness_51 : decode cX12_tardiness 51 = .ok (.iload_n 2, 1) := by decide +kernel
theorem dX12_tardiness_52 : decode cX12_tardiness 52 = .ok (.invokevirtual 303, 3) := by decide +kernel
theorem dX12_tardiness_55 : decode cX12_tardiness 55 = .ok (.aload_n 0, 1) := by decide +kernel
theorem dX12_tardiness_56 : decode cX12_tardiness 56 = .ok (.iload_n 3, 1) := by decide +kernel
theorem dX12_tardiness_57 : decode cX12_tardiness 57 = .ok (.iconst 0, 1) := by decide +kernel
theorem dX12_tardiness_58 : decode cX12_tardiness 58 = .ok (.invokevirtual 107, 3) := by decide +kernel
theorem dX12_tardiness_61 : decode cX12_tardiness 61 = .ok (.isub, 1) := by decide +kernel
theorem dX12_tardiness_62 : decode cX12_tardiness 62 = .ok (.invokestatic 291, 3) := by decide +kernel
theorem dX12_tardiness_65 : decode cX12_tardiness 65 = .ok (.goto 4, 3) := by decide +kernel
theorem dX12_tardiness_68 : decode cX12_tardiness 68 = .ok (.iconst 0, 1) := by decide +kernel
theorem dX12_tardiness_69 : decode cX12_tardiness 69 = .ok (.iadd, 1) := by decide +kernel
theorem dX12_tardiness_70 : decode cX12_tardiness 70 = .ok (.istore_n 1, 1) := by decide +kernel
theorem dX12_tardiness_71 : decode cX12_tardiness 71 = .ok (.iinc 3 1, 3) := by decide +kernel
theorem dX12_tardiness_74 : decode cX12_tardiness 74 = .ok (.goto (-58), 3) := by decide +kernel
theorem dX12_tardiness_77 : decode cX12_tardiness 77 = .ok (.iinc 2 1, 3) := by decide +kernel
theorem dX12_tardiness_80 : decode cX12_tardiness 80 = .ok (.goto (-76), 3) := by decide +kernel
theorem dX12_tardiness_83 : decode cX12_tardiness 83 = .ok (.iload_n 1, 1) := by decide +kernel
theorem dX12_tardiness_84 : decode cX12_tardiness 84 = .ok (.ireturn, 1) := by decide +kernel
theorem dX12_isPartLaid_0 : decode cX12_isPartLaid 0 = .ok (.aload_n 0, 1) := by decide +kernel
theorem dX12_isPartLaid_1 : decode cX12_isPartLaid 1 = .ok (.aload_n 0, 1) := by decide +kernel
theorem dX12_isPartLaid_2 : decode cX12_isPartLaid 2 = .ok (.iload_n 1, 1) := by decide +kernel
theorem dX12_isPartLaid_3 : decode cX12_isPartLaid 3 = .ok (.iload_n 2, 1) := by decide +kernel
theorem dX12_isPartLaid_4 : decode cX12_isPartLaid 4 = .ok (.invokevirtual 260, 3) := by decide +kernel
theorem dX12_isPartLaid_7 : decode cX12_isPartLaid 7 = .ok (.ifCond .eq 7, 3) := by decide +kernel
theorem dX12_isPartLaid_10 : decode cX12_isPartLaid 10 = .ok (.iconst 0, 1) := by decide +kernel
theorem dX12_isPartLaid_11 : decode cX12_isPartLaid 11 = .ok (.goto 4, 3) := by decide +kernel
theorem dX12_isPartLaid_14 : decode cX12_isPartLaid 14 = .ok (.iconst 1, 1) := by decide +kernel
theorem dX12_isPartLaid_15 : decode cX12_isPartLaid 15 = .ok (.putfield 70, 3) := by decide +kernel
theorem dX12_isPartLaid_18 : decode cX12_isPartLaid 18 = .ok (.aload_n 0, 1) := by decide +kernel
theorem dX12_isPartLaid_19 : decode cX12_isPartLaid 19 = .ok (.getfield 70, 3) := by decide +kernel
theorem dX12_isPartLaid_22 : decode cX12_isPartLaid 22 = .ok (.ifCond .le 5, 3) := by decide +kernel
theorem dX12_isPartLaid_25 : decode cX12_isPartLaid 25 = .ok (.iconst 0, 1) := by decide +kernel
theorem dX12_isPartLaid_26 : decode cX12_isPartLaid 26 = .ok (.ireturn, 1) := by decide +kernel
theorem dX12_isPartLaid_27 : decode cX12_isPartLaid 27 = .ok (.aload_n 0, 1) := by decide +kernel
theorem dX12_isPartLaid_28 : decode cX12_isPartLaid 28 = .ok (.invokevirtual 306, 3) := by decide +kernel
theorem dX12_isPartLaid_31 : decode cX12_isPartLaid 31 = .ok (.iconst 1, 1) := by decide +kernel
theorem dX12_isPartLaid_32 : decode cX12_isPartLaid 32 = .ok (.ireturn, 1) := by decide +kernel
theorem dX12_workTime_0 : decode cX12_workTime 0 = .ok (.aload_n 0, 1) := by decide +kernel
theorem dX12_workTime_1 : decode cX12_workTime 1 = .ok (.iload_n 1, 1) := by decide +kernel
theorem dX12_workTime_2 : decode cX12_workTime 2 = .ok (.iload_n 2, 1) := by decide +kernel
theorem dX12_workTime_3 : decode cX12_workTime 3 = .ok (.invokevirtual 309, 3) := by decide +kernel
theorem dX12_workTime_6 : decode cX12_workTime 6 = .ok (.ifCond .eq 16, 3) := by decide +kernel
theorem dX12_workTime_9 : decode cX12_workTime 9 = .ok (.aload_n 0, 1) := by decide +kernel
theorem dX12_workTime_10 : decode cX12_workTime 10 = .ok (.getfield 35, 3) := by decide +kernel
theorem dX12_workTime_13 : decode cX12_workTime 13 = .ok (.iconst 3, 1) := by decide +kernel
theorem dX12_workTime_14 : decode cX12_workTime 14 = .ok (.iload_n 1, 1) := by decide +kernel
theorem dX12_workTime_15 : decode cX12_workTime 15 = .ok (.imul, 1) := by decide +kernel
theorem dX12_workTime_16 : decode cX12_workTime 16 = .ok (.iload_n 2, 1) := by decide +kernel
theorem dX12_workTime_17 : decode cX12_workTime 17 = .ok (.iadd, 1) := by decide +kernel
theorem dX12_workTime_18 : decode cX12_workTime 18 = .ok (.iaload, 1) := by decide +kernel
theorem dX12_workTime_19 : decode cX12_workTime 19 = .ok (.goto 4, 3) := by decide +kernel
theorem dX12_workTime_22 : decode cX12_workTime 22 = .ok (.iconst 0, 1) := by decide +kernel
theorem dX12_workTime_23 : decode cX12_workTime 23 = .ok (.ireturn, 1) := by decide +kernel
theorem dX12_startTime_0 : decode cX12_startTime 0 = .ok (.aload_n 0, 1) := by decide +kernel
theorem dX12_startTime_1 : decode cX12_startTime 1 = .ok (.iload_n 1, 1) := by decide +kernel
theorem dX12_startTime_2 : decode cX12_startTime 2 = .ok (.iload_n 2, 1) := by decide +kernel
theorem dX12_startTime_3 : decode cX12_startTime 3 = .ok (.invokevirtual 309, 3) := by decide +kernel
theorem dX12_startTime_6 : decode cX12_startTime 6 = .ok (.ifCond .eq 16, 3) := by decide +kernel
theorem dX12_startTime_9 : decode cX12_startTime 9 = .ok (.aload_n 0, 1) := by decide +kernel
theorem dX12_startTime_10 : decode cX12_startTime 10 = .ok (.getfield 41, 3) := by decide +kernel
theorem dX12_startTime_13 : decode cX12_startTime 13 = .ok (.iconst 3, 1) := by decide +kernel
theorem dX12_startTime_14 : decode cX12_startTime 14 = .ok (.iload_n 1, 1) := by decide +kernel
theorem dX12_startTime_15 : decode cX12_startTime 15 = .ok (.imul, 1) := by decide +kernel
theorem dX12_startTime_16 : decode cX12_startTime 16 = .ok (.iload_n 2, 1) := by decide +kernel
theorem dX12_startTime_17 : decode cX12_startTime 17 = .ok (.iadd, 1) := by decide +kernel
theorem dX12_startTime_18 : decode cX12_startTime 18 = .ok (.iaload, 1) := by decide +kernel
theorem dX12_startTime_19 : decode cX12_startTime 19 = .ok (.goto 4, 3) := by decide +kernel
theorem dX12_startTime_22 : decode cX12_startTime 22 = .ok (.iconst 0, 1) := by decide +kernel
theorem dX12_startTime_23 : decode cX12_startTime 23 = .ok (.ireturn, 1) := by decide +kernel
theorem dX12_leaveTime_0 : decode cX12_leaveTime 0 = .ok (.aload_n 0, 1) := by decide +kernel
theorem dX12_leaveTime_1 : decode cX12_leaveTime 1 = .ok (.iload_n 1, 1) := by decide +kernel
theorem dX12_leaveTime_2 : decode cX12_leaveTime 2 = .ok (.iload_n 2, 1) := by decide +kernel
theorem dX12_leaveTime_3 : decode cX12_leaveTime 3 = .ok (.invokevirtual 309, 3) := by decide +kernel
theorem dX12_leaveTime_6 : decode cX12_leaveTime 6 = .ok (.ifCond .eq 16, 3) := by decide +kernel
theorem dX12_leaveTime_9 : decode cX12_leaveTime 9 = .ok (.aload_n 0, 1) := by decide +kernel
theorem dX12_leaveTime_10 : decode cX12_leaveTime 10 = .ok (.getfield 44, 3) := by decide +kernel
theorem dX12_leaveTime_13 : decode cX12_leaveTime 13 = .ok (.iconst 3, 1) := by decide +kernel
theorem dX12_leaveTime_14 : decode cX12_leaveTime 14 = .ok (.iload_n 1, 1) := by decide +kernel
theorem dX12_leaveTime_15 : decode cX12_leaveTime 15 = .ok (.imul, 1) := by decide +kernel
theorem dX12_leaveTime_16 : decode cX12_leaveTime 16 = .ok (.iload_n 2, 1) := by decide +kernel
theorem dX12_leaveTime_17 : decode cX12_leaveTime 17 = .ok (.iadd, 1) := by decide +kernel
theorem dX12_leaveTime_18 : decode cX12_leaveTime 18 = .ok (.iaload, 1) := by decide +kernel
theorem dX12_leaveTime_19 : decode cX12_leaveTime 19 = .ok (.goto 4, 3) := by decide +kernel
theorem dX12_leaveTime_22 : decode cX12_leaveTime 22 = .ok (.iconst 0, 1) := by decide +kernel
theorem dX12_leaveTime_23 : decode cX12_leaveTime 23 = .ok (.ireturn, 1) := by decide +kernel
theorem dX12_blockedTime_0 : decode cX12_blockedTime 0 = .ok (.aload_n 0, 1) := by decide +kernel
theorem dX12_blockedTime_1 : decode cX12_blockedTime 1 = .ok (.aload_n 0, 1) := by decide +kernel
theorem dX12_blockedTime_2 : decode cX12_blockedTime 2 = .ok (.iload_n 1, 1) := by decide +kernel
theorem dX12_blockedTime_3 : decode cX12_blockedTime 3 = .ok (.invokevirtual 257, 3) := by decide +kernel
theorem dX12_blockedTime_6 : decode cX12_blockedTime 6 = .ok (.ifCond .eq 7, 3) := by decide +kernel
theorem dX12_blockedTime_9 : decode cX12_blockedTime 9 = .ok (.iconst 0, 1) := by decide +kernel
theorem dX12_blockedTime_10 : decode cX12_blockedTime 10 = .ok (.goto 4, 3) := by decide +kernel
theorem dX12_blockedTime_13 : decode cX12_blockedTime 13 = .ok (.iconst 1, 1) := by decide +kernel
theorem dX12_blockedTime_14 : decode cX12_blockedTime 14 = .ok (.putfield 70, 3) := by decide +kernel
theorem dX12_blockedTime_17 : decode cX12_blockedTime 17 = .ok (.aload_n 0, 1) := by decide +kernel
theorem dX12_blockedTime_18 : decode cX12_blockedTime 18 = .ok (.getfield 70, 3) := by decide +kernel
theorem dX12_blockedTime_21 : decode cX12_blockedTime 21 = .ok (.ifCond .le 5, 3) := by decide +kernel
theorem dX12_blockedTime_24 : decode cX12_blockedTime 24 = .ok (.iconst 0, 1) := by decide +kernel
theorem dX12_blockedTime_25 : decode cX12_blockedTime 25 = .ok (.ireturn, 1) := by decide +kernel
theorem dX12_blockedTime_26 : decode cX12_blockedTime 26 = .ok (.aload_n 0, 1) := by decide +kernel
theorem dX12_blockedTime_27 : decode cX12_blockedTime 27 = .ok (.invokevirtual 306, 3) := by decide +kernel
theorem dX12_blockedTime_30 : decode cX12_blockedTime 30 = .ok (.iconst 0, 1) := by decide +kernel
theorem dX12_blockedTime_31 : decode cX12_blockedTime 31 = .ok (.istore_n 2, 1) := by decide +kernel
theorem dX12_blockedTime_32 : decode cX12_blockedTime 32 = .ok (.iconst 0, 1) := by decide +kernel
theorem dX12_blockedTime_33 : decode cX12_blockedTime 33 = .ok (.istore_n 3, 1) := by decide +kernel
theorem dX12_blockedTime_34 : decode cX12_blockedTime 34 = .ok (.iload_n 3, 1) := by decide +kernel
theorem dX12_blockedTime_35 : decode cX12_blockedTime 35 = .ok (.aload_n 0, 1) := by decide +kernel
theorem dX12_blockedTime_36 : decode cX12_blockedTime 36 = .ok (.getfield 7, 3) := by decide +kernel
theorem dX12_blockedTime_39 : decode cX12_blockedTime 39 = .ok (.iconst 5, 1) := by decide +kernel
theorem dX12_blockedTime_40 : decode cX12_blockedTime 40 = .ok (.iaload, 1) := by decide +kernel
theorem dX12_blockedTime_41 : decode cX12_blockedTime 41 = .ok (.if_icmp .ge 42, 3) := by decide +kernel
theorem dX12_blockedTime_44 : decode cX12_blockedTime 44 = .ok (.iconst 3, 1) := by decide +kernel
theorem dX12_blockedTime_45 : decode cX12_blockedTime 45 = .ok (.iload_n 3, 1) := by decide +kernel
theorem dX12_blockedTime_46 : decode cX12_blockedTime 46 = .ok (.imul, 1) := by decide +kernel
theorem dX12_blockedTime_47 : decode cX12_blockedTime 47 = .ok (.iload_n 1, 1) := by decide +kernel
theorem dX12_blockedTime_48 : decode cX12_blockedTime 48 = .ok (.iadd, 1) := by decide +kernel
theorem dX12_blockedTime_49 : decode cX12_blockedTime 49 = .ok (.istore 4, 2) := by decide +kernel
theorem dX12_blockedTime_51 : decode cX12_blockedTime 51 = .ok (.iload_n 2, 1) := by decide +kernel
theorem dX12_blockedTime_52 : decode cX12_blockedTime 52 = .ok (.aload_n 0, 1) := by decide +kernel
theorem dX12_blockedTime_53 : decode cX12_blockedTime 53 = .ok (.getfield 44, 3) := by decide +kernel
theorem dX12_blockedTime_56 : decode cX12_blockedTime 56 = .ok (.iload 4, 2) := by decide +kernel
theorem dX12_blockedTime_58 : decode cX12_blockedTime 58 = .ok (.iaload, 1) := by decide +kernel
theorem dX12_blockedTime_59 : decode cX12_blockedTime 59 = .ok (.aload_n 0, 1) := by decide +kernel
theorem dX12_blockedTime_60 : decode cX12_blockedTime 60 = .ok (.getfield 41, 3) := by decide +kernel
theorem dX12_blockedTime_63 : decode cX12_blockedTime 63 = .ok (.iload 4, 2) := by decide +kernel
theorem dX12_blockedTime_65 : decode cX12_blockedTime 65 = .ok (.iaload, 1) := by decide +kernel
theorem dX12_blockedTime_66 : decode cX12_blockedTime 66 = .ok (.isub, 1) := by decide +kernel
theorem dX12_blockedTime_67 : decode cX12_blockedTime 67 = .ok (.aload_n 0, 1) := by decide +kernel
theorem dX12_blockedTime_68 : decode cX12_blockedTime 68 = .ok (.getfield 35, 3) := by decide +kernel
theorem dX12_blockedTime_71 : decode cX12_blockedTime 71 = .ok (.iload 4, 2) := by decide +kernel
theorem dX12_blockedTime_73 : decode cX12_blockedTime 73 = .ok (.iaload, 1) := by decide +kernel
theorem dX12_blockedTime_74 : decode cX12_blockedTime 74 = .ok (.isub, 1) := by decide +kernel
theorem dX12_blockedTime_75 : decode cX12_blockedTime 75 = .ok (.iadd, 1) := by decide +kernel
theorem dX12_blockedTime_76 : decode cX12_blockedTime 76 = .ok (.istore_n 2, 1) := by decide +kernel
theorem dX12_blockedTime_77 : decode cX12_blockedTime 77 = .ok (.iinc 3 1, 3) := by decide +kernel
theorem dX12_blockedTime_80 : decode cX12_blockedTime 80 = .ok (.goto (-46), 3) := by decide +kernel
theorem dX12_blockedTime_83 : decode cX12_blockedTime 83 = .ok (.iload_n 2, 1) := by decide +kernel
theorem dX12_blockedTime_84 : decode cX12_blockedTime 84 = .ok (.ireturn, 1) := by decide +kernel
theorem dX12_makespan_0 : decode cX12_makespan 0 = .ok (.aload_n 0, 1) := by decide +kernel
theorem dX12_makespan_1 : decode cX12_makespan 1 = .ok (.iconst 0, 1) := by decide +kernel
theorem dX12_makespan_2 : decode cX12_makespan 2 = .ok (.putfield 70, 3) := by decide +kernel
theorem dX12_makespan_5 : decode cX12_makespan 5 = .ok (.aload_n 0, 1) := by decide +kernel
theorem dX12_makespan_6 : decode cX12_makespan 6 = .ok (.invokevirtual 306, 3) := by decide +kernel
theorem dX12_makespan_9 : decode cX12_makespan 9 = .ok (.aload_n 0, 1) := by decide +kernel
theorem dX12_makespan_10 : decode cX12_makespan 10 = .ok (.getfield 7, 3) := by decide +kernel
theorem dX12_makespan_13 : decode cX12_makespan 13 = .ok (.iconst 5, 1) := by decide +kernel
theorem dX12_makespan_14 : decode cX12_makespan 14 = .ok (.iaload, 1) := by decide +kernel
theorem dX12_makespan_15 : decode cX12_makespan 15 = .ok (.ifCond .ne 7, 3) := by decide +kernel
theorem dX12_makespan_18 : decode cX12_makespan 18 = .ok (.iconst 0, 1) := by decide +kernel
theorem dX12_makespan_19 : decode cX12_makespan 19 = .ok (.goto 15, 3) := by decide +kernel
theorem dX12_makespan_22 : decode cX12_makespan 22 = .ok (.aload_n 0, 1) := by decide +kernel
theorem dX12_makespan_23 : decode cX12_makespan 23 = .ok (.aload_n 0, 1) := by decide +kernel
theorem dX12_makespan_24 : decode cX12_makespan 24 = .ok (.getfield 7, 3) := by decide +kernel
theorem dX12_makespan_27 : decode cX12_makespan 27 = .ok (.iconst 5, 1) := by decide +kernel
theorem dX12_makespan_28 : decode cX12_makespan 28 = .ok (.iaload, 1) := by decide +kernel
theorem dX12_makespan_29 : decode cX12_makespan 29 = .ok (.iconst 1, 1) := by decide +kernel
theorem dX12_makespan_30 : decode cX12_makespan 30 = .ok (.isub, 1) := by decide +kernel
theorem dX12_makespan_31 : decode cX12_makespan 31 = .ok (.invokevirtual 303, 3) := by decide +kernel
theorem dX12_makespan_34 : decode cX12_makespan 34 = .ok (.ireturn, 1) := by decide +kernel
theorem dX12_lateness_0 : decode cX12_lateness 0 = .ok (.aload_n 0, 1) := by decide +kernel
theorem dX12_lateness_1 : decode cX12_lateness 1 = .ok (.aload_n 0, 1) := by decide +kernel
theorem dX12_lateness_2 : decode cX12_lateness 2 = .ok (.iload_n 1, 1) := by decide +kernel
theorem dX12_lateness_3 : decode cX12_lateness 3 = .ok (.invokevirtual 113, 3) := by decide +kernel
theorem dX12_lateness_6 : decode cX12_lateness 6 = .ok (.ifCond .ne 7, 3) := by decide +kernel
theorem dX12_lateness_9 : decode cX12_lateness 9 = .ok (.iconst 1, 1) := by decide +kernel
theorem dX12_lateness_10 : decode cX12_lateness 10 = .ok (.goto 18, 3) := by decide +kernel
theorem dX12_lateness_13 : decode cX12_lateness 13 = .ok (.aload_n 0, 1) := by decide +kernel
theorem dX12_lateness_14 : decode cX12_lateness 14 = .ok (.iload_n 1, 1) := by decide +kernel
theorem dX12_lateness_15 : decode cX12_lateness 15 = .ok (.iconst 1, 1) := by decide +kernel
theorem dX12_lateness_16 : decode cX12_lateness 16 = .ok (.invokevirtual 107, 3) := by decide +kernel
theorem dX12_lateness_19 : decode cX12_lateness 19 = .ok (.iconst 1, 1) := by decide +kernel
theorem dX12_lateness_20 : decode cX12_lateness 20 = .ok (.if_icmp .eq 7, 3) := by decide +kernel
theorem dX12_lateness_23 : decode cX12_lateness 23 = .ok (.iconst 2, 1) := by decide +kernel
theorem dX12_lateness_24 : decode cX12_lateness 24 = .ok (.goto 4, 3) := by decide +kernel
theorem dX12_lateness_27 : decode cX12_lateness 27 = .ok (.iconst 0, 1) := by decide +kernel
theorem dX12_lateness_28 : decode cX12_lateness 28 = .ok (.putfield 70, 3) := by decide +kernel
theorem dX12_lateness_31 : decode cX12_lateness 31 = .ok (.aload_n 0, 1) := by decide +kernel
theorem dX12_lateness_32 : decode cX12_lateness 32 = .ok (.getfield 70, 3) := by decide +kernel
theorem dX12_lateness_35 : decode cX12_lateness 35 = .ok (.ifCond .le 5, 3) := by decide +kernel
theorem dX12_lateness_38 : decode cX12_lateness 38 = .ok (.iconst 0, 1) := by decide +kernel
theorem dX12_lateness_39 : decode cX12_lateness 39 = .ok (.ireturn, 1) := by decide +kernel
theorem dX12_lateness_40 : decode cX12_lateness 40 = .ok (.aload_n 0, 1) := by decide +kernel
theorem dX12_lateness_41 : decode cX12_lateness 41 = .ok (.invokevirtual 306, 3) := by decide +kernel
theorem dX12_lateness_44 : decode cX12_lateness 44 = .ok (.aload_n 0, 1) := by decide +kernel
theorem dX12_lateness_45 : decode cX12_lateness 45 = .ok (.aload_n 0, 1) := by decide +kernel
theorem dX12_lateness_46 : decode cX12_lateness 46 = .ok (.iload_n 1, 1) := by decide +kernel
theorem dX12_lateness_47 : decode cX12_lateness 47 = .ok (.invokevirtual 139, 3) := by decide +kernel
theorem dX12_lateness_50 : decode cX12_lateness 50 = .ok (.invokevirtual 303, 3) := by decide +kernel
theorem dX12_lateness_53 : decode cX12_lateness 53 = .ok (.aload_n 0, 1) := by decide +kernel
theorem dX12_lateness_54 : decode cX12_lateness 54 = .ok (.iload_n 1, 1) := by decide +kernel
theorem dX12_lateness_55 : decode cX12_lateness 55 = .ok (.iconst 0, 1) := by decide +kernel
theorem dX12_lateness_56 : decode cX12_lateness 56 = .ok (.invokevirtual 107, 3) := by decide +kernel
theorem dX12_lateness_59 : decode cX12_lateness 59 = .ok (.isub, 1) := by decide +kernel
theorem dX12_lateness_60 : decode cX12_lateness 60 = .ok (.ireturn, 1) := by decide +kernel
theorem dX12_lateOrders_0 : decode cX12_lateOrders 0 = .ok (.aload_n 0, 1) := by decide +kernel
theorem dX12_lateOrders_1 : decode cX12_lateOrders 1 = .ok (.iconst 0, 1) := by decide +kernel
theorem dX12_lateOrders_2 : decode cX12_lateOrders 2 = .ok (.putfield 70, 3) := by decide +kernel
theorem dX12_lateOrders_5 : decode cX12_lateOrders 5 = .ok (.aload_n 0, 1) := by decide +kernel
theorem dX12_lateOrders_6 : decode cX12_lateOrders 6 = .ok (.invokevirtual 306, 3) := by decide +kernel
theorem dX12_lateOrders_9 : decode cX12_lateOrders 9 = .ok (.iconst 0, 1) := by decide +kernel
theorem dX12_lateOrders_10 : decode cX12_lateOrders 10 = .ok (.istore_n 1, 1) := by decide +kernel
theorem dX12_lateOrders_11 : decode cX12_lateOrders 11 = .ok (.iconst 0, 1) := by decide +kernel
theorem dX12_lateOrders_12 : decode cX12_lateOrders 12 = .ok (.istore_n 2, 1) := by decide +kernel
theorem dX12_lateOrders_13 : decode cX12_lateOrders 13 = .ok (.iload_n 2, 1) := by decide +kernel
theorem dX12_lateOrders_14 : decode cX12_lateOrders 14 = .ok (.aload_n 0, 1) := by decide +kernel
theorem dX12_lateOrders_15 : decode cX12_lateOrders 15 = .ok (.getfield 7, 3) := by decide +kernel
theorem dX12_lateOrders_18 : decode cX12_lateOrders 18 = .ok (.iconst 4, 1) := by decide +kernel
theorem dX12_lateOrders_19 : decode cX12_lateOrders 19 = .ok (.iaload, 1) := by decide +kernel
theorem dX12_lateOrders_20 : decode cX12_lateOrders 20 = .ok (.if_icmp .ge 44, 3) := by decide +kernel
theorem dX12_lateOrders_23 : decode cX12_lateOrders 23 = .ok (.aload_n 0, 1) := by decide +kernel
theorem dX12_lateOrders_24 : decode cX12_lateOrders 24 = .ok (.iload_n 2, 1) := by decide +kernel
theorem dX12_lateOrders_25 : decode cX12_lateOrders 25 = .ok (.invokevirtual 139, 3) := by decide +kernel
theorem dX12_lateOrders_28 : decode cX12_lateOrders 28 = .ok (.istore_n 3, 1) := by decide +kernel
theorem dX12_lateOrders_29 : decode cX12_lateOrders 29 = .ok (.iload_n 1, 1) := by decide +kernel
theorem dX12_lateOrders_30 : decode cX12_lateOrders 30 = .ok (.iload_n 3, 1) := by decide +kernel
theorem dX12_lateOrders_31 : decode cX12_lateOrders 31 = .ok (.iconst (-1), 1) := by decide +kernel
theorem dX12_lateOrders_32 : decode cX12_lateOrders 32 = .ok (.if_icmp .eq 23, 3) := by decide +kernel
theorem dX12_lateOrders_35 : decode cX12_lateOrders 35 = .ok (.aload_n 0, 1) := by decide +kernel
theorem dX12_lateOrders_36 : decode cX12_lateOrders 36 = .ok (.iload_n 3, 1) := by decide +kernel
theorem dX12_lateOrders_37 : decode cX12_lateOrders 37 = .ok (.invokevirtual 303, 3) := by decide +kernel
theorem dX12_lateOrders_40 : decode cX12_lateOrders 40 = .ok (.aload_n 0, 1) := by decide +kernel
theorem dX12_lateOrders_41 : decode cX12_lateOrders 41 = .ok (.iload_n 2, 1) := by decide +kernel
theorem dX12_lateOrders_42 : decode cX12_lateOrders 42 = .ok (.iconst 0, 1) := by decide +kernel
theorem dX12_lateOrders_43 : decode cX12_lateOrders 43 = .ok (.invokevirtual 107, 3) := by decide +kernel
theorem dX12_lateOrders_46 : decode cX12_lateOrders 46 = .ok (.if_icmp .le 9, 3) := by decide +kernel
theorem dX12_lateOrders_49 : decode cX12_lateOrders 49 = .ok (.iconst 1, 1) := by decide +kernel
theorem dX12_lateOrders_50 : decode cX12_lateOrders 50 = .ok (.iload_n 2, 1) := by decide +kernel
theorem dX12_lateOrders_51 : decode cX12_lateOrders 51 = .ok (.ishl, 1) := by decide +kernel
theorem dX12_lateOrders_52 : decode cX12_lateOrders 52 = .ok (.goto 4, 3) := by decide +kernel
theorem dX12_lateOrders_55 : decode cX12_lateOrders 55 = .ok (.iconst 0, 1) := by decide +kernel
theorem dX12_lateOrders_56 : decode cX12_lateOrders 56 = .ok (.ior, 1) := by decide +kernel
theorem dX12_lateOrders_57 : decode cX12_lateOrders 57 = .ok (.istore_n 1, 1) := by decide +kernel
theorem dX12_lateOrders_58 : decode cX12_lateOrders 58 = .ok (.iinc 2 1, 3) := by decide +kernel
theorem dX12_lateOrders_61 : decode cX12_lateOrders 61 = .ok (.goto (-48), 3) := by decide +kernel
theorem dX12_lateOrders_64 : decode cX12_lateOrders 64 = .ok (.iload_n 1, 1) := by decide +kernel
theorem dX12_lateOrders_65 : decode cX12_lateOrders 65 = .ok (.ireturn, 1) := by decide +kernel
theorem dX12_totalTardiness_0 : decode cX12_totalTardiness 0 = .ok (.aload_n 0, 1) := by decide +kernel
theorem dX12_totalTardiness_1 : decode cX12_totalTardiness 1 = .ok (.iconst 0, 1) := by decide +kernel
theorem dX12_totalTardiness_2 : decode cX12_totalTardiness 2 = .ok (.putfield 70, 3) := by decide +kernel
theorem dX12_totalTardiness_5 : decode cX12_totalTardiness 5 = .ok (.aload_n 0, 1) := by decide +kernel
theorem dX12_totalTardiness_6 : decode cX12_totalTardiness 6 = .ok (.invokevirtual 306, 3) := by decide +kernel
theorem dX12_totalTardiness_9 : decode cX12_totalTardiness 9 = .ok (.aload_n 0, 1) := by decide +kernel
theorem dX12_totalTardiness_10 : decode cX12_totalTardiness 10 = .ok (.invokevirtual 312, 3) := by decide +kernel
theorem dX12_totalTardiness_13 : decode cX12_totalTardiness 13 = .ok (.ireturn, 1) := by decide +kernel
theorem dX12_batchedMany_0 : decode cX12_batchedMany 0 = .ok (.iconst 0, 1) := by decide +kernel
theorem dX12_batchedMany_1 : decode cX12_batchedMany 1 = .ok (.istore_n 1, 1) := by decide +kernel
theorem dX12_batchedMany_2 : decode cX12_batchedMany 2 = .ok (.iconst 0, 1) := by decide +kernel
theorem dX12_batchedMany_3 : decode cX12_batchedMany 3 = .ok (.istore_n 2, 1) := by decide +kernel
theorem dX12_batchedMany_4 : decode cX12_batchedMany 4 = .ok (.iload_n 2, 1) := by decide +kernel
theorem dX12_batchedMany_5 : decode cX12_batchedMany 5 = .ok (.aload_n 0, 1) := by decide +kernel
theorem dX12_batchedMany_6 : decode cX12_batchedMany 6 = .ok (.getfield 7, 3) := by decide +kernel
theorem dX12_batchedMany_9 : decode cX12_batchedMany 9 = .ok (.iconst 5, 1) := by decide +kernel
theorem dX12_batchedMany_10 : decode cX12_batchedMany 10 = .ok (.iaload, 1) := by decide +kernel
theorem dX12_batchedMany_11 : decode cX12_batchedMany 11 = .ok (.if_icmp .ge 25, 3) := by decide +kernel
theorem dX12_batchedMany_14 : decode cX12_batchedMany 14 = .ok (.iload_n 1, 1) := by decide +kernel
theorem dX12_batchedMany_15 : decode cX12_batchedMany 15 = .ok (.aload_n 0, 1) := by decide +kernel
theorem dX12_batchedMany_16 : decode cX12_batchedMany 16 = .ok (.getfield 7, 3) := by decide +kernel
theorem dX12_batchedMany_19 : decode cX12_batchedMany 19 = .ok (.sipush 461, 3) := by decide +kernel
theorem dX12_batchedMany_22 : decode cX12_batchedMany 22 = .ok (.iload_n 2, 1) := by decide +kernel
theorem dX12_batchedMany_23 : decode cX12_batchedMany 23 = .ok (.iadd, 1) := by decide +kernel
theorem dX12_batchedMany_24 : decode cX12_batchedMany 24 = .ok (.iaload, 1) := by decide +kernel
theorem dX12_batchedMany_25 : decode cX12_batchedMany 25 = .ok (.invokestatic 156, 3) := by decide +kernel
theorem dX12_batchedMany_28 : decode cX12_batchedMany 28 = .ok (.iadd, 1) := by decide +kernel
theorem dX12_batchedMany_29 : decode cX12_batchedMany 29 = .ok (.istore_n 1, 1) := by decide +kernel
theorem dX12_batchedMany_30 : decode cX12_batchedMany 30 = .ok (.iinc 2 1, 3) := by decide +kernel
theorem dX12_batchedMany_33 : decode cX12_batchedMany 33 = .ok (.goto (-29), 3) := by decide +kernel
theorem dX12_batchedMany_36 : decode cX12_batchedMany 36 = .ok (.iload_n 1, 1) := by decide +kernel
theorem dX12_batchedMany_37 : decode cX12_batchedMany 37 = .ok (.ireturn, 1) := by decide +kernel
theorem dX12_common_0 : decode cX12_common 0 = .ok (.iload_n 0, 1) := by decide +kernel
theorem dX12_common_1 : decode cX12_common 1 = .ok (.istore_n 2, 1) := by decide +kernel
theorem dX12_common_2 : decode cX12_common 2 = .ok (.iload_n 1, 1) := by decide +kernel
theorem dX12_common_3 : decode cX12_common 3 = .ok (.istore_n 3, 1) := by decide +kernel
theorem dX12_common_4 : decode cX12_common 4 = .ok (.iload_n 3, 1) := by decide +kernel
theorem dX12_common_5 : decode cX12_common 5 = .ok (.ifCond .eq 16, 3) := by decide +kernel
theorem dX12_common_8 : decode cX12_common 8 = .ok (.iload_n 2, 1) := by decide +kernel
theorem dX12_common_9 : decode cX12_common 9 = .ok (.iload_n 3, 1) := by decide +kernel
theorem dX12_common_10 : decode cX12_common 10 = .ok (.irem, 1) := by decide +kernel
theorem dX12_common_11 : decode cX12_common 11 = .ok (.istore 4, 2) := by decide +kernel
theorem dX12_common_13 : decode cX12_common 13 = .ok (.iload_n 3, 1) := by decide +kernel
theorem dX12_common_14 : decode cX12_common 14 = .ok (.istore_n 2, 1) := by decide +kernel
theorem dX12_common_15 : decode cX12_common 15 = .ok (.iload 4, 2) := by decide +kernel
theorem dX12_common_17 : decode cX12_common 17 = .ok (.istore_n 3, 1) := by decide +kernel
theorem dX12_common_18 : decode cX12_common 18 = .ok (.goto (-14), 3) := by decide +kernel
theorem dX12_common_21 : decode cX12_common 21 = .ok (.iload_n 2, 1) := by decide +kernel
theorem dX12_common_22 : decode cX12_common 22 = .ok (.ireturn, 1) := by decide +kernel
theorem dX12_meanTardinessNumerator_0 : decode cX12_meanTardinessNumerator 0 = .ok (.aload_n 0, 1) := by decide +kernel
theorem dX12_meanTardinessNumerator_1 : decode cX12_meanTardinessNumerator 1 = .ok (.iconst 0, 1) := by decide +kernel
theorem dX12_meanTardinessNumerator_2 : decode cX12_meanTardinessNumerator 2 = .ok (.putfield 70, 3) := by decide +kernel
theorem dX12_meanTardinessNumerator_5 : decode cX12_meanTardinessNumerator 5 = .ok (.aload_n 0, 1) := by decide +kernel
theorem dX12_meanTardinessNumerator_6 : decode cX12_meanTardinessNumerator 6 = .ok (.invokevirtual 306, 3) := by decide +kernel
theorem dX12_meanTardinessNumerator_9 : decode cX12_meanTardinessNumerator 9 = .ok (.aload_n 0, 1) := by decide +kernel
theorem dX12_meanTardinessNumerator_10 : decode cX12_meanTardinessNumerator 10 = .ok (.invokevirtual 312, 3) := by decide +kernel
theorem dX12_meanTardinessNumerator_13 : decode cX12_meanTardinessNumerator 13 = .ok (.istore_n 1, 1) := by decide +kernel
theorem dX12_meanTardinessNumerator_14 : decode cX12_meanTardinessNumerator 14 = .ok (.iload_n 1, 1) := by decide +kernel
theorem dX12_meanTardinessNumerator_15 : decode cX12_meanTardinessNumerator 15 = .ok (.ifCond .ne 7, 3) := by decide +kernel
theorem dX12_meanTardinessNumerator_18 : decode cX12_meanTardinessNumerator 18 = .ok (.iconst 0, 1) := by decide +kernel
theorem dX12_meanTardinessNumerator_19 : decode cX12_meanTardinessNumerator 19 = .ok (.goto 13, 3) := by decide +kernel
theorem dX12_meanTardinessNumerator_22 : decode cX12_meanTardinessNumerator 22 = .ok (.iload_n 1, 1) := by decide +kernel
theorem dX12_meanTardinessNumerator_23 : decode cX12_meanTardinessNumerator 23 = .ok (.iload_n 1, 1) := by decide +kernel
theorem dX12_meanTardinessNumerator_24 : decode cX12_meanTardinessNumerator 24 = .ok (.aload_n 0, 1) := by decide +kernel
theorem dX12_meanTardinessNumerator_25 : decode cX12_meanTardinessNumerator 25 = .ok (.invokevirtual 315, 3) := by decide +kernel
theorem dX12_meanTardinessNumerator_28 : decode cX12_meanTardinessNumerator 28 = .ok (.invokestatic 318, 3) := by decide +kernel
theorem dX12_meanTardinessNumerator_31 : decode cX12_meanTardinessNumerator 31 = .ok (.idiv, 1) := by decide +kernel
theorem dX12_meanTardinessNumerator_32 : decode cX12_meanTardinessNumerator 32 = .ok (.ireturn, 1) := by decide +kernel
theorem dX12_meanTardinessDenominator_0 : decode cX12_meanTardinessDenominator 0 = .ok (.aload_n 0, 1) := by decide +kernel
theorem dX12_meanTardinessDenominator_1 : decode cX12_meanTardinessDenominator 1 = .ok (.iconst 0, 1) := by decide +kernel
theorem dX12_meanTardinessDenominator_2 : decode cX12_meanTardinessDenominator 2 = .ok (.putfield 70, 3) := by decide +kernel
theorem dX12_meanTardinessDenominator_5 : decode cX12_meanTardinessDenominator 5 = .ok (.aload_n 0, 1) := by decide +kernel
theorem dX12_meanTardinessDenominator_6 : decode cX12_meanTardinessDenominator 6 = .ok (.invokevirtual 306, 3) := by decide +kernel
theorem dX12_meanTardinessDenominator_9 : decode cX12_meanTardinessDenominator 9 = .ok (.aload_n 0, 1) := by decide +kernel
theorem dX12_meanTardinessDenominator_10 : decode cX12_meanTardinessDenominator 10 = .ok (.invokevirtual 312, 3) := by decide +kernel
theorem dX12_meanTardinessDenominator_13 : decode cX12_meanTardinessDenominator 13 = .ok (.istore_n 1, 1) := by decide +kernel
theorem dX12_meanTardinessDenominator_14 : decode cX12_meanTardinessDenominator 14 = .ok (.iload_n 1, 1) := by decide +kernel
theorem dX12_meanTardinessDenominator_15 : decode cX12_meanTardinessDenominator 15 = .ok (.ifCond .ne 7, 3) := by decide +kernel
theorem dX12_meanTardinessDenominator_18 : decode cX12_meanTardinessDenominator 18 = .ok (.iconst 1, 1) := by decide +kernel
theorem dX12_meanTardinessDenominator_19 : decode cX12_meanTardinessDenominator 19 = .ok (.goto 16, 3) := by decide +kernel
theorem dX12_meanTardinessDenominator_22 : decode cX12_meanTardinessDenominator 22 = .ok (.aload_n 0, 1) := by decide +kernel
theorem dX12_meanTardinessDenominator_23 : decode cX12_meanTardinessDenominator 23 = .ok (.invokevirtual 315, 3) := by decide +kernel
theorem dX12_meanTardinessDenominator_26 : decode cX12_meanTardinessDenominator 26 = .ok (.iload_n 1, 1) := by decide +kernel
theorem dX12_meanTardinessDenominator_27 : decode cX12_meanTardinessDenominator 27 = .ok (.aload_n 0, 1) := by decide +kernel
theorem dX12_meanTardinessDenominator_28 : decode cX12_meanTardinessDenominator 28 = .ok (.invokevirtual 315, 3) := by decide +kernel
theorem dX12_meanTardinessDenominator_31 : decode cX12_meanTardinessDenominator 31 = .ok (.invokestatic 318, 3) := by decide +kernel
theorem dX12_meanTardinessDenominator_34 : decode cX12_meanTardinessDenominator 34 = .ok (.idiv, 1) := by decide +kernel
theorem dX12_meanTardinessDenominator_35 : decode cX12_meanTardinessDenominator 35 = .ok (.ireturn, 1) := by decide +kernel
theorem dX12_earliestOf_0 : decode cX12_earliestOf 0 = .ok (.sipush 9999, 3) := by decide +kernel
theorem dX12_earliestOf_3 : decode cX12_earliestOf 3 = .ok (.istore_n 2, 1) := by decide +kernel
theorem dX12_earliestOf_4 : decode cX12_earliestOf 4 = .ok (.iconst 0, 1) := by decide +kernel
theorem dX12_earliestOf_5 : decode cX12_earliestOf 5 = .ok (.istore_n 3, 1) := by decide +kernel
theorem dX12_earliestOf_6 : decode cX12_earliestOf 6 = .ok (.iload_n 3, 1) := by decide +kernel
theorem dX12_earliestOf_7 : decode cX12_earliestOf 7 = .ok (.aload_n 0, 1) := by decide +kernel
theorem dX12_earliestOf_8 : decode cX12_earliestOf 8 = .ok (.getfield 7, 3) := by decide +kernel
theorem dX12_earliestOf_11 : decode cX12_earliestOf 11 = .ok (.iconst 4, 1) := by decide +kernel
theorem dX12_earliestOf_12 : decode cX12_earliestOf 12 = .ok (.iaload, 1) := by decide +kernel
theorem dX12_earliestOf_13 : decode cX12_earliestOf 13 = .ok (.if_icmp .ge 38, 3) := by decide +kernel
theorem dX12_earliestOf_16 : decode cX12_earliestOf 16 = .ok (.iload_n 1, 1) := by decide +kernel
theorem dX12_earliestOf_17 : decode cX12_earliestOf 17 = .ok (.iload_n 3, 1) := by decide +kernel
theorem dX12_earliestOf_18 : decode cX12_earliestOf 18 = .ok (.invokestatic 136, 3) := by decide +kernel
theorem dX12_earliestOf_21 : decode cX12_earliestOf 21 = .ok (.ifCond .eq 22, 3) := by decide +kernel
theorem dX12_earliestOf_24 : decode cX12_earliestOf 24 = .ok (.aload_n 0, 1) := by decide +kernel
theorem dX12_earliestOf_25 : decode cX12_earliestOf 25 = .ok (.iload_n 3, 1) := by decide +kernel
theorem dX12_earliestOf_26 : decode cX12_earliestOf 26 = .ok (.iconst 0, 1) := by decide +kernel
theorem dX12_earliestOf_27 : decode cX12_earliestOf 27 = .ok (.invokevirtual 107, 3) := by decide +kernel
theorem dX12_earliestOf_30 : decode cX12_earliestOf 30 = .ok (.iload_n 2, 1) := by decide +kernel
theorem dX12_earliestOf_31 : decode cX12_earliestOf 31 = .ok (.if_icmp .ge 12, 3) := by decide +kernel
theorem dX12_earliestOf_34 : decode cX12_earliestOf 34 = .ok (.aload_n 0, 1) := by decide +kernel
theorem dX12_earliestOf_35 : decode cX12_earliestOf 35 = .ok (.iload_n 3, 1) := by decide +kernel
theorem dX12_earliestOf_36 : decode cX12_earliestOf 36 = .ok (.iconst 0, 1) := by decide +kernel
theorem dX12_earliestOf_37 : decode cX12_earliestOf 37 = .ok (.invokevirtual 107, 3) := by decide +kernel
theorem dX12_earliestOf_40 : decode cX12_earliestOf 40 = .ok (.goto 4, 3) := by decide +kernel
theorem dX12_earliestOf_43 : decode cX12_earliestOf 43 = .ok (.iload_n 2, 1) := by decide +kernel
theorem dX12_earliestOf_44 : decode cX12_earliestOf 44 = .ok (.istore_n 2, 1) := by decide +kernel
theorem dX12_earliestOf_45 : decode cX12_earliestOf 45 = .ok (.iinc 3 1, 3) := by decide +kernel
theorem dX12_earliestOf_48 : decode cX12_earliestOf 48 = .ok (.goto (-42), 3) := by decide +kernel
theorem dX12_earliestOf_51 : decode cX12_earliestOf 51 = .ok (.iload_n 2, 1) := by decide +kernel
theorem dX12_earliestOf_52 : decode cX12_earliestOf 52 = .ok (.ireturn, 1) := by decide +kernel
theorem dX12_sortsBy_0 : decode cX12_sortsBy 0 = .ok (.iconst 0, 1) := by decide +kernel
theorem dX12_sortsBy_1 : decode cX12_sortsBy 1 = .ok (.istore_n 2, 1) := by decide +kernel
theorem dX12_sortsBy_2 : decode cX12_sortsBy 2 = .ok (.iload_n 2, 1) := by decide +kernel
theorem dX12_sortsBy_3 : decode cX12_sortsBy 3 = .ok (.aload_n 0, 1) := by decide +kernel
theorem dX12_sortsBy_4 : decode cX12_sortsBy 4 = .ok (.getfield 7, 3) := by decide +kernel
theorem dX12_sortsBy_7 : decode cX12_sortsBy 7 = .ok (.iconst 5, 1) := by decide +kernel
theorem dX12_sortsBy_8 : decode cX12_sortsBy 8 = .ok (.iaload, 1) := by decide +kernel
theorem dX12_sortsBy_9 : decode cX12_sortsBy 9 = .ok (.if_icmp .ge 77, 3) := by decide +kernel
theorem dX12_sortsBy_12 : decode cX12_sortsBy 12 = .ok (.iconst 3, 1) := by decide +kernel
theorem dX12_sortsBy_13 : decode cX12_sortsBy 13 = .ok (.iload_n 2, 1) := by decide +kernel
theorem dX12_sortsBy_14 : decode cX12_sortsBy 14 = .ok (.imul, 1) := by decide +kernel
theorem dX12_sortsBy_15 : decode cX12_sortsBy 15 = .ok (.istore_n 3, 1) := by decide +kernel
theorem dX12_sortsBy_16 : decode cX12_sortsBy 16 = .ok (.iconst 0, 1) := by decide +kernel
theorem dX12_sortsBy_17 : decode cX12_sortsBy 17 = .ok (.istore 4, 2) := by decide +kernel
theorem dX12_sortsBy_19 : decode cX12_sortsBy 19 = .ok (.iconst 0, 1) := by decide +kernel
theorem dX12_sortsBy_20 : decode cX12_sortsBy 20 = .ok (.istore 5, 2) := by decide +kernel
theorem dX12_sortsBy_22 : decode cX12_sortsBy 22 = .ok (.iload 5, 2) := by decide +kernel
theorem dX12_sortsBy_24 : decode cX12_sortsBy 24 = .ok (.aload_n 0, 1) := by decide +kernel
theorem dX12_sortsBy_25 : decode cX12_sortsBy 25 = .ok (.invokevirtual 77, 3) := by decide +kernel
theorem dX12_sortsBy_28 : decode cX12_sortsBy 28 = .ok (.if_icmp .ge 23, 3) := by decide +kernel
theorem dX12_sortsBy_31 : decode cX12_sortsBy 31 = .ok (.iload 4, 2) := by decide +kernel
theorem dX12_sortsBy_33 : decode cX12_sortsBy 33 = .ok (.aload_n 0, 1) := by decide +kernel
theorem dX12_sortsBy_34 : decode cX12_sortsBy 34 = .ok (.getfield 35, 3) := by decide +kernel
theorem dX12_sortsBy_37 : decode cX12_sortsBy 37 = .ok (.iload_n 3, 1) := by decide +kernel
theorem dX12_sortsBy_38 : decode cX12_sortsBy 38 = .ok (.iload 5, 2) := by decide +kernel
theorem dX12_sortsBy_40 : decode cX12_sortsBy 40 = .ok (.iadd, 1) := by decide +kernel
theorem dX12_sortsBy_41 : decode cX12_sortsBy 41 = .ok (.iaload, 1) := by decide +kernel
theorem dX12_sortsBy_42 : decode cX12_sortsBy 42 = .ok (.iadd, 1) := by decide +kernel
theorem dX12_sortsBy_43 : decode cX12_sortsBy 43 = .ok (.istore 4, 2) := by decide +kernel
theorem dX12_sortsBy_45 : decode cX12_sortsBy 45 = .ok (.iinc 5 1, 3) := by decide +kernel
theorem dX12_sortsBy_48 : decode cX12_sortsBy 48 = .ok (.goto (-26), 3) := by decide +kernel
theorem dX12_sortsBy_51 : decode cX12_sortsBy 51 = .ok (.aload_n 0, 1) := by decide +kernel
theorem dX12_sortsBy_52 : decode cX12_sortsBy 52 = .ok (.getfield 47, 3) := by decide +kernel
theorem dX12_sortsBy_55 : decode cX12_sortsBy 55 = .ok (.iload_n 2, 1) := by decide +kernel
theorem dX12_sortsBy_56 : decode cX12_sortsBy 56 = .ok (.iload_n 1, 1) := by decide +kernel
theorem dX12_sortsBy_57 : decode cX12_sortsBy 57 = .ok (.ifCond .ne 20, 3) := by decide +kernel
theorem dX12_sortsBy_60 : decode cX12_sortsBy 60 = .ok (.aload_n 0, 1) := by decide +kernel
theorem dX12_sortsBy_61 : decode cX12_sortsBy 61 = .ok (.aload_n 0, 1) := by decide +kernel
theorem dX12_sortsBy_62 : decode cX12_sortsBy 62 = .ok (.getfield 7, 3) := by decide +kernel
theorem dX12_sortsBy_65 : decode cX12_sortsBy 65 = .ok (.sipush 461, 3) := by decide +kernel
theorem dX12_sortsBy_68 : decode cX12_sortsBy 68 = .ok (.iload_n 2, 1) := by decide +kernel
theorem dX12_sortsBy_69 : decode cX12_sortsBy 69 = .ok (.iadd, 1) := by decide +kernel
theorem dX12_sortsBy_70 : decode cX12_sortsBy 70 = .ok (.iaload, 1) := by decide +kernel
theorem dX12_sortsBy_71 : decode cX12_sortsBy 71 = .ok (.invokevirtual 321, 3) := by decide +kernel
theorem dX12_sortsBy_74 : decode cX12_sortsBy 74 = .ok (.goto 5, 3) := by decide +kernel
theorem dX12_sortsBy_77 : decode cX12_sortsBy 77 = .ok (.iload 4, 2) := by decide +kernel
theorem dX12_sortsBy_79 : decode cX12_sortsBy 79 = .ok (.iastore, 1) := by decide +kernel
theorem dX12_sortsBy_80 : decode cX12_sortsBy 80 = .ok (.iinc 2 1, 3) := by decide +kernel
theorem dX12_sortsBy_83 : decode cX12_sortsBy 83 = .ok (.goto (-81), 3) := by decide +kernel
theorem dX12_sortsBy_86 : decode cX12_sortsBy 86 = .ok (.iconst 1, 1) := by decide +kernel
theorem dX12_sortsBy_87 : decode cX12_sortsBy 87 = .ok (.istore_n 2, 1) := by decide +kernel
theorem dX12_sortsBy_88 : decode cX12_sortsBy 88 = .ok (.iload_n 2, 1) := by decide +kernel
theorem dX12_sortsBy_89 : decode cX12_sortsBy 89 = .ok (.aload_n 0, 1) := by decide +kernel
theorem dX12_sortsBy_90 : decode cX12_sortsBy 90 = .ok (.getfield 7, 3) := by decide +kernel
theorem dX12_sortsBy_93 : decode cX12_sortsBy 93 = .ok (.iconst 5, 1) := by decide +kernel
theorem dX12_sortsBy_94 : decode cX12_sortsBy 94 = .ok (.iaload, 1) := by decide +kernel
theorem dX12_sortsBy_95 : decode cX12_sortsBy 95 = .ok (.if_icmp .ge 77, 3) := by decide +kernel
theorem dX12_sortsBy_98 : decode cX12_sortsBy 98 = .ok (.aload_n 0, 1) := by decide +kernel
theorem dX12_sortsBy_99 : decode cX12_sortsBy 99 = .ok (.getfield 38, 3) := by decide +kernel
theorem dX12_sortsBy_102 : decode cX12_sortsBy 102 = .ok (.iload_n 2, 1) := by decide +kernel
theorem dX12_sortsBy_103 : decode cX12_sortsBy 103 = .ok (.iaload, 1) := by decide +kernel
theorem dX12_sortsBy_104 : decode cX12_sortsBy 104 = .ok (.istore_n 3, 1) := by decide +kernel
theorem dX12_sortsBy_105 : decode cX12_sortsBy 105 = .ok (.iload_n 2, 1) := by decide +kernel
theorem dX12_sortsBy_106 : decode cX12_sortsBy 106 = .ok (.istore 4, 2) := by decide +kernel
theorem dX12_sortsBy_108 : decode cX12_sortsBy 108 = .ok (.iload 4, 2) := by decide +kernel
theorem dX12_sortsBy_110 : decode cX12_sortsBy 110 = .ok (.ifCond .le 48, 3) := by decide +kernel
theorem dX12_sortsBy_113 : decode cX12_sortsBy 113 = .ok (.aload_n 0, 1) := by decide +kernel
theorem dX12_sortsBy_114 : decode cX12_sortsBy 114 = .ok (.getfield 47, 3) := by decide +kernel
theorem dX12_sortsBy_117 : decode cX12_sortsBy 117 = .ok (.aload_n 0, 1) := by decide +kernel
theorem dX12_sortsBy_118 : decode cX12_sortsBy 118 = .ok (.getfield 38, 3) := by decide +kernel
theorem dX12_sortsBy_121 : decode cX12_sortsBy 121 = .ok (.iload 4, 2) := by decide +kernel
theorem dX12_sortsBy_123 : decode cX12_sortsBy 123 = .ok (.iconst 1, 1) := by decide +kernel
theorem dX12_sortsBy_124 : decode cX12_sortsBy 124 = .ok (.isub, 1) := by decide +kernel
theorem dX12_sortsBy_125 : decode cX12_sortsBy 125 = .ok (.iaload, 1) := by decide +kernel
theorem dX12_sortsBy_126 : decode cX12_sortsBy 126 = .ok (.iaload, 1) := by decide +kernel
theorem dX12_sortsBy_127 : decode cX12_sortsBy 127 = .ok (.aload_n 0, 1) := by decide +kernel
theorem dX12_sortsBy_128 : decode cX12_sortsBy 128 = .ok (.getfield 47, 3) := by decide +kernel
theorem dX12_sortsBy_131 : decode cX12_sortsBy 131 = .ok (.iload_n 3, 1) := by decide +kernel
theorem dX12_sortsBy_132 : decode cX12_sortsBy 132 = .ok (.iaload, 1) := by decide +kernel
theorem dX12_sortsBy_133 : decode cX12_sortsBy 133 = .ok (.if_icmp .le 25, 3) := by decide +kernel
theorem dX12_sortsBy_136 : decode cX12_sortsBy 136 = .ok (.aload_n 0, 1) := by decide +kernel
theorem dX12_sortsBy_137 : decode cX12_sortsBy 137 = .ok (.getfield 38, 3) := by decide +kernel
theorem dX12_sortsBy_140 : decode cX12_sortsBy 140 = .ok (.iload 4, 2) := by decide +kernel
theorem dX12_sortsBy_142 : decode cX12_sortsBy 142 = .ok (.aload_n 0, 1) := by decide +kernel
theorem dX12_sortsBy_143 : decode cX12_sortsBy 143 = .ok (.getfield 38, 3) := by decide +kernel
theorem dX12_sortsBy_146 : decode cX12_sortsBy 146 = .ok (.iload 4, 2) := by decide +kernel
theorem dX12_sortsBy_148 : decode cX12_sortsBy 148 = .ok (.iconst 1, 1) := by decide +kernel
theorem dX12_sortsBy_149 : decode cX12_sortsBy 149 = .ok (.isub, 1) := by decide +kernel
theorem dX12_sortsBy_150 : decode cX12_sortsBy 150 = .ok (.iaload, 1) := by decide +kernel
theorem dX12_sortsBy_151 : decode cX12_sortsBy 151 = .ok (.iastore, 1) := by decide +kernel
theorem dX12_sortsBy_152 : decode cX12_sortsBy 152 = .ok (.iinc 4 (-1), 3) := by decide +kernel
theorem dX12_sortsBy_155 : decode cX12_sortsBy 155 = .ok (.goto (-47), 3) := by decide +kernel
theorem dX12_sortsBy_158 : decode cX12_sortsBy 158 = .ok (.aload_n 0, 1) := by decide +kernel
theorem dX12_sortsBy_159 : decode cX12_sortsBy 159 = .ok (.getfield 38, 3) := by decide +kernel
theorem dX12_sortsBy_162 : decode cX12_sortsBy 162 = .ok (.iload 4, 2) := by decide +kernel
theorem dX12_sortsBy_164 : decode cX12_sortsBy 164 = .ok (.iload_n 3, 1) := by decide +kernel
theorem dX12_sortsBy_165 : decode cX12_sortsBy 165 = .ok (.iastore, 1) := by decide +kernel
theorem dX12_sortsBy_166 : decode cX12_sortsBy 166 = .ok (.iinc 2 1, 3) := by decide +kernel
theorem dX12_sortsBy_169 : decode cX12_sortsBy 169 = .ok (.goto (-81), 3) := by decide +kernel
theorem dX12_sortsBy_172 : decode cX12_sortsBy 172 = .ok (.return_, 1) := by decide +kernel
theorem dX12_exchanges_0 : decode cX12_exchanges 0 = .ok (.aload_n 0, 1) := by decide +kernel
theorem dX12_exchanges_1 : decode cX12_exchanges 1 = .ok (.getfield 38, 3) := by decide +kernel
theorem dX12_exchanges_4 : decode cX12_exchanges 4 = .ok (.iload_n 1, 1) := by decide +kernel
theorem dX12_exchanges_5 : decode cX12_exchanges 5 = .ok (.iaload, 1) := by decide +kernel
theorem dX12_exchanges_6 : decode cX12_exchanges 6 = .ok (.istore_n 3, 1) := by decide +kernel
theorem dX12_exchanges_7 : decode cX12_exchanges 7 = .ok (.aload_n 0, 1) := by decide +kernel
theorem dX12_exchanges_8 : decode cX12_exchanges 8 = .ok (.getfield 38, 3) := by decide +kernel
theorem dX12_exchanges_11 : decode cX12_exchanges 11 = .ok (.iload_n 1, 1) := by decide +kernel
theorem dX12_exchanges_12 : decode cX12_exchanges 12 = .ok (.aload_n 0, 1) := by decide +kernel
theorem dX12_exchanges_13 : decode cX12_exchanges 13 = .ok (.getfield 38, 3) := by decide +kernel
theorem dX12_exchanges_16 : decode cX12_exchanges 16 = .ok (.iload_n 2, 1) := by decide +kernel
theorem dX12_exchanges_17 : decode cX12_exchanges 17 = .ok (.iaload, 1) := by decide +kernel
theorem dX12_exchanges_18 : decode cX12_exchanges 18 = .ok (.iastore, 1) := by decide +kernel
theorem dX12_exchanges_19 : decode cX12_exchanges 19 = .ok (.aload_n 0, 1) := by decide +kernel
theorem dX12_exchanges_20 : decode cX12_exchanges 20 = .ok (.getfield 38, 3) := by decide +kernel
theorem dX12_exchanges_23 : decode cX12_exchanges 23 = .ok (.iload_n 2, 1) := by decide +kernel
theorem dX12_exchanges_24 : decode cX12_exchanges 24 = .ok (.iload_n 3, 1) := by decide +kernel
theorem dX12_exchanges_25 : decode cX12_exchanges 25 = .ok (.iastore, 1) := by decide +kernel
theorem dX12_exchanges_26 : decode cX12_exchanges 26 = .ok (.return_, 1) := by decide +kernel
theorem dX12_goesOn_0 : decode cX12_goesOn 0 = .ok (.aload_n 0, 1) := by decide +kernel
theorem dX12_goesOn_1 : decode cX12_goesOn 1 = .ok (.getfield 7, 3) := by decide +kernel
theorem dX12_goesOn_4 : decode cX12_goesOn 4 = .ok (.iconst 5, 1) := by decide +kernel
theorem dX12_goesOn_5 : decode cX12_goesOn 5 = .ok (.iaload, 1) := by decide +kernel
theorem dX12_goesOn_6 : decode cX12_goesOn 6 = .ok (.istore_n 1, 1) := by decide +kernel
theorem dX12_goesOn_7 : decode cX12_goesOn 7 = .ok (.iload_n 1, 1) := by decide +kernel
theorem dX12_goesOn_8 : decode cX12_goesOn 8 = .ok (.iconst 2, 1) := by decide +kernel
theorem dX12_goesOn_9 : decode cX12_goesOn 9 = .ok (.isub, 1) := by decide +kernel
theorem dX12_goesOn_10 : decode cX12_goesOn 10 = .ok (.istore_n 2, 1) := by decide +kernel
theorem dX12_goesOn_11 : decode cX12_goesOn 11 = .ok (.iload_n 2, 1) := by decide +kernel
theorem dX12_goesOn_12 : decode cX12_goesOn 12 = .ok (.ifCond .lt 26, 3) := by decide +kernel
theorem dX12_goesOn_15 : decode cX12_goesOn 15 = .ok (.aload_n 0, 1) := by decide +kernel
theorem dX12_goesOn_16 : decode cX12_goesOn 16 = .ok (.getfield 38, 3) := by decide +kernel
theorem dX12_goesOn_19 : decode cX12_goesOn 19 = .ok (.iload_n 2, 1) := by decide +kernel
theorem dX12_goesOn_20 : decode cX12_goesOn 20 = .ok (.iaload, 1) := by decide +kernel
theorem dX12_goesOn_21 : decode cX12_goesOn 21 = .ok (.aload_n 0, 1) := by decide +kernel
theorem dX12_goesOn_22 : decode cX12_goesOn 22 = .ok (.getfield 38, 3) := by decide +kernel
theorem dX12_goesOn_25 : decode cX12_goesOn 25 = .ok (.iload_n 2, 1) := by decide +kernel
theorem dX12_goesOn_26 : decode cX12_goesOn 26 = .ok (.iconst 1, 1) := by decide +kernel
theorem dX12_goesOn_27 : decode cX12_goesOn 27 = .ok (.iadd, 1) := by decide +kernel
theorem dX12_goesOn_28 : decode cX12_goesOn 28 = .ok (.iaload, 1) := by decide +kernel
theorem dX12_goesOn_29 : decode cX12_goesOn 29 = .ok (.if_icmp .le 9, 3) := by decide +kernel
theorem dX12_goesOn_32 : decode cX12_goesOn 32 = .ok (.iinc 2 (-1), 3) := by decide +kernel
theorem dX12_goesOn_35 : decode cX12_goesOn 35 = .ok (.goto (-24), 3) := by decide +kernel
theorem dX12_goesOn_38 : decode cX12_goesOn 38 = .ok (.iload_n 2, 1) := by decide +kernel
theorem dX12_goesOn_39 : decode cX12_goesOn 39 = .ok (.ifCond .ge 5, 3) := by decide +kernel
theorem dX12_goesOn_42 : decode cX12_goesOn 42 = .ok (.iconst 0, 1) := by decide +kernel
theorem dX12_goesOn_43 : decode cX12_goesOn 43 = .ok (.ireturn, 1) := by decide +kernel
theorem dX12_goesOn_44 : decode cX12_goesOn 44 = .ok (.iload_n 1, 1) := by decide +kernel
theorem dX12_goesOn_45 : decode cX12_goesOn 45 = .ok (.iconst 1, 1) := by decide +kernel
theorem dX12_goesOn_46 : decode cX12_goesOn 46 = .ok (.isub, 1) := by decide +kernel
theorem dX12_goesOn_47 : decode cX12_goesOn 47 = .ok (.istore_n 3, 1) := by decide +kernel
theorem dX12_goesOn_48 : decode cX12_goesOn 48 = .ok (.aload_n 0, 1) := by decide +kernel
theorem dX12_goesOn_49 : decode cX12_goesOn 49 = .ok (.getfield 38, 3) := by decide +kernel
theorem dX12_goesOn_52 : decode cX12_goesOn 52 = .ok (.iload_n 3, 1) := by decide +kernel
theorem dX12_goesOn_53 : decode cX12_goesOn 53 = .ok (.iaload, 1) := by decide +kernel
theorem dX12_goesOn_54 : decode cX12_goesOn 54 = .ok (.aload_n 0, 1) := by decide +kernel
theorem dX12_goesOn_55 : decode cX12_goesOn 55 = .ok (.getfield 38, 3) := by decide +kernel
theorem dX12_goesOn_58 : decode cX12_goesOn 58 = .ok (.iload_n 2, 1) := by decide +kernel
theorem dX12_goesOn_59 : decode cX12_goesOn 59 = .ok (.iaload, 1) := by decide +kernel
theorem dX12_goesOn_60 : decode cX12_goesOn 60 = .ok (.if_icmp .ge 9, 3) := by decide +kernel
theorem dX12_goesOn_63 : decode cX12_goesOn 63 = .ok (.iinc 3 (-1), 3) := by decide +kernel
theorem dX12_goesOn_66 : decode cX12_goesOn 66 = .ok (.goto (-18), 3) := by decide +kernel
theorem dX12_goesOn_69 : decode cX12_goesOn 69 = .ok (.aload_n 0, 1) := by decide +kernel
theorem dX12_goesOn_70 : decode cX12_goesOn 70 = .ok (.iload_n 2, 1) := by decide +kernel
theorem dX12_goesOn_71 : decode cX12_goesOn 71 = .ok (.iload_n 3, 1) := by decide +kernel
theorem dX12_goesOn_72 : decode cX12_goesOn 72 = .ok (.invokevirtual 324, 3) := by decide +kernel
theorem dX12_goesOn_75 : decode cX12_goesOn 75 = .ok (.iload_n 2, 1) := by decide +kernel
theorem dX12_goesOn_76 : decode cX12_goesOn 76 = .ok (.iconst 1, 1) := by decide +kernel
theorem dX12_goesOn_77 : decode cX12_goesOn 77 = .ok (.iadd, 1) := by decide +kernel
theorem dX12_goesOn_78 : decode cX12_goesOn 78 = .ok (.istore 4, 2) := by decide +kernel
theorem dX12_goesOn_80 : decode cX12_goesOn 80 = .ok (.iload_n 1, 1) := by decide +kernel
theorem dX12_goesOn_81 : decode cX12_goesOn 81 = .ok (.iconst 1, 1) := by decide +kernel
theorem dX12_goesOn_82 : decode cX12_goesOn 82 = .ok (.isub, 1) := by decide +kernel
theorem dX12_goesOn_83 : decode cX12_goesOn 83 = .ok (.istore 5, 2) := by decide +kernel
theorem dX12_goesOn_85 : decode cX12_goesOn 85 = .ok (.iload 4, 2) := by decide +kernel
theorem dX12_goesOn_87 : decode cX12_goesOn 87 = .ok (.iload 5, 2) := by decide +kernel
theorem dX12_goesOn_89 : decode cX12_goesOn 89 = .ok (.if_icmp .ge 20, 3) := by decide +kernel
theorem dX12_goesOn_92 : decode cX12_goesOn 92 = .ok (.aload_n 0, 1) := by decide +kernel
theorem dX12_goesOn_93 : decode cX12_goesOn 93 = .ok (.iload 4, 2) := by decide +kernel
theorem dX12_goesOn_95 : decode cX12_goesOn 95 = .ok (.iload 5, 2) := by decide +kernel
theorem dX12_goesOn_97 : decode cX12_goesOn 97 = .ok (.invokevirtual 324, 3) := by decide +kernel
theorem dX12_goesOn_100 : decode cX12_goesOn 100 = .ok (.iinc 4 1, 3) := by decide +kernel
theorem dX12_goesOn_103 : decode cX12_goesOn 103 = .ok (.iinc 5 (-1), 3) := by decide +kernel
theorem dX12_goesOn_106 : decode cX12_goesOn 106 = .ok (.goto (-21), 3) := by decide +kernel
theorem dX12_goesOn_109 : decode cX12_goesOn 109 = .ok (.iconst 1, 1) := by decide +kernel
theorem dX12_goesOn_110 : decode cX12_goesOn 110 = .ok (.ireturn, 1) := by decide +kernel
theorem dX12_seeksSequence_0 : decode cX12_seeksSequence 0 = .ok (.aload_n 0, 1) := by decide +kernel
theorem dX12_seeksSequence_1 : decode cX12_seeksSequence 1 = .ok (.invokevirtual 300, 3) := by decide +kernel
theorem dX12_seeksSequence_4 : decode cX12_seeksSequence 4 = .ok (.aload_n 0, 1) := by decide +kernel
theorem dX12_seeksSequence_5 : decode cX12_seeksSequence 5 = .ok (.invokevirtual 312, 3) := by decide +kernel
theorem dX12_seeksSequence_8 : decode cX12_seeksSequence 8 = .ok (.istore_n 1, 1) := by decide +kernel
theorem dX12_seeksSequence_9 : decode cX12_seeksSequence 9 = .ok (.aload_n 0, 1) := by decide +kernel
theorem dX12_seeksSequence_10 : decode cX12_seeksSequence 10 = .ok (.invokevirtual 327, 3) := by decide +kernel
theorem dX12_seeksSequence_13 : decode cX12_seeksSequence 13 = .ok (.aload_n 0, 1) := by decide +kernel
theorem dX12_seeksSequence_14 : decode cX12_seeksSequence 14 = .ok (.invokevirtual 330, 3) := by decide +kernel
theorem dX12_seeksSequence_17 : decode cX12_seeksSequence 17 = .ok (.ifCond .eq 26, 3) := by decide +kernel
theorem dX12_seeksSequence_20 : decode cX12_seeksSequence 20 = .ok (.aload_n 0, 1) := by decide +kernel
theorem dX12_seeksSequence_21 : decode cX12_seeksSequence 21 = .ok (.invokevirtual 300, 3) := by decide +kernel
theorem dX12_seeksSequence_24 : decode cX12_seeksSequence 24 = .ok (.aload_n 0, 1) := by decide +kernel
theorem dX12_seeksSequence_25 : decode cX12_seeksSequence 25 = .ok (.invokevirtual 312, 3) := by decide +kernel
theorem dX12_seeksSequence_28 : decode cX12_seeksSequence 28 = .ok (.istore_n 2, 1) := by decide +kernel
theorem dX12_seeksSequence_29 : decode cX12_seeksSequence 29 = .ok (.iload_n 2, 1) := by decide +kernel
theorem dX12_seeksSequence_30 : decode cX12_seeksSequence 30 = .ok (.iload_n 1, 1) := by decide +kernel
theorem dX12_seeksSequence_31 : decode cX12_seeksSequence 31 = .ok (.if_icmp .ge 9, 3) := by decide +kernel
theorem dX12_seeksSequence_34 : decode cX12_seeksSequence 34 = .ok (.iload_n 2, 1) := by decide +kernel
theorem dX12_seeksSequence_35 : decode cX12_seeksSequence 35 = .ok (.istore_n 1, 1) := by decide +kernel
theorem dX12_seeksSequence_36 : decode cX12_seeksSequence 36 = .ok (.aload_n 0, 1) := by decide +kernel
theorem dX12_seeksSequence_37 : decode cX12_seeksSequence 37 = .ok (.invokevirtual 327, 3) := by decide +kernel
theorem dX12_seeksSequence_40 : decode cX12_seeksSequence 40 = .ok (.goto (-27), 3) := by decide +kernel
theorem dX12_seeksSequence_43 : decode cX12_seeksSequence 43 = .ok (.iconst 0, 1) := by decide +kernel
theorem dX12_seeksSequence_44 : decode cX12_seeksSequence 44 = .ok (.istore_n 2, 1) := by decide +kernel
theorem dX12_seeksSequence_45 : decode cX12_seeksSequence 45 = .ok (.iload_n 2, 1) := by decide +kernel
theorem dX12_seeksSequence_46 : decode cX12_seeksSequence 46 = .ok (.aload_n 0, 1) := by decide +kernel
theorem dX12_seeksSequence_47 : decode cX12_seeksSequence 47 = .ok (.getfield 7, 3) := by decide +kernel
theorem dX12_seeksSequence_50 : decode cX12_seeksSequence 50 = .ok (.iconst 5, 1) := by decide +kernel
theorem dX12_seeksSequence_51 : decode cX12_seeksSequence 51 = .ok (.iaload, 1) := by decide +kernel
theorem dX12_seeksSequence_52 : decode cX12_seeksSequence 52 = .ok (.if_icmp .ge 21, 3) := by decide +kernel
theorem dX12_seeksSequence_55 : decode cX12_seeksSequence 55 = .ok (.aload_n 0, 1) := by decide +kernel
theorem dX12_seeksSequence_56 : decode cX12_seeksSequence 56 = .ok (.getfield 38, 3) := by decide +kernel
theorem dX12_seeksSequence_59 : decode cX12_seeksSequence 59 = .ok (.iload_n 2, 1) := by decide +kernel
theorem dX12_seeksSequence_60 : decode cX12_seeksSequence 60 = .ok (.aload_n 0, 1) := by decide +kernel
theorem dX12_seeksSequence_61 : decode cX12_seeksSequence 61 = .ok (.getfield 50, 3) := by decide +kernel
theorem dX12_seeksSequence_64 : decode cX12_seeksSequence 64 = .ok (.iload_n 2, 1) := by decide +kernel
theorem dX12_seeksSequence_65 : decode cX12_seeksSequence 65 = .ok (.iaload, 1) := by decide +kernel
theorem dX12_seeksSequence_66 : decode cX12_seeksSequence 66 = .ok (.iastore, 1) := by decide +kernel
theorem dX12_seeksSequence_67 : decode cX12_seeksSequence 67 = .ok (.iinc 2 1, 3) := by decide +kernel
theorem dX12_seeksSequence_70 : decode cX12_seeksSequence 70 = .ok (.goto (-25), 3) := by decide +kernel
theorem dX12_seeksSequence_73 : decode cX12_seeksSequence 73 = .ok (.return_, 1) := by decide +kernel
theorem dX12_keepsBest_0 : decode cX12_keepsBest 0 = .ok (.iconst 0, 1) := by decide +kernel
theorem dX12_keepsBest_1 : decode cX12_keepsBest 1 = .ok (.istore_n 1, 1) := by decide +kernel
theorem dX12_keepsBest_2 : decode cX12_keepsBest 2 = .ok (.iload_n 1, 1) := by decide +kernel
theorem dX12_keepsBest_3 : decode cX12_keepsBest 3 = .ok (.aload_n 0, 1) := by decide +kernel
theorem dX12_keepsBest_4 : decode cX12_keepsBest 4 = .ok (.getfield 7, 3) := by decide +kernel
theorem dX12_keepsBest_7 : decode cX12_keepsBest 7 = .ok (.iconst 5, 1) := by decide +kernel
theorem dX12_keepsBest_8 : decode cX12_keepsBest 8 = .ok (.iaload, 1) := by decide +kernel
theorem dX12_keepsBest_9 : decode cX12_keepsBest 9 = .ok (.if_icmp .ge 21, 3) := by decide +kernel
theorem dX12_keepsBest_12 : decode cX12_keepsBest 12 = .ok (.aload_n 0, 1) := by decide +kernel
theorem dX12_keepsBest_13 : decode cX12_keepsBest 13 = .ok (.getfield 50, 3) := by decide +kernel
theorem dX12_keepsBest_16 : decode cX12_keepsBest 16 = .ok (.iload_n 1, 1) := by decide +kernel
theorem dX12_keepsBest_17 : decode cX12_keepsBest 17 = .ok (.aload_n 0, 1) := by decide +kernel
theorem dX12_keepsBest_18 : decode cX12_keepsBest 18 = .ok (.getfield 38, 3) := by decide +kernel
theorem dX12_keepsBest_21 : decode cX12_keepsBest 21 = .ok (.iload_n 1, 1) := by decide +kernel
theorem dX12_keepsBest_22 : decode cX12_keepsBest 22 = .ok (.iaload, 1) := by decide +kernel
theorem dX12_keepsBest_23 : decode cX12_keepsBest 23 = .ok (.iastore, 1) := by decide +kernel
theorem dX12_keepsBest_24 : decode cX12_keepsBest 24 = .ok (.iinc 1 1, 3) := by decide +kernel
theorem dX12_keepsBest_27 : decode cX12_keepsBest 27 = .ok (.goto (-25), 3) := by decide +kernel
theorem dX12_keepsBest_30 : decode cX12_keepsBest 30 = .ok (.return_, 1) := by decide +kernel
theorem dX12_sortBatches_0 : decode cX12_sortBatches 0 = .ok (.aload_n 0, 1) := by decide +kernel
theorem dX12_sortBatches_1 : decode cX12_sortBatches 1 = .ok (.iload_n 1, 1) := by decide +kernel
theorem dX12_sortBatches_2 : decode cX12_sortBatches 2 = .ok (.iconst 0, 1) := by decide +kernel
theorem dX12_sortBatches_3 : decode cX12_sortBatches 3 = .ok (.iconst 2, 1) := by decide +kernel
theorem dX12_sortBatches_4 : decode cX12_sortBatches 4 = .ok (.invokestatic 73, 3) := by decide +kernel
theorem dX12_sortBatches_7 : decode cX12_sortBatches 7 = .ok (.ifCond .ne 7, 3) := by decide +kernel
theorem dX12_sortBatches_10 : decode cX12_sortBatches 10 = .ok (.iconst 1, 1) := by decide +kernel
theorem dX12_sortBatches_11 : decode cX12_sortBatches 11 = .ok (.goto 24, 3) := by decide +kernel
theorem dX12_sortBatches_14 : decode cX12_sortBatches 14 = .ok (.iload_n 1, 1) := by decide +kernel
theorem dX12_sortBatches_15 : decode cX12_sortBatches 15 = .ok (.iconst 2, 1) := by decide +kernel
theorem dX12_sortBatches_16 : decode cX12_sortBatches 16 = .ok (.if_icmp .ne 18, 3) := by decide +kernel
theorem dX12_sortBatches_19 : decode cX12_sortBatches 19 = .ok (.aload_n 0, 1) := by decide +kernel
theorem dX12_sortBatches_20 : decode cX12_sortBatches 20 = .ok (.getfield 7, 3) := by decide +kernel
theorem dX12_sortBatches_23 : decode cX12_sortBatches 23 = .ok (.iconst 5, 1) := by decide +kernel
theorem dX12_sortBatches_24 : decode cX12_sortBatches 24 = .ok (.iaload, 1) := by decide +kernel
theorem dX12_sortBatches_25 : decode cX12_sortBatches 25 = .ok (.bipush 6, 2) := by decide +kernel
theorem dX12_sortBatches_27 : decode cX12_sortBatches 27 = .ok (.if_icmp .le 7, 3) := by decide +kernel
theorem dX12_sortBatches_30 : decode cX12_sortBatches 30 = .ok (.iconst 2, 1) := by decide +kernel
theorem dX12_sortBatches_31 : decode cX12_sortBatches 31 = .ok (.goto 4, 3) := by decide +kernel
theorem dX12_sortBatches_34 : decode cX12_sortBatches 34 = .ok (.iconst 0, 1) := by decide +kernel
theorem dX12_sortBatches_35 : decode cX12_sortBatches 35 = .ok (.putfield 70, 3) := by decide +kernel
theorem dX12_sortBatches_38 : decode cX12_sortBatches 38 = .ok (.aload_n 0, 1) := by decide +kernel
theorem dX12_sortBatches_39 : decode cX12_sortBatches 39 = .ok (.getfield 70, 3) := by decide +kernel
theorem dX12_sortBatches_42 : decode cX12_sortBatches 42 = .ok (.ifCond .le 5, 3) := by decide +kernel
theorem dX12_sortBatches_45 : decode cX12_sortBatches 45 = .ok (.iconst 0, 1) := by decide +kernel
theorem dX12_sortBatches_46 : decode cX12_sortBatches 46 = .ok (.ireturn, 1) := by decide +kernel
theorem dX12_sortBatches_47 : decode cX12_sortBatches 47 = .ok (.aload_n 0, 1) := by decide +kernel
theorem dX12_sortBatches_48 : decode cX12_sortBatches 48 = .ok (.invokevirtual 297, 3) := by decide +kernel
theorem dX12_sortBatches_51 : decode cX12_sortBatches 51 = .ok (.iload_n 1, 1) := by decide +kernel
theorem dX12_sortBatches_52 : decode cX12_sortBatches 52 = .ok (.iconst 2, 1) := by decide +kernel
theorem dX12_sortBatches_53 : decode cX12_sortBatches 53 = .ok (.if_icmp .ge 11, 3) := by decide +kernel
theorem dX12_sortBatches_56 : decode cX12_sortBatches 56 = .ok (.aload_n 0, 1) := by decide +kernel
theorem dX12_sortBatches_57 : decode cX12_sortBatches 57 = .ok (.iload_n 1, 1) := by decide +kernel
theorem dX12_sortBatches_58 : decode cX12_sortBatches 58 = .ok (.invokevirtual 334, 3) := by decide +kernel
theorem dX12_sortBatches_61 : decode cX12_sortBatches 61 = .ok (.goto 7, 3) := by decide +kernel
theorem dX12_sortBatches_64 : decode cX12_sortBatches 64 = .ok (.aload_n 0, 1) := by decide +kernel
theorem dX12_sortBatches_65 : decode cX12_sortBatches 65 = .ok (.invokevirtual 337, 3) := by decide +kernel
theorem dX12_sortBatches_68 : decode cX12_sortBatches 68 = .ok (.iconst 0, 1) := by decide +kernel
theorem dX12_sortBatches_69 : decode cX12_sortBatches 69 = .ok (.istore_n 2, 1) := by decide +kernel
theorem dX12_sortBatches_70 : decode cX12_sortBatches 70 = .ok (.iload_n 2, 1) := by decide +kernel
theorem dX12_sortBatches_71 : decode cX12_sortBatches 71 = .ok (.aload_n 0, 1) := by decide +kernel
theorem dX12_sortBatches_72 : decode cX12_sortBatches 72 = .ok (.getfield 7, 3) := by decide +kernel
theorem dX12_sortBatches_75 : decode cX12_sortBatches 75 = .ok (.iconst 5, 1) := by decide +kernel
theorem dX12_sortBatches_76 : decode cX12_sortBatches 76 = .ok (.iaload, 1) := by decide +kernel
theorem dX12_sortBatches_77 : decode cX12_sortBatches 77 = .ok (.if_icmp .ge 30, 3) := by decide +kernel
theorem dX12_sortBatches_80 : decode cX12_sortBatches 80 = .ok (.aload_n 0, 1) := by decide +kernel
theorem dX12_sortBatches_81 : decode cX12_sortBatches 81 = .ok (.getfield 53, 3) := by decide +kernel
theorem dX12_sortBatches_84 : decode cX12_sortBatches 84 = .ok (.iload_n 2, 1) := by decide +kernel
theorem dX12_sortBatches_85 : decode cX12_sortBatches 85 = .ok (.aload_n 0, 1) := by decide +kernel
theorem dX12_sortBatches_86 : decode cX12_sortBatches 86 = .ok (.getfield 7, 3) := by decide +kernel
theorem dX12_sortBatches_89 : decode cX12_sortBatches 89 = .ok (.sipush 461, 3) := by decide +kernel
theorem dX12_sortBatches_92 : decode cX12_sortBatches 92 = .ok (.aload_n 0, 1) := by decide +kernel
theorem dX12_sortBatches_93 : decode cX12_sortBatches 93 = .ok (.getfield 38, 3) := by decide +kernel
theorem dX12_sortBatches_96 : decode cX12_sortBatches 96 = .ok (.iload_n 2, 1) := by decide +kernel
theorem dX12_sortBatches_97 : decode cX12_sortBatches 97 = .ok (.iaload, 1) := by decide +kernel
theorem dX12_sortBatches_98 : decode cX12_sortBatches 98 = .ok (.iadd, 1) := by decide +kernel
theorem dX12_sortBatches_99 : decode cX12_sortBatches 99 = .ok (.iaload, 1) := by decide +kernel
theorem dX12_sortBatches_100 : decode cX12_sortBatches 100 = .ok (.iastore, 1) := by decide +kernel
theorem dX12_sortBatches_101 : decode cX12_sortBatches 101 = .ok (.iinc 2 1, 3) := by decide +kernel
theorem dX12_sortBatches_104 : decode cX12_sortBatches 104 = .ok (.goto (-34), 3) := by decide +kernel
theorem dX12_sortBatches_107 : decode cX12_sortBatches 107 = .ok (.iconst 0, 1) := by decide +kernel
theorem dX12_sortBatches_108 : decode cX12_sortBatches 108 = .ok (.istore_n 2, 1) := by decide +kernel
theorem dX12_sortBatches_109 : decode cX12_sortBatches 109 = .ok (.iload_n 2, 1) := by decide +kernel
theorem dX12_sortBatches_110 : decode cX12_sortBatches 110 = .ok (.aload_n 0, 1) := by decide +kernel
theorem dX12_sortBatches_111 : decode cX12_sortBatches 111 = .ok (.getfield 7, 3) := by decide +kernel
theorem dX12_sortBatches_114 : decode cX12_sortBatches 114 = .ok (.iconst 5, 1) := by decide +kernel
theorem dX12_sortBatches_115 : decode cX12_sortBatches 115 = .ok (.iaload, 1) := by decide +kernel
theorem dX12_sortBatches_116 : decode cX12_sortBatches 116 = .ok (.if_icmp .ge 25, 3) := by decide +kernel
theorem dX12_sortBatches_119 : decode cX12_sortBatches 119 = .ok (.aload_n 0, 1) := by decide +kernel
theorem dX12_sortBatches_120 : decode cX12_sortBatches 120 = .ok (.getfield 7, 3) := by decide +kernel
theorem dX12_sortBatches_123 : decode cX12_sortBatches 123 = .ok (.sipush 461, 3) := by decide +kernel
theorem dX12_sortBatches_126 : decode cX12_sortBatches 126 = .ok (.iload_n 2, 1) := by decide +kernel
theorem dX12_sortBatches_127 : decode cX12_sortBatches 127 = .ok (.iadd, 1) := by decide +kernel
theorem dX12_sortBatches_128 : decode cX12_sortBatches 128 = .ok (.aload_n 0, 1) := by decide +kernel
theorem dX12_sortBatches_129 : decode cX12_sortBatches 129 = .ok (.getfield 53, 3) := by decide +kernel
theorem dX12_sortBatches_132 : decode cX12_sortBatches 132 = .ok (.iload_n 2, 1) := by decide +kernel
theorem dX12_sortBatches_133 : decode cX12_sortBatches 133 = .ok (.iaload, 1) := by decide +kernel
theorem dX12_sortBatches_134 : decode cX12_sortBatches 134 = .ok (.iastore, 1) := by decide +kernel
theorem dX12_sortBatches_135 : decode cX12_sortBatches 135 = .ok (.iinc 2 1, 3) := by decide +kernel
theorem dX12_sortBatches_138 : decode cX12_sortBatches 138 = .ok (.goto (-29), 3) := by decide +kernel
theorem dX12_sortBatches_141 : decode cX12_sortBatches 141 = .ok (.aload_n 0, 1) := by decide +kernel
theorem dX12_sortBatches_142 : decode cX12_sortBatches 142 = .ok (.invokevirtual 306, 3) := by decide +kernel
theorem dX12_sortBatches_145 : decode cX12_sortBatches 145 = .ok (.aload_n 0, 1) := by decide +kernel
theorem dX12_sortBatches_146 : decode cX12_sortBatches 146 = .ok (.invokevirtual 312, 3) := by decide +kernel
theorem dX12_sortBatches_149 : decode cX12_sortBatches 149 = .ok (.ireturn, 1) := by decide +kernel
theorem dX12_picks_0 : decode cX12_picks 0 = .ok (.iload_n 1, 1) := by decide +kernel
theorem dX12_picks_1 : decode cX12_picks 1 = .ok (.iload_n 2, 1) := by decide +kernel
theorem dX12_picks_2 : decode cX12_picks 2 = .ok (.invokestatic 110, 3) := by decide +kernel
theorem dX12_picks_5 : decode cX12_picks 5 = .ok (.istore_n 3, 1) := by decide +kernel
theorem dX12_picks_6 : decode cX12_picks 6 = .ok (.bipush 13, 2) := by decide +kernel
theorem dX12_picks_8 : decode cX12_picks 8 = .ok (.iconst 4, 1) := by decide +kernel
theorem dX12_picks_9 : decode cX12_picks 9 = .ok (.aload_n 0, 1) := by decide +kernel
theorem dX12_picks_10 : decode cX12_picks 10 = .ok (.getfield 7, 3) := by decide +kernel
theorem dX12_picks_13 : decode cX12_picks 13 = .ok (.iload_n 3, 1) := by decide +kernel
theorem dX12_picks_14 : decode cX12_picks 14 = .ok (.iaload, 1) := by decide +kernel
theorem dX12_picks_15 : decode cX12_picks 15 = .ok (.imul, 1) := by decide +kernel
theorem dX12_picks_16 : decode cX12_picks 16 = .ok (.iadd, 1) := by decide +kernel
theorem dX12_picks_17 : decode cX12_picks 17 = .ok (.iconst 3, 1) := by decide +kernel
theorem dX12_picks_18 : decode cX12_picks 18 = .ok (.iadd, 1) := by decide +kernel
theorem dX12_picks_19 : decode cX12_picks 19 = .ok (.istore 4, 2) := by decide +kernel
theorem dX12_picks_21 : decode cX12_picks 21 = .ok (.aload_n 0, 1) := by decide +kernel
theorem dX12_picks_22 : decode cX12_picks 22 = .ok (.getfield 7, 3) := by decide +kernel
theorem dX12_picks_25 : decode cX12_picks 25 = .ok (.iload 4, 2) := by decide +kernel
theorem dX12_picks_27 : decode cX12_picks 27 = .ok (.iaload, 1) := by decide +kernel
theorem dX12_picks_28 : decode cX12_picks 28 = .ok (.aload_n 0, 1) := by decide +kernel
theorem dX12_picks_29 : decode cX12_picks 29 = .ok (.getfield 7, 3) := by decide +kernel
theorem dX12_picks_32 : decode cX12_picks 32 = .ok (.iload_n 3, 1) := by decide +kernel
theorem dX12_picks_33 : decode cX12_picks 33 = .ok (.iconst 1, 1) := by decide +kernel
theorem dX12_picks_34 : decode cX12_picks 34 = .ok (.iadd, 1) := by decide +kernel
theorem dX12_picks_35 : decode cX12_picks 35 = .ok (.iaload, 1) := by decide +kernel
theorem dX12_picks_36 : decode cX12_picks 36 = .ok (.if_icmp .ge 13, 3) := by decide +kernel
theorem dX12_picks_39 : decode cX12_picks 39 = .ok (.aload_n 0, 1) := by decide +kernel
theorem dX12_picks_40 : decode cX12_picks 40 = .ok (.getfield 7, 3) := by decide +kernel
theorem dX12_picks_43 : decode cX12_picks 43 = .ok (.iload 4, 2) := by decide +kernel
theorem dX12_picks_45 : decode cX12_picks 45 = .ok (.iaload, 1) := by decide +kernel
theorem dX12_picks_46 : decode cX12_picks 46 = .ok (.goto 11, 3) := by decide +kernel
theorem dX12_picks_49 : decode cX12_picks 49 = .ok (.aload_n 0, 1) := by decide +kernel
theorem dX12_picks_50 : decode cX12_picks 50 = .ok (.getfield 7, 3) := by decide +kernel
theorem dX12_picks_53 : decode cX12_picks 53 = .ok (.iload_n 3, 1) := by decide +kernel
theorem dX12_picks_54 : decode cX12_picks 54 = .ok (.iconst 1, 1) := by decide +kernel
theorem dX12_picks_55 : decode cX12_picks 55 = .ok (.iadd, 1) := by decide +kernel
theorem dX12_picks_56 : decode cX12_picks 56 = .ok (.iaload, 1) := by decide +kernel
theorem dX12_picks_57 : decode cX12_picks 57 = .ok (.istore 5, 2) := by decide +kernel
theorem dX12_picks_59 : decode cX12_picks 59 = .ok (.aload_n 0, 1) := by decide +kernel
theorem dX12_picks_60 : decode cX12_picks 60 = .ok (.getfield 7, 3) := by decide +kernel
theorem dX12_picks_63 : decode cX12_picks 63 = .ok (.iload 4, 2) := by decide +kernel
theorem dX12_picks_65 : decode cX12_picks 65 = .ok (.dup2, 1) := by decide +kernel
theorem dX12_picks_66 : decode cX12_picks 66 = .ok (.iaload, 1) := by decide +kernel
theorem dX12_picks_67 : decode cX12_picks 67 = .ok (.iload 5, 2) := by decide +kernel
theorem dX12_picks_69 : decode cX12_picks 69 = .ok (.isub, 1) := by decide +kernel
theorem dX12_picks_70 : decode cX12_picks 70 = .ok (.iastore, 1) := by decide +kernel
theorem dX12_picks_71 : decode cX12_picks 71 = .ok (.aload_n 0, 1) := by decide +kernel
theorem dX12_picks_72 : decode cX12_picks 72 = .ok (.getfield 7, 3) := by decide +kernel
theorem dX12_picks_75 : decode cX12_picks 75 = .ok (.iload_n 3, 1) := by decide +kernel
theorem dX12_picks_76 : decode cX12_picks 76 = .ok (.iconst 2, 1) := by decide +kernel
theorem dX12_picks_77 : decode cX12_picks 77 = .ok (.iadd, 1) := by decide +kernel
theorem dX12_picks_78 : decode cX12_picks 78 = .ok (.iload 5, 2) := by decide +kernel
theorem dX12_picks_80 : decode cX12_picks 80 = .ok (.iastore, 1) := by decide +kernel
theorem dX12_picks_81 : decode cX12_picks 81 = .ok (.iload 5, 2) := by decide +kernel
theorem dX12_picks_83 : decode cX12_picks 83 = .ok (.ireturn, 1) := by decide +kernel
theorem dX12_pickBatch_0 : decode cX12_pickBatch 0 = .ok (.aload_n 0, 1) := by decide +kernel
theorem dX12_pickBatch_1 : decode cX12_pickBatch 1 = .ok (.aload_n 0, 1) := by decide +kernel
theorem dX12_pickBatch_2 : decode cX12_pickBatch 2 = .ok (.getfield 7, 3) := by decide +kernel
theorem dX12_pickBatch_5 : decode cX12_pickBatch 5 = .ok (.iconst 5, 1) := by decide +kernel
theorem dX12_pickBatch_6 : decode cX12_pickBatch 6 = .ok (.iaload, 1) := by decide +kernel
theorem dX12_pickBatch_7 : decode cX12_pickBatch 7 = .ok (.ifCond .le 7, 3) := by decide +kernel
theorem dX12_pickBatch_10 : decode cX12_pickBatch 10 = .ok (.iconst 0, 1) := by decide +kernel
theorem dX12_pickBatch_11 : decode cX12_pickBatch 11 = .ok (.goto 4, 3) := by decide +kernel
theorem dX12_pickBatch_14 : decode cX12_pickBatch 14 = .ok (.iconst 1, 1) := by decide +kernel
theorem dX12_pickBatch_15 : decode cX12_pickBatch 15 = .ok (.putfield 70, 3) := by decide +kernel
theorem dX12_pickBatch_18 : decode cX12_pickBatch 18 = .ok (.aload_n 0, 1) := by decide +kernel
theorem dX12_pickBatch_19 : decode cX12_pickBatch 19 = .ok (.getfield 70, 3) := by decide +kernel
theorem dX12_pickBatch_22 : decode cX12_pickBatch 22 = .ok (.ifCond .le 5, 3) := by decide +kernel
theorem dX12_pickBatch_25 : decode cX12_pickBatch 25 = .ok (.iconst 0, 1) := by decide +kernel
theorem dX12_pickBatch_26 : decode cX12_pickBatch 26 = .ok (.ireturn, 1) := by decide +kernel
theorem dX12_pickBatch_27 : decode cX12_pickBatch 27 = .ok (.aload_n 0, 1) := by decide +kernel
theorem dX12_pickBatch_28 : decode cX12_pickBatch 28 = .ok (.getfield 7, 3) := by decide +kernel
theorem dX12_pickBatch_31 : decode cX12_pickBatch 31 = .ok (.sipush 461, 3) := by decide +kernel
theorem dX12_pickBatch_34 : decode cX12_pickBatch 34 = .ok (.iaload, 1) := by decide +kernel
theorem dX12_pickBatch_35 : decode cX12_pickBatch 35 = .ok (.istore_n 1, 1) := by decide +kernel
theorem dX12_pickBatch_36 : decode cX12_pickBatch 36 = .ok (.iconst 0, 1) := by decide +kernel
theorem dX12_pickBatch_37 : decode cX12_pickBatch 37 = .ok (.istore_n 2, 1) := by decide +kernel
theorem dX12_pickBatch_38 : decode cX12_pickBatch 38 = .ok (.iconst 0, 1) := by decide +kernel
theorem dX12_pickBatch_39 : decode cX12_pickBatch 39 = .ok (.istore_n 3, 1) := by decide +kernel
theorem dX12_pickBatch_40 : decode cX12_pickBatch 40 = .ok (.iload_n 3, 1) := by decide +kernel
theorem dX12_pickBatch_41 : decode cX12_pickBatch 41 = .ok (.aload_n 0, 1) := by decide +kernel
theorem dX12_pickBatch_42 : decode cX12_pickBatch 42 = .ok (.getfield 7, 3) := by decide +kernel
theorem dX12_pickBatch_45 : decode cX12_pickBatch 45 = .ok (.iconst 4, 1) := by decide +kernel
theorem dX12_pickBatch_46 : decode cX12_pickBatch 46 = .ok (.iaload, 1) := by decide +kernel
theorem dX12_pickBatch_47 : decode cX12_pickBatch 47 = .ok (.if_icmp .ge 47, 3) := by decide +kernel
theorem dX12_pickBatch_50 : decode cX12_pickBatch 50 = .ok (.iconst 0, 1) := by decide +kernel
theorem dX12_pickBatch_51 : decode cX12_pickBatch 51 = .ok (.istore 4, 2) := by decide +kernel
theorem dX12_pickBatch_53 : decode cX12_pickBatch 53 = .ok (.iload_n 1, 1) := by decide +kernel
theorem dX12_pickBatch_54 : decode cX12_pickBatch 54 = .ok (.iload_n 3, 1) := by decide +kernel
theorem dX12_pickBatch_55 : decode cX12_pickBatch 55 = .ok (.invokestatic 136, 3) := by decide +kernel
theorem dX12_pickBatch_58 : decode cX12_pickBatch 58 = .ok (.ifCond .eq 30, 3) := by decide +kernel
theorem dX12_pickBatch_61 : decode cX12_pickBatch 61 = .ok (.iload 4, 2) := by decide +kernel
theorem dX12_pickBatch_63 : decode cX12_pickBatch 63 = .ok (.aload_n 0, 1) := by decide +kernel
theorem dX12_pickBatch_64 : decode cX12_pickBatch 64 = .ok (.iload_n 3, 1) := by decide +kernel
theorem dX12_pickBatch_65 : decode cX12_pickBatch 65 = .ok (.iconst 2, 1) := by decide +kernel
theorem dX12_pickBatch_66 : decode cX12_pickBatch 66 = .ok (.invokevirtual 107, 3) := by decide +kernel
theorem dX12_pickBatch_69 : decode cX12_pickBatch 69 = .ok (.if_icmp .ge 19, 3) := by decide +kernel
theorem dX12_pickBatch_72 : decode cX12_pickBatch 72 = .ok (.iload_n 2, 1) := by decide +kernel
theorem dX12_pickBatch_73 : decode cX12_pickBatch 73 = .ok (.aload_n 0, 1) := by decide +kernel
theorem dX12_pickBatch_74 : decode cX12_pickBatch 74 = .ok (.iload_n 3, 1) := by decide +kernel
theorem dX12_pickBatch_75 : decode cX12_pickBatch 75 = .ok (.iload 4, 2) := by decide +kernel
theorem dX12_pickBatch_77 : decode cX12_pickBatch 77 = .ok (.invokevirtual 340, 3) := by decide +kernel
theorem dX12_pickBatch_80 : decode cX12_pickBatch 80 = .ok (.iadd, 1) := by decide +kernel
theorem dX12_pickBatch_81 : decode cX12_pickBatch 81 = .ok (.istore_n 2, 1) := by decide +kernel
theorem dX12_pickBatch_82 : decode cX12_pickBatch 82 = .ok (.iinc 4 1, 3) := by decide +kernel
theorem dX12_pickBatch_85 : decode cX12_pickBatch 85 = .ok (.goto (-32), 3) := by decide +kernel
theorem dX12_pickBatch_88 : decode cX12_pickBatch 88 = .ok (.iinc 3 1, 3) := by decide +kernel
theorem dX12_pickBatch_91 : decode cX12_pickBatch 91 = .ok (.goto (-51), 3) := by decide +kernel
theorem dX12_pickBatch_94 : decode cX12_pickBatch 94 = .ok (.aload_n 0, 1) := by decide +kernel
theorem dX12_pickBatch_95 : decode cX12_pickBatch 95 = .ok (.iload_n 1, 1) := by decide +kernel
theorem dX12_pickBatch_96 : decode cX12_pickBatch 96 = .ok (.iconst 2, 1) := by decide +kernel
theorem dX12_pickBatch_97 : decode cX12_pickBatch 97 = .ok (.invokevirtual 149, 3) := by decide +kernel
theorem dX12_pickBatch_100 : decode cX12_pickBatch 100 = .ok (.aload_n 0, 1) := by decide +kernel
theorem dX12_pickBatch_101 : decode cX12_pickBatch 101 = .ok (.iconst 0, 1) := by decide +kernel
theorem dX12_pickBatch_102 : decode cX12_pickBatch 102 = .ok (.invokevirtual 142, 3) := by decide +kernel
theorem dX12_pickBatch_105 : decode cX12_pickBatch 105 = .ok (.iload_n 2, 1) := by decide +kernel
theorem dX12_pickBatch_106 : decode cX12_pickBatch 106 = .ok (.ireturn, 1) := by decide +kernel
theorem dX12_ofLine_0 : decode cX12_ofLine 0 = .ok (.aload_n 0, 1) := by decide +kernel
theorem dX12_ofLine_1 : decode cX12_ofLine 1 = .ok (.aload_n 0, 1) := by decide +kernel
theorem dX12_ofLine_2 : decode cX12_ofLine 2 = .ok (.iload_n 1, 1) := by decide +kernel
theorem dX12_ofLine_3 : decode cX12_ofLine 3 = .ok (.invokevirtual 113, 3) := by decide +kernel
theorem dX12_ofLine_6 : decode cX12_ofLine 6 = .ok (.ifCond .eq 23, 3) := by decide +kernel
theorem dX12_ofLine_9 : decode cX12_ofLine 9 = .ok (.iload_n 2, 1) := by decide +kernel
theorem dX12_ofLine_10 : decode cX12_ofLine 10 = .ok (.iconst 0, 1) := by decide +kernel
theorem dX12_ofLine_11 : decode cX12_ofLine 11 = .ok (.aload_n 0, 1) := by decide +kernel
theorem dX12_ofLine_12 : decode cX12_ofLine 12 = .ok (.iload_n 1, 1) := by decide +kernel
theorem dX12_ofLine_13 : decode cX12_ofLine 13 = .ok (.iconst 2, 1) := by decide +kernel
theorem dX12_ofLine_14 : decode cX12_ofLine 14 = .ok (.invokevirtual 107, 3) := by decide +kernel
theorem dX12_ofLine_17 : decode cX12_ofLine 17 = .ok (.iconst 1, 1) := by decide +kernel
theorem dX12_ofLine_18 : decode cX12_ofLine 18 = .ok (.isub, 1) := by decide +kernel
theorem dX12_ofLine_19 : decode cX12_ofLine 19 = .ok (.invokestatic 73, 3) := by decide +kernel
theorem dX12_ofLine_22 : decode cX12_ofLine 22 = .ok (.ifCond .eq 7, 3) := by decide +kernel
theorem dX12_ofLine_25 : decode cX12_ofLine 25 = .ok (.iconst 0, 1) := by decide +kernel
theorem dX12_ofLine_26 : decode cX12_ofLine 26 = .ok (.goto 4, 3) := by decide +kernel
theorem dX12_ofLine_29 : decode cX12_ofLine 29 = .ok (.iconst 1, 1) := by decide +kernel
theorem dX12_ofLine_30 : decode cX12_ofLine 30 = .ok (.putfield 70, 3) := by decide +kernel
theorem dX12_ofLine_33 : decode cX12_ofLine 33 = .ok (.aload_n 0, 1) := by decide +kernel
theorem dX12_ofLine_34 : decode cX12_ofLine 34 = .ok (.getfield 70, 3) := by decide +kernel
theorem dX12_ofLine_37 : decode cX12_ofLine 37 = .ok (.ifCond .gt 13, 3) := by decide +kernel
theorem dX12_ofLine_40 : decode cX12_ofLine 40 = .ok (.aload_n 0, 1) := by decide +kernel
theorem dX12_ofLine_41 : decode cX12_ofLine 41 = .ok (.iload_n 1, 1) := by decide +kernel
theorem dX12_ofLine_42 : decode cX12_ofLine 42 = .ok (.iconst 1, 1) := by decide +kernel
theorem dX12_ofLine_43 : decode cX12_ofLine 43 = .ok (.invokevirtual 107, 3) := by decide +kernel
theorem dX12_ofLine_46 : decode cX12_ofLine 46 = .ok (.iconst 2, 1) := by decide +kernel
theorem dX12_ofLine_47 : decode cX12_ofLine 47 = .ok (.if_icmp .eq 5, 3) := by decide +kernel
theorem dX12_ofLine_50 : decode cX12_ofLine 50 = .ok (.iconst 0, 1) := by decide +kernel
theorem dX12_ofLine_51 : decode cX12_ofLine 51 = .ok (.ireturn, 1) := by decide +kernel
theorem dX12_ofLine_52 : decode cX12_ofLine 52 = .ok (.iload_n 1, 1) := by decide +kernel
theorem dX12_ofLine_53 : decode cX12_ofLine 53 = .ok (.iload_n 2, 1) := by decide +kernel
theorem dX12_ofLine_54 : decode cX12_ofLine 54 = .ok (.invokestatic 110, 3) := by decide +kernel
theorem dX12_ofLine_57 : decode cX12_ofLine 57 = .ok (.istore 4, 2) := by decide +kernel
theorem dX12_ofLine_59 : decode cX12_ofLine 59 = .ok (.iload_n 3, 1) := by decide +kernel
theorem dX12_ofLine_60 : decode cX12_ofLine 60 = .ok (.ifCond .eq 25, 3) := by decide +kernel
theorem dX12_ofLine_63 : decode cX12_ofLine 63 = .ok (.aload_n 0, 1) := by decide +kernel
theorem dX12_ofLine_64 : decode cX12_ofLine 64 = .ok (.getfield 7, 3) := by decide +kernel
theorem dX12_ofLine_67 : decode cX12_ofLine 67 = .ok (.iload 4, 2) := by decide +kernel
theorem dX12_ofLine_69 : decode cX12_ofLine 69 = .ok (.iconst 1, 1) := by decide +kernel
theorem dX12_ofLine_70 : decode cX12_ofLine 70 = .ok (.iadd, 1) := by decide +kernel
theorem dX12_ofLine_71 : decode cX12_ofLine 71 = .ok (.iaload, 1) := by decide +kernel
theorem dX12_ofLine_72 : decode cX12_ofLine 72 = .ok (.aload_n 0, 1) := by decide +kernel
theorem dX12_ofLine_73 : decode cX12_ofLine 73 = .ok (.getfield 7, 3) := by decide +kernel
theorem dX12_ofLine_76 : decode cX12_ofLine 76 = .ok (.iload 4, 2) := by decide +kernel
theorem dX12_ofLine_78 : decode cX12_ofLine 78 = .ok (.iconst 2, 1) := by decide +kernel
theorem dX12_ofLine_79 : decode cX12_ofLine 79 = .ok (.iadd, 1) := by decide +kernel
theorem dX12_ofLine_80 : decode cX12_ofLine 80 = .ok (.iaload, 1) := by decide +kernel
theorem dX12_ofLine_81 : decode cX12_ofLine 81 = .ok (.isub, 1) := by decide +kernel
theorem dX12_ofLine_82 : decode cX12_ofLine 82 = .ok (.goto 12, 3) := by decide +kernel
theorem dX12_ofLine_85 : decode cX12_ofLine 85 = .ok (.aload_n 0, 1) := by decide +kernel
theorem dX12_ofLine_86 : decode cX12_ofLine 86 = .ok (.getfield 7, 3) := by decide +kernel
theorem dX12_ofLine_89 : decode cX12_ofLine 89 = .ok (.iload 4, 2) := by decide +kernel
theorem dX12_ofLine_91 : decode cX12_ofLine 91 = .ok (.iconst 2, 1) := by decide +kernel
theorem dX12_ofLine_92 : decode cX12_ofLine 92 = .ok (.iadd, 1) := by decide +kernel
theorem dX12_ofLine_93 : decode cX12_ofLine 93 = .ok (.iaload, 1) := by decide +kernel
theorem dX12_ofLine_94 : decode cX12_ofLine 94 = .ok (.ireturn, 1) := by decide +kernel
theorem dX12_pickedUnits_0 : decode cX12_pickedUnits 0 = .ok (.aload_n 0, 1) := by decide +kernel
theorem dX12_pickedUnits_1 : decode cX12_pickedUnits 1 = .ok (.iload_n 1, 1) := by decide +kernel
theorem dX12_pickedUnits_2 : decode cX12_pickedUnits 2 = .ok (.iload_n 2, 1) := by decide +kernel
theorem dX12_pickedUnits_3 : decode cX12_pickedUnits 3 = .ok (.iconst 0, 1) := by decide +kernel
theorem dX12_pickedUnits_4 : decode cX12_pickedUnits 4 = .ok (.invokevirtual 343, 3) := by decide +kernel
theorem dX12_pickedUnits_7 : decode cX12_pickedUnits 7 = .ok (.ireturn, 1) := by decide +kernel
theorem dX12_shortUnits_0 : decode cX12_shortUnits 0 = .ok (.aload_n 0, 1) := by decide +kernel
theorem dX12_shortUnits_1 : decode cX12_shortUnits 1 = .ok (.iload_n 1, 1) := by decide +kernel
theorem dX12_shortUnits_2 : decode cX12_shortUnits 2 = .ok (.iload_n 2, 1) := by decide +kernel
theorem dX12_shortUnits_3 : decode cX12_shortUnits 3 = .ok (.iconst 1, 1) := by decide +kernel
theorem dX12_shortUnits_4 : decode cX12_shortUnits 4 = .ok (.invokevirtual 343, 3) := by decide +kernel
theorem dX12_shortUnits_7 : decode cX12_shortUnits 7 = .ok (.ireturn, 1) := by decide +kernel
theorem dX12_sumOf_0 : decode cX12_sumOf 0 = .ok (.aload_n 0, 1) := by decide +kernel
theorem dX12_sumOf_1 : decode cX12_sumOf 1 = .ok (.iconst 0, 1) := by decide +kernel
theorem dX12_sumOf_2 : decode cX12_sumOf 2 = .ok (.putfield 70, 3) := by decide +kernel
theorem dX12_sumOf_5 : decode cX12_sumOf 5 = .ok (.iconst 0, 1) := by decide +kernel
theorem dX12_sumOf_6 : decode cX12_sumOf 6 = .ok (.istore_n 2, 1) := by decide +kernel
theorem dX12_sumOf_7 : decode cX12_sumOf 7 = .ok (.iconst 0, 1) := by decide +kernel
theorem dX12_sumOf_8 : decode cX12_sumOf 8 = .ok (.istore_n 3, 1) := by decide +kernel
theorem dX12_sumOf_9 : decode cX12_sumOf 9 = .ok (.iload_n 3, 1) := by decide +kernel
theorem dX12_sumOf_10 : decode cX12_sumOf 10 = .ok (.aload_n 0, 1) := by decide +kernel
theorem dX12_sumOf_11 : decode cX12_sumOf 11 = .ok (.getfield 7, 3) := by decide +kernel
theorem dX12_sumOf_14 : decode cX12_sumOf 14 = .ok (.iconst 4, 1) := by decide +kernel
theorem dX12_sumOf_15 : decode cX12_sumOf 15 = .ok (.iaload, 1) := by decide +kernel
theorem dX12_sumOf_16 : decode cX12_sumOf 16 = .ok (.if_icmp .ge 55, 3) := by decide +kernel
theorem dX12_sumOf_19 : decode cX12_sumOf 19 = .ok (.iconst 0, 1) := by decide +kernel
theorem dX12_sumOf_20 : decode cX12_sumOf 20 = .ok (.istore 4, 2) := by decide +kernel
theorem dX12_sumOf_22 : decode cX12_sumOf 22 = .ok (.aload_n 0, 1) := by decide +kernel
theorem dX12_sumOf_23 : decode cX12_sumOf 23 = .ok (.iload_n 3, 1) := by decide +kernel
theorem dX12_sumOf_24 : decode cX12_sumOf 24 = .ok (.iconst 1, 1) := by decide +kernel
theorem dX12_sumOf_25 : decode cX12_sumOf 25 = .ok (.invokevirtual 107, 3) := by decide +kernel
theorem dX12_sumOf_28 : decode cX12_sumOf 28 = .ok (.iconst 2, 1) := by decide +kernel
theorem dX12_sumOf_29 : decode cX12_sumOf 29 = .ok (.if_icmp .ne 36, 3) := by decide +kernel
theorem dX12_sumOf_32 : decode cX12_sumOf 32 = .ok (.iload 4, 2) := by decide +kernel
theorem dX12_sumOf_34 : decode cX12_sumOf 34 = .ok (.aload_n 0, 1) := by decide +kernel
theorem dX12_sumOf_35 : decode cX12_sumOf 35 = .ok (.iload_n 3, 1) := by decide +kernel
theorem dX12_sumOf_36 : decode cX12_sumOf 36 = .ok (.iconst 2, 1) := by decide +kernel
theorem dX12_sumOf_37 : decode cX12_sumOf 37 = .ok (.invokevirtual 107, 3) := by decide +kernel
theorem dX12_sumOf_40 : decode cX12_sumOf 40 = .ok (.if_icmp .ge 25, 3) := by decide +kernel
theorem dX12_sumOf_43 : decode cX12_sumOf 43 = .ok (.iload_n 2, 1) := by decide +kernel
theorem dX12_sumOf_44 : decode cX12_sumOf 44 = .ok (.aload_n 0, 1) := by decide +kernel
theorem dX12_sumOf_45 : decode cX12_sumOf 45 = .ok (.getfield 7, 3) := by decide +kernel
theorem dX12_sumOf_48 : decode cX12_sumOf 48 = .ok (.iload_n 3, 1) := by decide +kernel
theorem dX12_sumOf_49 : decode cX12_sumOf 49 = .ok (.iload 4, 2) := by decide +kernel
theorem dX12_sumOf_51 : decode cX12_sumOf 51 = .ok (.invokestatic 110, 3) := by decide +kernel
theorem dX12_sumOf_54 : decode cX12_sumOf 54 = .ok (.iload_n 1, 1) := by decide +kernel
theorem dX12_sumOf_55 : decode cX12_sumOf 55 = .ok (.iadd, 1) := by decide +kernel
theorem dX12_sumOf_56 : decode cX12_sumOf 56 = .ok (.iaload, 1) := by decide +kernel
theorem dX12_sumOf_57 : decode cX12_sumOf 57 = .ok (.iadd, 1) := by decide +kernel
theorem dX12_sumOf_58 : decode cX12_sumOf 58 = .ok (.istore_n 2, 1) := by decide +kernel
theorem dX12_sumOf_59 : decode cX12_sumOf 59 = .ok (.iinc 4 1, 3) := by decide +kernel
theorem dX12_sumOf_62 : decode cX12_sumOf 62 = .ok (.goto (-40), 3) := by decide +kernel
theorem dX12_sumOf_65 : decode cX12_sumOf 65 = .ok (.iinc 3 1, 3) := by decide +kernel
theorem dX12_sumOf_68 : decode cX12_sumOf 68 = .ok (.goto (-59), 3) := by decide +kernel
theorem dX12_sumOf_71 : decode cX12_sumOf 71 = .ok (.iload_n 2, 1) := by decide +kernel
theorem dX12_sumOf_72 : decode cX12_sumOf 72 = .ok (.ireturn, 1) := by decide +kernel
theorem dX12_totalOrdered_0 : decode cX12_totalOrdered 0 = .ok (.aload_n 0, 1) := by decide +kernel
theorem dX12_totalOrdered_1 : decode cX12_totalOrdered 1 = .ok (.iconst 1, 1) := by decide +kernel
theorem dX12_totalOrdered_2 : decode cX12_totalOrdered 2 = .ok (.invokevirtual 347, 3) := by decide +kernel
theorem dX12_totalOrdered_5 : decode cX12_totalOrdered 5 = .ok (.ireturn, 1) := by decide +kernel
theorem dX12_totalPicked_0 : decode cX12_totalPicked 0 = .ok (.aload_n 0, 1) := by decide +kernel
theorem dX12_totalPicked_1 : decode cX12_totalPicked 1 = .ok (.iconst 2, 1) := by decide +kernel
theorem dX12_totalPicked_2 : decode cX12_totalPicked 2 = .ok (.invokevirtual 347, 3) := by decide +kernel
theorem dX12_totalPicked_5 : decode cX12_totalPicked 5 = .ok (.ireturn, 1) := by decide +kernel
theorem dX12_shortOf_0 : decode cX12_shortOf 0 = .ok (.iconst 0, 1) := by decide +kernel
theorem dX12_shortOf_1 : decode cX12_shortOf 1 = .ok (.istore_n 2, 1) := by decide +kernel
theorem dX12_shortOf_2 : decode cX12_shortOf 2 = .ok (.iconst 0, 1) := by decide +kernel
theorem dX12_shortOf_3 : decode cX12_shortOf 3 = .ok (.istore_n 3, 1) := by decide +kernel
theorem dX12_shortOf_4 : decode cX12_shortOf 4 = .ok (.iload_n 3, 1) := by decide +kernel
theorem dX12_shortOf_5 : decode cX12_shortOf 5 = .ok (.aload_n 0, 1) := by decide +kernel
theorem dX12_shortOf_6 : decode cX12_shortOf 6 = .ok (.iload_n 1, 1) := by decide +kernel
theorem dX12_shortOf_7 : decode cX12_shortOf 7 = .ok (.iconst 2, 1) := by decide +kernel
theorem dX12_shortOf_8 : decode cX12_shortOf 8 = .ok (.invokevirtual 107, 3) := by decide +kernel
theorem dX12_shortOf_11 : decode cX12_shortOf 11 = .ok (.if_icmp .ge 37, 3) := by decide +kernel
theorem dX12_shortOf_14 : decode cX12_shortOf 14 = .ok (.iload_n 2, 1) := by decide +kernel
theorem dX12_shortOf_15 : decode cX12_shortOf 15 = .ok (.aload_n 0, 1) := by decide +kernel
theorem dX12_shortOf_16 : decode cX12_shortOf 16 = .ok (.getfield 7, 3) := by decide +kernel
theorem dX12_shortOf_19 : decode cX12_shortOf 19 = .ok (.iload_n 1, 1) := by decide +kernel
theorem dX12_shortOf_20 : decode cX12_shortOf 20 = .ok (.iload_n 3, 1) := by decide +kernel
theorem dX12_shortOf_21 : decode cX12_shortOf 21 = .ok (.invokestatic 110, 3) := by decide +kernel
theorem dX12_shortOf_24 : decode cX12_shortOf 24 = .ok (.iconst 1, 1) := by decide +kernel
theorem dX12_shortOf_25 : decode cX12_shortOf 25 = .ok (.iadd, 1) := by decide +kernel
theorem dX12_shortOf_26 : decode cX12_shortOf 26 = .ok (.iaload, 1) := by decide +kernel
theorem dX12_shortOf_27 : decode cX12_shortOf 27 = .ok (.aload_n 0, 1) := by decide +kernel
theorem dX12_shortOf_28 : decode cX12_shortOf 28 = .ok (.getfield 7, 3) := by decide +kernel
theorem dX12_shortOf_31 : decode cX12_shortOf 31 = .ok (.iload_n 1, 1) := by decide +kernel
theorem dX12_shortOf_32 : decode cX12_shortOf 32 = .ok (.iload_n 3, 1) := by decide +kernel
theorem dX12_shortOf_33 : decode cX12_shortOf 33 = .ok (.invokestatic 110, 3) := by decide +kernel
theorem dX12_shortOf_36 : decode cX12_shortOf 36 = .ok (.iconst 2, 1) := by decide +kernel
theorem dX12_shortOf_37 : decode cX12_shortOf 37 = .ok (.iadd, 1) := by decide +kernel
theorem dX12_shortOf_38 : decode cX12_shortOf 38 = .ok (.iaload, 1) := by decide +kernel
theorem dX12_shortOf_39 : decode cX12_shortOf 39 = .ok (.isub, 1) := by decide +kernel
theorem dX12_shortOf_40 : decode cX12_shortOf 40 = .ok (.iadd, 1) := by decide +kernel
theorem dX12_shortOf_41 : decode cX12_shortOf 41 = .ok (.istore_n 2, 1) := by decide +kernel
theorem dX12_shortOf_42 : decode cX12_shortOf 42 = .ok (.iinc 3 1, 3) := by decide +kernel
theorem dX12_shortOf_45 : decode cX12_shortOf 45 = .ok (.goto (-41), 3) := by decide +kernel
theorem dX12_shortOf_48 : decode cX12_shortOf 48 = .ok (.iload_n 2, 1) := by decide +kernel
theorem dX12_shortOf_49 : decode cX12_shortOf 49 = .ok (.ireturn, 1) := by decide +kernel
theorem dX12_reorder_0 : decode cX12_reorder 0 = .ok (.aload_n 0, 1) := by decide +kernel
theorem dX12_reorder_1 : decode cX12_reorder 1 = .ok (.aload_n 0, 1) := by decide +kernel
theorem dX12_reorder_2 : decode cX12_reorder 2 = .ok (.iload_n 1, 1) := by decide +kernel
theorem dX12_reorder_3 : decode cX12_reorder 3 = .ok (.invokevirtual 113, 3) := by decide +kernel
theorem dX12_reorder_6 : decode cX12_reorder 6 = .ok (.ifCond .ne 7, 3) := by decide +kernel
theorem dX12_reorder_9 : decode cX12_reorder 9 = .ok (.iconst 1, 1) := by decide +kernel
theorem dX12_reorder_10 : decode cX12_reorder 10 = .ok (.goto 19, 3) := by decide +kernel
theorem dX12_reorder_13 : decode cX12_reorder 13 = .ok (.iload_n 2, 1) := by decide +kernel
theorem dX12_reorder_14 : decode cX12_reorder 14 = .ok (.iconst 0, 1) := by decide +kernel
theorem dX12_reorder_15 : decode cX12_reorder 15 = .ok (.sipush 9999, 3) := by decide +kernel
theorem dX12_reorder_18 : decode cX12_reorder 18 = .ok (.invokestatic 73, 3) := by decide +kernel
theorem dX12_reorder_21 : decode cX12_reorder 21 = .ok (.ifCond .ne 7, 3) := by decide +kernel
theorem dX12_reorder_24 : decode cX12_reorder 24 = .ok (.iconst 2, 1) := by decide +kernel
theorem dX12_reorder_25 : decode cX12_reorder 25 = .ok (.goto 4, 3) := by decide +kernel
theorem dX12_reorder_28 : decode cX12_reorder 28 = .ok (.iconst 0, 1) := by decide +kernel
theorem dX12_reorder_29 : decode cX12_reorder 29 = .ok (.putfield 70, 3) := by decide +kernel
theorem dX12_reorder_32 : decode cX12_reorder 32 = .ok (.aload_n 0, 1) := by decide +kernel
theorem dX12_reorder_33 : decode cX12_reorder 33 = .ok (.getfield 70, 3) := by decide +kernel
theorem dX12_reorder_36 : decode cX12_reorder 36 = .ok (.ifCond .le 5, 3) := by decide +kernel
theorem dX12_reorder_39 : decode cX12_reorder 39 = .ok (.iconst 0, 1) := by decide +kernel
theorem dX12_reorder_40 : decode cX12_reorder 40 = .ok (.ireturn, 1) := by decide +kernel
theorem dX12_reorder_41 : decode cX12_reorder 41 = .ok (.aload_n 0, 1) := by decide +kernel
theorem dX12_reorder_42 : decode cX12_reorder 42 = .ok (.iload_n 1, 1) := by decide +kernel
theorem dX12_reorder_43 : decode cX12_reorder 43 = .ok (.iconst 1, 1) := by decide +kernel
theorem dX12_reorder_44 : decode cX12_reorder 44 = .ok (.invokevirtual 107, 3) := by decide +kernel
theorem dX12_reorder_47 : decode cX12_reorder 47 = .ok (.iconst 2, 1) := by decide +kernel
theorem dX12_reorder_48 : decode cX12_reorder 48 = .ok (.if_icmp .ne 27, 3) := by decide +kernel
theorem dX12_reorder_51 : decode cX12_reorder 51 = .ok (.aload_n 0, 1) := by decide +kernel
theorem dX12_reorder_52 : decode cX12_reorder 52 = .ok (.iload_n 1, 1) := by decide +kernel
theorem dX12_reorder_53 : decode cX12_reorder 53 = .ok (.iconst 3, 1) := by decide +kernel
theorem dX12_reorder_54 : decode cX12_reorder 54 = .ok (.invokevirtual 107, 3) := by decide +kernel
theorem dX12_reorder_57 : decode cX12_reorder 57 = .ok (.ifCond .ne 18, 3) := by decide +kernel
theorem dX12_reorder_60 : decode cX12_reorder 60 = .ok (.aload_n 0, 1) := by decide +kernel
theorem dX12_reorder_61 : decode cX12_reorder 61 = .ok (.getfield 7, 3) := by decide +kernel
theorem dX12_reorder_64 : decode cX12_reorder 64 = .ok (.iconst 4, 1) := by decide +kernel
theorem dX12_reorder_65 : decode cX12_reorder 65 = .ok (.iaload, 1) := by decide +kernel
theorem dX12_reorder_66 : decode cX12_reorder 66 = .ok (.bipush 16, 2) := by decide +kernel
theorem dX12_reorder_68 : decode cX12_reorder 68 = .ok (.if_icmp .ge 7, 3) := by decide +kernel
theorem dX12_reorder_71 : decode cX12_reorder 71 = .ok (.iconst 1, 1) := by decide +kernel
theorem dX12_reorder_72 : decode cX12_reorder 72 = .ok (.goto 4, 3) := by decide +kernel
theorem dX12_reorder_75 : decode cX12_reorder 75 = .ok (.iconst 0, 1) := by decide +kernel
theorem dX12_reorder_76 : decode cX12_reorder 76 = .ok (.istore_n 3, 1) := by decide +kernel
theorem dX12_reorder_77 : decode cX12_reorder 77 = .ok (.aload_n 0, 1) := by decide +kernel
theorem dX12_reorder_78 : decode cX12_reorder 78 = .ok (.iload_n 3, 1) := by decide +kernel
theorem dX12_reorder_79 : decode cX12_reorder 79 = .ok (.ifCond .eq 15, 3) := by decide +kernel
theorem dX12_reorder_82 : decode cX12_reorder 82 = .ok (.aload_n 0, 1) := by decide +kernel
theorem dX12_reorder_83 : decode cX12_reorder 83 = .ok (.iload_n 1, 1) := by decide +kernel
theorem dX12_reorder_84 : decode cX12_reorder 84 = .ok (.invokevirtual 350, 3) := by decide +kernel
theorem dX12_reorder_87 : decode cX12_reorder 87 = .ok (.ifCond .le 7, 3) := by decide +kernel
theorem dX12_reorder_90 : decode cX12_reorder 90 = .ok (.iconst 0, 1) := by decide +kernel
theorem dX12_reorder_91 : decode cX12_reorder 91 = .ok (.goto 4, 3) := by decide +kernel
theorem dX12_reorder_94 : decode cX12_reorder 94 = .ok (.iconst 3, 1) := by decide +kernel
theorem dX12_reorder_95 : decode cX12_reorder 95 = .ok (.putfield 70, 3) := by decide +kernel
theorem dX12_reorder_98 : decode cX12_reorder 98 = .ok (.aload_n 0, 1) := by decide +kernel
theorem dX12_reorder_99 : decode cX12_reorder 99 = .ok (.getfield 70, 3) := by decide +kernel
theorem dX12_reorder_102 : decode cX12_reorder 102 = .ok (.ifCond .le 5, 3) := by decide +kernel
theorem dX12_reorder_105 : decode cX12_reorder 105 = .ok (.iconst 0, 1) := by decide +kernel
theorem dX12_reorder_106 : decode cX12_reorder 106 = .ok (.ireturn, 1) := by decide +kernel
theorem dX12_reorder_107 : decode cX12_reorder 107 = .ok (.aload_n 0, 1) := by decide +kernel
theorem dX12_reorder_108 : decode cX12_reorder 108 = .ok (.iload_n 2, 1) := by decide +kernel
theorem dX12_reorder_109 : decode cX12_reorder 109 = .ok (.invokevirtual 104, 3) := by decide +kernel
theorem dX12_reorder_112 : decode cX12_reorder 112 = .ok (.istore 4, 2) := by decide +kernel
theorem dX12_reorder_114 : decode cX12_reorder 114 = .ok (.iconst 0, 1) := by decide +kernel
theorem dX12_reorder_115 : decode cX12_reorder 115 = .ok (.istore 5, 2) := by decide +kernel
theorem dX12_reorder_117 : decode cX12_reorder 117 = .ok (.iload 5, 2) := by decide +kernel
theorem dX12_reorder_119 : decode cX12_reorder 119 = .ok (.aload_n 0, 1) := by decide +kernel
theorem dX12_reorder_120 : decode cX12_reorder 120 = .ok (.iload_n 1, 1) := by decide +kernel
theorem dX12_reorder_121 : decode cX12_reorder 121 = .ok (.iconst 2, 1) := by decide +kernel
theorem dX12_reorder_122 : decode cX12_reorder 122 = .ok (.invokevirtual 107, 3) := by decide +kernel
theorem dX12_reorder_125 : decode cX12_reorder 125 = .ok (.if_icmp .ge 68, 3) := by decide +kernel
theorem dX12_reorder_128 : decode cX12_reorder 128 = .ok (.aload_n 0, 1) := by decide +kernel
theorem dX12_reorder_129 : decode cX12_reorder 129 = .ok (.getfield 7, 3) := by decide +kernel
theorem dX12_reorder_132 : decode cX12_reorder 132 = .ok (.iload_n 1, 1) := by decide +kernel
theorem dX12_reorder_133 : decode cX12_reorder 133 = .ok (.iload 5, 2) := by decide +kernel
theorem dX12_reorder_135 : decode cX12_reorder 135 = .ok (.invokestatic 110, 3) := by decide +kernel
theorem dX12_reorder_138 : decode cX12_reorder 138 = .ok (.iconst 1, 1) := by decide +kernel
theorem dX12_reorder_139 : decode cX12_reorder 139 = .ok (.iadd, 1) := by decide +kernel
theorem dX12_reorder_140 : decode cX12_reorder 140 = .ok (.iaload, 1) := by decide +kernel
theorem dX12_reorder_141 : decode cX12_reorder 141 = .ok (.aload_n 0, 1) := by decide +kernel
theorem dX12_reorder_142 : decode cX12_reorder 142 = .ok (.getfield 7, 3) := by decide +kernel
theorem dX12_reorder_145 : decode cX12_reorder 145 = .ok (.iload_n 1, 1) := by decide +kernel
theorem dX12_reorder_146 : decode cX12_reorder 146 = .ok (.iload 5, 2) := by decide +kernel
theorem dX12_reorder_148 : decode cX12_reorder 148 = .ok (.invokestatic 110, 3) := by decide +kernel
theorem dX12_reorder_151 : decode cX12_reorder 151 = .ok (.iconst 2, 1) := by decide +kernel
theorem dX12_reorder_152 : decode cX12_reorder 152 = .ok (.iadd, 1) := by decide +kernel
theorem dX12_reorder_153 : decode cX12_reorder 153 = .ok (.iaload, 1) := by decide +kernel
theorem dX12_reorder_154 : decode cX12_reorder 154 = .ok (.isub, 1) := by decide +kernel
theorem dX12_reorder_155 : decode cX12_reorder 155 = .ok (.istore 6, 2) := by decide +kernel
theorem dX12_reorder_157 : decode cX12_reorder 157 = .ok (.iload 6, 2) := by decide +kernel
theorem dX12_reorder_159 : decode cX12_reorder 159 = .ok (.ifCond .le 25, 3) := by decide +kernel
theorem dX12_reorder_162 : decode cX12_reorder 162 = .ok (.aload_n 0, 1) := by decide +kernel
theorem dX12_reorder_163 : decode cX12_reorder 163 = .ok (.iload 4, 2) := by decide +kernel
theorem dX12_reorder_165 : decode cX12_reorder 165 = .ok (.aload_n 0, 1) := by decide +kernel
theorem dX12_reorder_166 : decode cX12_reorder 166 = .ok (.getfield 7, 3) := by decide +kernel
theorem dX12_reorder_169 : decode cX12_reorder 169 = .ok (.iload_n 1, 1) := by decide +kernel
theorem dX12_reorder_170 : decode cX12_reorder 170 = .ok (.iload 5, 2) := by decide +kernel
theorem dX12_reorder_172 : decode cX12_reorder 172 = .ok (.invokestatic 110, 3) := by decide +kernel
theorem dX12_reorder_175 : decode cX12_reorder 175 = .ok (.iaload, 1) := by decide +kernel
theorem dX12_reorder_176 : decode cX12_reorder 176 = .ok (.iload 6, 2) := by decide +kernel
theorem dX12_reorder_178 : decode cX12_reorder 178 = .ok (.invokevirtual 120, 3) := by decide +kernel
theorem dX12_reorder_181 : decode cX12_reorder 181 = .ok (.goto 4, 3) := by decide +kernel
theorem dX12_reorder_184 : decode cX12_reorder 184 = .ok (.iconst (-1), 1) := by decide +kernel
theorem dX12_reorder_185 : decode cX12_reorder 185 = .ok (.istore 7, 2) := by decide +kernel
theorem dX12_reorder_187 : decode cX12_reorder 187 = .ok (.iinc 5 1, 3) := by decide +kernel
theorem dX12_reorder_190 : decode cX12_reorder 190 = .ok (.goto (-73), 3) := by decide +kernel
theorem dX12_reorder_193 : decode cX12_reorder 193 = .ok (.aload_n 0, 1) := by decide +kernel
theorem dX12_reorder_194 : decode cX12_reorder 194 = .ok (.getfield 7, 3) := by decide +kernel
theorem dX12_reorder_197 : decode cX12_reorder 197 = .ok (.iload_n 1, 1) := by decide +kernel
theorem dX12_reorder_198 : decode cX12_reorder 198 = .ok (.invokestatic 100, 3) := by decide +kernel
theorem dX12_reorder_201 : decode cX12_reorder 201 = .ok (.iconst 3, 1) := by decide +kernel
theorem dX12_reorder_202 : decode cX12_reorder 202 = .ok (.iadd, 1) := by decide +kernel
theorem dX12_reorder_203 : decode cX12_reorder 203 = .ok (.iconst 1, 1) := by decide +kernel
theorem dX12_reorder_204 : decode cX12_reorder 204 = .ok (.iastore, 1) := by decide +kernel
theorem dX12_reorder_205 : decode cX12_reorder 205 = .ok (.iload 4, 2) := by decide +kernel
theorem dX12_reorder_207 : decode cX12_reorder 207 = .ok (.ireturn, 1) := by decide +kernel
theorem dX12_appendText_0 : decode cX12_appendText 0 = .ok (.aload_n 0, 1) := by decide +kernel
theorem dX12_appendText_1 : decode cX12_appendText 1 = .ok (.aload_n 0, 1) := by decide +kernel
theorem dX12_appendText_2 : decode cX12_appendText 2 = .ok (.getfield 353, 3) := by decide +kernel
theorem dX12_appendText_5 : decode cX12_appendText 5 = .ok (.iconst 4, 1) := by decide +kernel
theorem dX12_appendText_6 : decode cX12_appendText 6 = .ok (.iadd, 1) := by decide +kernel
theorem dX12_appendText_7 : decode cX12_appendText 7 = .ok (.sipush 600, 3) := by decide +kernel
theorem dX12_appendText_10 : decode cX12_appendText 10 = .ok (.if_icmp .gt 7, 3) := by decide +kernel
theorem dX12_appendText_13 : decode cX12_appendText 13 = .ok (.iconst 0, 1) := by decide +kernel
theorem dX12_appendText_14 : decode cX12_appendText 14 = .ok (.goto 4, 3) := by decide +kernel
theorem dX12_appendText_17 : decode cX12_appendText 17 = .ok (.iconst 1, 1) := by decide +kernel
theorem dX12_appendText_18 : decode cX12_appendText 18 = .ok (.putfield 70, 3) := by decide +kernel
theorem dX12_appendText_21 : decode cX12_appendText 21 = .ok (.aload_n 0, 1) := by decide +kernel
theorem dX12_appendText_22 : decode cX12_appendText 22 = .ok (.getfield 70, 3) := by decide +kernel
theorem dX12_appendText_25 : decode cX12_appendText 25 = .ok (.ifCond .le 5, 3) := by decide +kernel
theorem dX12_appendText_28 : decode cX12_appendText 28 = .ok (.iconst 0, 1) := by decide +kernel
theorem dX12_appendText_29 : decode cX12_appendText 29 = .ok (.ireturn, 1) := by decide +kernel
theorem dX12_appendText_30 : decode cX12_appendText 30 = .ok (.bipush 24, 2) := by decide +kernel
theorem dX12_appendText_32 : decode cX12_appendText 32 = .ok (.istore_n 2, 1) := by decide +kernel
theorem dX12_appendText_33 : decode cX12_appendText 33 = .ok (.iload_n 2, 1) := by decide +kernel
theorem dX12_appendText_34 : decode cX12_appendText 34 = .ok (.ifCond .lt 32, 3) := by decide +kernel
theorem dX12_appendText_37 : decode cX12_appendText 37 = .ok (.aload_n 0, 1) := by decide +kernel
theorem dX12_appendText_38 : decode cX12_appendText 38 = .ok (.getfield 56, 3) := by decide +kernel
theorem dX12_appendText_41 : decode cX12_appendText 41 = .ok (.aload_n 0, 1) := by decide +kernel
theorem dX12_appendText_42 : decode cX12_appendText 42 = .ok (.getfield 353, 3) := by decide +kernel
theorem dX12_appendText_45 : decode cX12_appendText 45 = .ok (.iload_n 1, 1) := by decide +kernel
theorem dX12_appendText_46 : decode cX12_appendText 46 = .ok (.iload_n 2, 1) := by decide +kernel
theorem dX12_appendText_47 : decode cX12_appendText 47 = .ok (.ishr, 1) := by decide +kernel
theorem dX12_appendText_48 : decode cX12_appendText 48 = .ok (.i2b, 1) := by decide +kernel
theorem dX12_appendText_49 : decode cX12_appendText 49 = .ok (.bastore, 1) := by decide +kernel
theorem dX12_appendText_50 : decode cX12_appendText 50 = .ok (.aload_n 0, 1) := by decide +kernel
theorem dX12_appendText_51 : decode cX12_appendText 51 = .ok (.dup, 1) := by decide +kernel
theorem dX12_appendText_52 : decode cX12_appendText 52 = .ok (.getfield 353, 3) := by decide +kernel
theorem dX12_appendText_55 : decode cX12_appendText 55 = .ok (.iconst 1, 1) := by decide +kernel
theorem dX12_appendText_56 : decode cX12_appendText 56 = .ok (.iadd, 1) := by decide +kernel
theorem dX12_appendText_57 : decode cX12_appendText 57 = .ok (.putfield 353, 3) := by decide +kernel
theorem dX12_appendText_60 : decode cX12_appendText 60 = .ok (.iinc 2 (-8), 3) := by decide +kernel
theorem dX12_appendText_63 : decode cX12_appendText 63 = .ok (.goto (-30), 3) := by decide +kernel
theorem dX12_appendText_66 : decode cX12_appendText 66 = .ok (.aload_n 0, 1) := by decide +kernel
theorem dX12_appendText_67 : decode cX12_appendText 67 = .ok (.getfield 353, 3) := by decide +kernel
theorem dX12_appendText_70 : decode cX12_appendText 70 = .ok (.ireturn, 1) := by decide +kernel
theorem dX12_truncateText_0 : decode cX12_truncateText 0 = .ok (.aload_n 0, 1) := by decide +kernel
theorem dX12_truncateText_1 : decode cX12_truncateText 1 = .ok (.iload_n 1, 1) := by decide +kernel
theorem dX12_truncateText_2 : decode cX12_truncateText 2 = .ok (.iconst 0, 1) := by decide +kernel
theorem dX12_truncateText_3 : decode cX12_truncateText 3 = .ok (.aload_n 0, 1) := by decide +kernel
theorem dX12_truncateText_4 : decode cX12_truncateText 4 = .ok (.getfield 353, 3) := by decide +kernel
theorem dX12_truncateText_7 : decode cX12_truncateText 7 = .ok (.invokestatic 73, 3) := by decide +kernel
theorem dX12_truncateText_10 : decode cX12_truncateText 10 = .ok (.ifCond .eq 7, 3) := by decide +kernel
theorem dX12_truncateText_13 : decode cX12_truncateText 13 = .ok (.iconst 0, 1) := by decide +kernel
theorem dX12_truncateText_14 : decode cX12_truncateText 14 = .ok (.goto 4, 3) := by decide +kernel
theorem dX12_truncateText_17 : decode cX12_truncateText 17 = .ok (.iconst 1, 1) := by decide +kernel
theorem dX12_truncateText_18 : decode cX12_truncateText 18 = .ok (.putfield 70, 3) := by decide +kernel
theorem dX12_truncateText_21 : decode cX12_truncateText 21 = .ok (.aload_n 0, 1) := by decide +kernel
theorem dX12_truncateText_22 : decode cX12_truncateText 22 = .ok (.getfield 70, 3) := by decide +kernel
theorem dX12_truncateText_25 : decode cX12_truncateText 25 = .ok (.ifCond .le 5, 3) := by decide +kernel
theorem dX12_truncateText_28 : decode cX12_truncateText 28 = .ok (.iconst 0, 1) := by decide +kernel
theorem dX12_truncateText_29 : decode cX12_truncateText 29 = .ok (.ireturn, 1) := by decide +kernel
theorem dX12_truncateText_30 : decode cX12_truncateText 30 = .ok (.aload_n 0, 1) := by decide +kernel
theorem dX12_truncateText_31 : decode cX12_truncateText 31 = .ok (.iload_n 1, 1) := by decide +kernel
theorem dX12_truncateText_32 : decode cX12_truncateText 32 = .ok (.putfield 353, 3) := by decide +kernel
theorem dX12_truncateText_35 : decode cX12_truncateText 35 = .ok (.aload_n 0, 1) := by decide +kernel
theorem dX12_truncateText_36 : decode cX12_truncateText 36 = .ok (.getfield 353, 3) := by decide +kernel
theorem dX12_truncateText_39 : decode cX12_truncateText 39 = .ok (.ireturn, 1) := by decide +kernel
theorem dX12_see_0 : decode cX12_see 0 = .ok (.aload_n 0, 1) := by decide +kernel
theorem dX12_see_1 : decode cX12_see 1 = .ok (.getfield 356, 3) := by decide +kernel
theorem dX12_see_4 : decode cX12_see 4 = .ok (.aload_n 0, 1) := by decide +kernel
theorem dX12_see_5 : decode cX12_see 5 = .ok (.getfield 353, 3) := by decide +kernel
theorem dX12_see_8 : decode cX12_see 8 = .ok (.if_icmp .ge 19, 3) := by decide +kernel
theorem dX12_see_11 : decode cX12_see 11 = .ok (.aload_n 0, 1) := by decide +kernel
theorem dX12_see_12 : decode cX12_see 12 = .ok (.getfield 56, 3) := by decide +kernel
theorem dX12_see_15 : decode cX12_see 15 = .ok (.aload_n 0, 1) := by decide +kernel
theorem dX12_see_16 : decode cX12_see 16 = .ok (.getfield 356, 3) := by decide +kernel
theorem dX12_see_19 : decode cX12_see 19 = .ok (.baload, 1) := by decide +kernel
theorem dX12_see_20 : decode cX12_see 20 = .ok (.sipush 255, 3) := by decide +kernel
theorem dX12_see_23 : decode cX12_see 23 = .ok (.iand, 1) := by decide +kernel
theorem dX12_see_24 : decode cX12_see 24 = .ok (.goto 4, 3) := by decide +kernel
theorem dX12_see_27 : decode cX12_see 27 = .ok (.iconst (-1), 1) := by decide +kernel
theorem dX12_see_28 : decode cX12_see 28 = .ok (.ireturn, 1) := by decide +kernel
theorem dX12_isSmall_0 : decode cX12_isSmall 0 = .ok (.aload_n 0, 1) := by decide +kernel
theorem dX12_isSmall_1 : decode cX12_isSmall 1 = .ok (.invokevirtual 359, 3) := by decide +kernel
theorem dX12_isSmall_4 : decode cX12_isSmall 4 = .ok (.bipush 97, 2) := by decide +kernel
theorem dX12_isSmall_6 : decode cX12_isSmall 6 = .ok (.bipush 122, 2) := by decide +kernel
theorem dX12_isSmall_8 : decode cX12_isSmall 8 = .ok (.invokestatic 73, 3) := by decide +kernel
theorem dX12_isSmall_11 : decode cX12_isSmall 11 = .ok (.ireturn, 1) := by decide +kernel
theorem dX12_isDigit_0 : decode cX12_isDigit 0 = .ok (.aload_n 0, 1) := by decide +kernel
theorem dX12_isDigit_1 : decode cX12_isDigit 1 = .ok (.invokevirtual 359, 3) := by decide +kernel
theorem dX12_isDigit_4 : decode cX12_isDigit 4 = .ok (.bipush 48, 2) := by decide +kernel
theorem dX12_isDigit_6 : decode cX12_isDigit 6 = .ok (.bipush 57, 2) := by decide +kernel
theorem dX12_isDigit_8 : decode cX12_isDigit 8 = .ok (.invokestatic 73, 3) := by decide +kernel
theorem dX12_isDigit_11 : decode cX12_isDigit 11 = .ok (.ireturn, 1) := by decide +kernel
theorem dX12_next_0 : decode cX12_next 0 = .ok (.aload_n 0, 1) := by decide +kernel
theorem dX12_next_1 : decode cX12_next 1 = .ok (.invokevirtual 359, 3) := by decide +kernel
theorem dX12_next_4 : decode cX12_next 4 = .ok (.bipush 32, 2) := by decide +kernel
theorem dX12_next_6 : decode cX12_next 6 = .ok (.if_icmp .eq 12, 3) := by decide +kernel
theorem dX12_next_9 : decode cX12_next 9 = .ok (.aload_n 0, 1) := by decide +kernel
theorem dX12_next_10 : decode cX12_next 10 = .ok (.invokevirtual 359, 3) := by decide +kernel
theorem dX12_next_13 : decode cX12_next 13 = .ok (.bipush 10, 2) := by decide +kernel
theorem dX12_next_15 : decode cX12_next 15 = .ok (.if_icmp .ne 16, 3) := by decide +kernel
theorem dX12_next_18 : decode cX12_next 18 = .ok (.aload_n 0, 1) := by decide +kernel
theorem dX12_next_19 : decode cX12_next 19 = .ok (.dup, 1) := by decide +kernel
theorem dX12_next_20 : decode cX12_next 20 = .ok (.getfield 356, 3) := by decide +kernel
theorem dX12_next_23 : decode cX12_next 23 = .ok (.iconst 1, 1) := by decide +kernel
theorem dX12_next_24 : decode cX12_next 24 = .ok (.iadd, 1) := by decide +kernel
theorem dX12_next_25 : decode cX12_next 25 = .ok (.putfield 356, 3) := by decide +kernel
theorem dX12_next_28 : decode cX12_next 28 = .ok (.goto (-28), 3) := by decide +kernel
theorem dX12_next_31 : decode cX12_next 31 = .ok (.aload_n 0, 1) := by decide +kernel
theorem dX12_next_32 : decode cX12_next 32 = .ok (.aload_n 0, 1) := by decide +kernel
theorem dX12_next_33 : decode cX12_next 33 = .ok (.getfield 356, 3) := by decide +kernel
theorem dX12_next_36 : decode cX12_next 36 = .ok (.putfield 362, 3) := by decide +kernel
theorem dX12_next_39 : decode cX12_next 39 = .ok (.aload_n 0, 1) := by decide +kernel
theorem dX12_next_40 : decode cX12_next 40 = .ok (.aload_n 0, 1) := by decide +kernel
theorem dX12_next_41 : decode cX12_next 41 = .ok (.invokevirtual 359, 3) := by decide +kernel
theorem dX12_next_44 : decode cX12_next 44 = .ok (.iconst (-1), 1) := by decide +kernel
theorem dX12_next_45 : decode cX12_next 45 = .ok (.if_icmp .ne 7, 3) := by decide +kernel
theorem dX12_next_48 : decode cX12_next 48 = .ok (.iconst 0, 1) := by decide +kernel
theorem dX12_next_49 : decode cX12_next 49 = .ok (.goto 39, 3) := by decide +kernel
theorem dX12_next_52 : decode cX12_next 52 = .ok (.aload_n 0, 1) := by decide +kernel
theorem dX12_next_53 : decode cX12_next 53 = .ok (.invokevirtual 365, 3) := by decide +kernel
theorem dX12_next_56 : decode cX12_next 56 = .ok (.ifCond .eq 7, 3) := by decide +kernel
theorem dX12_next_59 : decode cX12_next 59 = .ok (.iconst 1, 1) := by decide +kernel
theorem dX12_next_60 : decode cX12_next 60 = .ok (.goto 28, 3) := by decide +kernel
theorem dX12_next_63 : decode cX12_next 63 = .ok (.aload_n 0, 1) := by decide +kernel
theorem dX12_next_64 : decode cX12_next 64 = .ok (.invokevirtual 368, 3) := by decide +kernel
theorem dX12_next_67 : decode cX12_next 67 = .ok (.ifCond .eq 7, 3) := by decide +kernel
theorem dX12_next_70 : decode cX12_next 70 = .ok (.iconst 2, 1) := by decide +kernel
theorem dX12_next_71 : decode cX12_next 71 = .ok (.goto 17, 3) := by decide +kernel
theorem dX12_next_74 : decode cX12_next 74 = .ok (.aload_n 0, 1) := by decide +kernel
theorem dX12_next_75 : decode cX12_next 75 = .ok (.invokevirtual 359, 3) := by decide +kernel
theorem dX12_next_78 : decode cX12_next 78 = .ok (.bipush 59, 2) := by decide +kernel
theorem dX12_next_80 : decode cX12_next 80 = .ok (.if_icmp .ne 7, 3) := by decide +kernel
theorem dX12_next_83 : decode cX12_next 83 = .ok (.iconst 3, 1) := by decide +kernel
theorem dX12_next_84 : decode cX12_next 84 = .ok (.goto 4, 3) := by decide +kernel
theorem dX12_next_87 : decode cX12_next 87 = .ok (.iconst 4, 1) := by decide +kernel
theorem dX12_next_88 : decode cX12_next 88 = .ok (.putfield 371, 3) := by decide +kernel
theorem dX12_next_91 : decode cX12_next 91 = .ok (.aload_n 0, 1) := by decide +kernel
theorem dX12_next_92 : decode cX12_next 92 = .ok (.iconst 0, 1) := by decide +kernel
theorem dX12_next_93 : decode cX12_next 93 = .ok (.putfield 374, 3) := by decide +kernel
theorem dX12_next_96 : decode cX12_next 96 = .ok (.aload_n 0, 1) := by decide +kernel
theorem dX12_next_97 : decode cX12_next 97 = .ok (.dup, 1) := by decide +kernel
theorem dX12_next_98 : decode cX12_next 98 = .ok (.getfield 356, 3) := by decide +kernel
theorem dX12_next_101 : decode cX12_next 101 = .ok (.aload_n 0, 1) := by decide +kernel
theorem dX12_next_102 : decode cX12_next 102 = .ok (.getfield 371, 3) := by decide +kernel
theorem dX12_next_105 : decode cX12_next 105 = .ok (.iconst 3, 1) := by decide +kernel
theorem dX12_next_106 : decode cX12_next 106 = .ok (.if_icmp .eq 11, 3) := by decide +kernel
theorem dX12_next_109 : decode cX12_next 109 = .ok (.aload_n 0, 1) := by decide +kernel
theorem dX12_next_110 : decode cX12_next 110 = .ok (.getfield 371, 3) := by decide +kernel
theorem dX12_next_113 : decode cX12_next 113 = .ok (.iconst 4, 1) := by decide +kernel
theorem dX12_next_114 : decode cX12_next 114 = .ok (.if_icmp .ne 7, 3) := by decide +kernel
theorem dX12_next_117 : decode cX12_next 117 = .ok (.iconst 1, 1) := by decide +kernel
theorem dX12_next_118 : decode cX12_next 118 = .ok (.goto 4, 3) := by decide +kernel
theorem dX12_next_121 : decode cX12_next 121 = .ok (.iconst 0, 1) := by decide +kernel
theorem dX12_next_122 : decode cX12_next 122 = .ok (.iadd, 1) := by decide +kernel
theorem dX12_next_123 : decode cX12_next 123 = .ok (.putfield 356, 3) := by decide +kernel
theorem dX12_next_126 : decode cX12_next 126 = .ok (.aload_n 0, 1) := by decide +kernel
theorem dX12_next_127 : decode cX12_next 127 = .ok (.getfield 371, 3) := by decide +kernel
theorem dX12_next_130 : decode cX12_next 130 = .ok (.iconst 1, 1) := by decide +kernel
theorem dX12_next_131 : decode cX12_next 131 = .ok (.if_icmp .ne 23, 3) := by decide +kernel
theorem dX12_next_134 : decode cX12_next 134 = .ok (.aload_n 0, 1) := by decide +kernel
theorem dX12_next_135 : decode cX12_next 135 = .ok (.invokevirtual 365, 3) := by decide +kernel
theorem dX12_next_138 : decode cX12_next 138 = .ok (.ifCond .eq 16, 3) := by decide +kernel
theorem dX12_next_141 : decode cX12_next 141 = .ok (.aload_n 0, 1) := by decide +kernel
theorem dX12_next_142 : decode cX12_next 142 = .ok (.dup, 1) := by decide +kernel
theorem dX12_next_143 : decode cX12_next 143 = .ok (.getfield 356, 3) := by decide +kernel
theorem dX12_next_146 : decode cX12_next 146 = .ok (.iconst 1, 1) := by decide +kernel
theorem dX12_next_147 : decode cX12_next 147 = .ok (.iadd, 1) := by decide +kernel
theorem dX12_next_148 : decode cX12_next 148 = .ok (.putfield 356, 3) := by decide +kernel
theorem dX12_next_151 : decode cX12_next 151 = .ok (.goto (-25), 3) := by decide +kernel
theorem dX12_next_154 : decode cX12_next 154 = .ok (.aload_n 0, 1) := by decide +kernel
theorem dX12_next_155 : decode cX12_next 155 = .ok (.getfield 371, 3) := by decide +kernel
theorem dX12_next_158 : decode cX12_next 158 = .ok (.iconst 2, 1) := by decide +kernel
theorem dX12_next_159 : decode cX12_next 159 = .ok (.if_icmp .ne 59, 3) := by decide +kernel
theorem dX12_next_162 : decode cX12_next 162 = .ok (.aload_n 0, 1) := by decide +kernel
theorem dX12_next_163 : decode cX12_next 163 = .ok (.invokevirtual 368, 3) := by decide +kernel
theorem dX12_next_166 : decode cX12_next 166 = .ok (.ifCond .eq 52, 3) := by decide +kernel
theorem dX12_next_169 : decode cX12_next 169 = .ok (.aload_n 0, 1) := by decide +kernel
theorem dX12_next_170 : decode cX12_next 170 = .ok (.aload_n 0, 1) := by decide +kernel
theorem dX12_next_171 : decode cX12_next 171 = .ok (.getfield 374, 3) := by decide +kernel
theorem dX12_next_174 : decode cX12_next 174 = .ok (.ldc_w 377, 3) := by decide +kernel
theorem dX12_next_177 : decode cX12_next 177 = .ok (.if_icmp .le 10, 3) := by decide +kernel
theorem dX12_next_180 : decode cX12_next 180 = .ok (.aload_n 0, 1) := by decide +kernel
theorem dX12_next_181 : decode cX12_next 181 = .ok (.getfield 374, 3) := by decide +kernel
theorem dX12_next_184 : decode cX12_next 184 = .ok (.goto 18, 3) := by decide +kernel
theorem dX12_next_187 : decode cX12_next 187 = .ok (.bipush 10, 2) := by decide +kernel
theorem dX12_next_189 : decode cX12_next 189 = .ok (.aload_n 0, 1) := by decide +kernel
theorem dX12_next_190 : decode cX12_next 190 = .ok (.getfield 374, 3) := by decide +kernel
theorem dX12_next_193 : decode cX12_next 193 = .ok (.imul, 1) := by decide +kernel
theorem dX12_next_194 : decode cX12_next 194 = .ok (.aload_n 0, 1) := by decide +kernel
theorem dX12_next_195 : decode cX12_next 195 = .ok (.invokevirtual 359, 3) := by decide +kernel
theorem dX12_next_198 : decode cX12_next 198 = .ok (.iadd, 1) := by decide +kernel
theorem dX12_next_199 : decode cX12_next 199 = .ok (.bipush 48, 2) := by decide +kernel
theorem dX12_next_201 : decode cX12_next 201 = .ok (.isub, 1) := by decide +kernel
theorem dX12_next_202 : decode cX12_next 202 = .ok (.putfield 374, 3) := by decide +kernel
theorem dX12_next_205 : decode cX12_next 205 = .ok (.aload_n 0, 1) := by decide +kernel
theorem dX12_next_206 : decode cX12_next 206 = .ok (.dup, 1) := by decide +kernel
theorem dX12_next_207 : decode cX12_next 207 = .ok (.getfield 356, 3) := by decide +kernel
theorem dX12_next_210 : decode cX12_next 210 = .ok (.iconst 1, 1) := by decide +kernel
theorem dX12_next_211 : decode cX12_next 211 = .ok (.iadd, 1) := by decide +kernel
theorem dX12_next_212 : decode cX12_next 212 = .ok (.putfield 356, 3) := by decide +kernel
theorem dX12_next_215 : decode cX12_next 215 = .ok (.goto (-61), 3) := by decide +kernel
theorem dX12_next_218 : decode cX12_next 218 = .ok (.return_, 1) := by decide +kernel
theorem dX12_fails_0 : decode cX12_fails 0 = .ok (.aload_n 0, 1) := by decide +kernel
theorem dX12_fails_1 : decode cX12_fails 1 = .ok (.getfield 378, 3) := by decide +kernel
theorem dX12_fails_4 : decode cX12_fails 4 = .ok (.ifCond .ne 16, 3) := by decide +kernel
theorem dX12_fails_7 : decode cX12_fails 7 = .ok (.aload_n 0, 1) := by decide +kernel
theorem dX12_fails_8 : decode cX12_fails 8 = .ok (.iload_n 1, 1) := by decide +kernel
theorem dX12_fails_9 : decode cX12_fails 9 = .ok (.putfield 378, 3) := by decide +kernel
theorem dX12_fails_12 : decode cX12_fails 12 = .ok (.aload_n 0, 1) := by decide +kernel
theorem dX12_fails_13 : decode cX12_fails 13 = .ok (.aload_n 0, 1) := by decide +kernel
theorem dX12_fails_14 : decode cX12_fails 14 = .ok (.getfield 362, 3) := by decide +kernel
theorem dX12_fails_17 : decode cX12_fails 17 = .ok (.putfield 60, 3) := by decide +kernel
theorem dX12_fails_20 : decode cX12_fails 20 = .ok (.return_, 1) := by decide +kernel
theorem dX12_isWell_0 : decode cX12_isWell 0 = .ok (.aload_n 0, 1) := by decide +kernel
theorem dX12_isWell_1 : decode cX12_isWell 1 = .ok (.getfield 378, 3) := by decide +kernel
theorem dX12_isWell_4 : decode cX12_isWell 4 = .ok (.ifCond .ne 7, 3) := by decide +kernel
theorem dX12_isWell_7 : decode cX12_isWell 7 = .ok (.iconst 1, 1) := by decide +kernel
theorem dX12_isWell_8 : decode cX12_isWell 8 = .ok (.goto 4, 3) := by decide +kernel
theorem dX12_isWell_11 : decode cX12_isWell 11 = .ok (.iconst 0, 1) := by decide +kernel
theorem dX12_isWell_12 : decode cX12_isWell 12 = .ok (.ireturn, 1) := by decide +kernel
theorem dX12_wordHere_0 : decode cX12_wordHere 0 = .ok (.iconst 0, 1) := by decide +kernel
theorem dX12_wordHere_1 : decode cX12_wordHere 1 = .ok (.istore_n 1, 1) := by decide +kernel
theorem dX12_wordHere_2 : decode cX12_wordHere 2 = .ok (.iconst 0, 1) := by decide +kernel
theorem dX12_wordHere_3 : decode cX12_wordHere 3 = .ok (.istore_n 2, 1) := by decide +kernel
theorem dX12_wordHere_4 : decode cX12_wordHere 4 = .ok (.aload_n 0, 1) := by decide +kernel
theorem dX12_wordHere_5 : decode cX12_wordHere 5 = .ok (.getfield 371, 3) := by decide +kernel
theorem dX12_wordHere_8 : decode cX12_wordHere 8 = .ok (.iconst 1, 1) := by decide +kernel
theorem dX12_wordHere_9 : decode cX12_wordHere 9 = .ok (.if_icmp .ne 112, 3) := by decide +kernel
theorem dX12_wordHere_12 : decode cX12_wordHere 12 = .ok (.iload_n 2, 1) := by decide +kernel
theorem dX12_wordHere_13 : decode cX12_wordHere 13 = .ok (.bipush 12, 2) := by decide +kernel
theorem dX12_wordHere_15 : decode cX12_wordHere 15 = .ok (.if_icmp .ge 106, 3) := by decide +kernel
theorem dX12_wordHere_18 : decode cX12_wordHere 18 = .ok (.iconst 0, 1) := by decide +kernel
theorem dX12_wordHere_19 : decode cX12_wordHere 19 = .ok (.istore_n 3, 1) := by decide +kernel
theorem dX12_wordHere_20 : decode cX12_wordHere 20 = .ok (.iconst 1, 1) := by decide +kernel
theorem dX12_wordHere_21 : decode cX12_wordHere 21 = .ok (.istore 4, 2) := by decide +kernel
theorem dX12_wordHere_23 : decode cX12_wordHere 23 = .ok (.aload_n 0, 1) := by decide +kernel
theorem dX12_wordHere_24 : decode cX12_wordHere 24 = .ok (.getfield 64, 3) := by decide +kernel
theorem dX12_wordHere_27 : decode cX12_wordHere 27 = .ok (.iload_n 1, 1) := by decide +kernel
theorem dX12_wordHere_28 : decode cX12_wordHere 28 = .ok (.iload_n 3, 1) := by decide +kernel
theorem dX12_wordHere_29 : decode cX12_wordHere 29 = .ok (.iadd, 1) := by decide +kernel
theorem dX12_wordHere_30 : decode cX12_wordHere 30 = .ok (.baload, 1) := by decide +kernel
theorem dX12_wordHere_31 : decode cX12_wordHere 31 = .ok (.bipush 32, 2) := by decide +kernel
theorem dX12_wordHere_33 : decode cX12_wordHere 33 = .ok (.if_icmp .eq 56, 3) := by decide +kernel
theorem dX12_wordHere_36 : decode cX12_wordHere 36 = .ok (.iload 4, 2) := by decide +kernel
theorem dX12_wordHere_38 : decode cX12_wordHere 38 = .ok (.ifCond .eq 42, 3) := by decide +kernel
theorem dX12_wordHere_41 : decode cX12_wordHere 41 = .ok (.aload_n 0, 1) := by decide +kernel
theorem dX12_wordHere_42 : decode cX12_wordHere 42 = .ok (.getfield 362, 3) := by decide +kernel
theorem dX12_wordHere_45 : decode cX12_wordHere 45 = .ok (.iload_n 3, 1) := by decide +kernel
theorem dX12_wordHere_46 : decode cX12_wordHere 46 = .ok (.iadd, 1) := by decide +kernel
theorem dX12_wordHere_47 : decode cX12_wordHere 47 = .ok (.aload_n 0, 1) := by decide +kernel
theorem dX12_wordHere_48 : decode cX12_wordHere 48 = .ok (.getfield 356, 3) := by decide +kernel
theorem dX12_wordHere_51 : decode cX12_wordHere 51 = .ok (.if_icmp .ge 29, 3) := by decide +kernel
theorem dX12_wordHere_54 : decode cX12_wordHere 54 = .ok (.aload_n 0, 1) := by decide +kernel
theorem dX12_wordHere_55 : decode cX12_wordHere 55 = .ok (.getfield 56, 3) := by decide +kernel
theorem dX12_wordHere_58 : decode cX12_wordHere 58 = .ok (.aload_n 0, 1) := by decide +kernel
theorem dX12_wordHere_59 : decode cX12_wordHere 59 = .ok (.getfield 362, 3) := by decide +kernel
theorem dX12_wordHere_62 : decode cX12_wordHere 62 = .ok (.iload_n 3, 1) := by decide +kernel
theorem dX12_wordHere_63 : decode cX12_wordHere 63 = .ok (.iadd, 1) := by decide +kernel
theorem dX12_wordHere_64 : decode cX12_wordHere 64 = .ok (.baload, 1) := by decide +kernel
theorem dX12_wordHere_65 : decode cX12_wordHere 65 = .ok (.aload_n 0, 1) := by decide +kernel
theorem dX12_wordHere_66 : decode cX12_wordHere 66 = .ok (.getfield 64, 3) := by decide +kernel
theorem dX12_wordHere_69 : decode cX12_wordHere 69 = .ok (.iload_n 1, 1) := by decide +kernel
theorem dX12_wordHere_70 : decode cX12_wordHere 70 = .ok (.iload_n 3, 1) := by decide +kernel
theorem dX12_wordHere_71 : decode cX12_wordHere 71 = .ok (.iadd, 1) := by decide +kernel
theorem dX12_wordHere_72 : decode cX12_wordHere 72 = .ok (.baload, 1) := by decide +kernel
theorem dX12_wordHere_73 : decode cX12_wordHere 73 = .ok (.if_icmp .ne 7, 3) := by decide +kernel
theorem dX12_wordHere_76 : decode cX12_wordHere 76 = .ok (.iconst 1, 1) := by decide +kernel
theorem dX12_wordHere_77 : decode cX12_wordHere 77 = .ok (.goto 4, 3) := by decide +kernel
theorem dX12_wordHere_80 : decode cX12_wordHere 80 = .ok (.iconst 0, 1) := by decide +kernel
theorem dX12_wordHere_81 : decode cX12_wordHere 81 = .ok (.istore 4, 2) := by decide +kernel
theorem dX12_wordHere_83 : decode cX12_wordHere 83 = .ok (.iinc 3 1, 3) := by decide +kernel
theorem dX12_wordHere_86 : decode cX12_wordHere 86 = .ok (.goto (-63), 3) := by decide +kernel
theorem dX12_wordHere_89 : decode cX12_wordHere 89 = .ok (.iload 4, 2) := by decide +kernel
theorem dX12_wordHere_91 : decode cX12_wordHere 91 = .ok (.ifCond .eq 18, 3) := by decide +kernel
theorem dX12_wordHere_94 : decode cX12_wordHere 94 = .ok (.aload_n 0, 1) := by decide +kernel
theorem dX12_wordHere_95 : decode cX12_wordHere 95 = .ok (.getfield 356, 3) := by decide +kernel
theorem dX12_wordHere_98 : decode cX12_wordHere 98 = .ok (.aload_n 0, 1) := by decide +kernel
theorem dX12_wordHere_99 : decode cX12_wordHere 99 = .ok (.getfield 362, 3) := by decide +kernel
theorem dX12_wordHere_102 : decode cX12_wordHere 102 = .ok (.isub, 1) := by decide +kernel
theorem dX12_wordHere_103 : decode cX12_wordHere 103 = .ok (.iload_n 3, 1) := by decide +kernel
theorem dX12_wordHere_104 : decode cX12_wordHere 104 = .ok (.if_icmp .ne 5, 3) := by decide +kernel
theorem dX12_wordHere_107 : decode cX12_wordHere 107 = .ok (.iload_n 2, 1) := by decide +kernel
theorem dX12_wordHere_108 : decode cX12_wordHere 108 = .ok (.ireturn, 1) := by decide +kernel
theorem dX12_wordHere_109 : decode cX12_wordHere 109 = .ok (.iload_n 1, 1) := by decide +kernel
theorem dX12_wordHere_110 : decode cX12_wordHere 110 = .ok (.iload_n 3, 1) := by decide +kernel
theorem dX12_wordHere_111 : decode cX12_wordHere 111 = .ok (.iconst 1, 1) := by decide +kernel
theorem dX12_wordHere_112 : decode cX12_wordHere 112 = .ok (.iadd, 1) := by decide +kernel
theorem dX12_wordHere_113 : decode cX12_wordHere 113 = .ok (.iadd, 1) := by decide +kernel
theorem dX12_wordHere_114 : decode cX12_wordHere 114 = .ok (.istore_n 1, 1) := by decide +kernel
theorem dX12_wordHere_115 : decode cX12_wordHere 115 = .ok (.iinc 2 1, 3) := by decide +kernel
theorem dX12_wordHere_118 : decode cX12_wordHere 118 = .ok (.goto (-114), 3) := by decide +kernel
theorem dX12_wordHere_121 : decode cX12_wordHere 121 = .ok (.iconst (-1), 1) := by decide +kernel
theorem dX12_wordHere_122 : decode cX12_wordHere 122 = .ok (.ireturn, 1) := by decide +kernel
theorem dX12_read_0 : decode cX12_read 0 = .ok (.aload_n 0, 1) := by decide +kernel
theorem dX12_read_1 : decode cX12_read 1 = .ok (.getfield 371, 3) := by decide +kernel
theorem dX12_read_4 : decode cX12_read 4 = .ok (.iconst 2, 1) := by decide +kernel
theorem dX12_read_5 : decode cX12_read 5 = .ok (.if_icmp .eq 11, 3) := by decide +kernel
theorem dX12_read_8 : decode cX12_read 8 = .ok (.aload_n 0, 1) := by decide +kernel
theorem dX12_read_9 : decode cX12_read 9 = .ok (.iconst 1, 1) := by decide +kernel
theorem dX12_read_10 : decode cX12_read 10 = .ok (.invokevirtual 381, 3) := by decide +kernel
theorem dX12_read_13 : decode cX12_read 13 = .ok (.goto 20, 3) := by decide +kernel
theorem dX12_read_16 : decode cX12_read 16 = .ok (.aload_n 0, 1) := by decide +kernel
theorem dX12_read_17 : decode cX12_read 17 = .ok (.getfield 374, 3) := by decide +kernel
theorem dX12_read_20 : decode cX12_read 20 = .ok (.iload_n 1, 1) := by decide +kernel
theorem dX12_read_21 : decode cX12_read 21 = .ok (.iload_n 2, 1) := by decide +kernel
theorem dX12_read_22 : decode cX12_read 22 = .ok (.invokestatic 73, 3) := by decide +kernel
theorem dX12_read_25 : decode cX12_read 25 = .ok (.ifCond .ne 8, 3) := by decide +kernel
theorem dX12_read_28 : decode cX12_read 28 = .ok (.aload_n 0, 1) := by decide +kernel
theorem dX12_read_29 : decode cX12_read 29 = .ok (.iconst 2, 1) := by decide +kernel
theorem dX12_read_30 : decode cX12_read 30 = .ok (.invokevirtual 381, 3) := by decide +kernel
theorem dX12_read_33 : decode cX12_read 33 = .ok (.aload_n 0, 1) := by decide +kernel
theorem dX12_read_34 : decode cX12_read 34 = .ok (.invokevirtual 384, 3) := by decide +kernel
theorem dX12_read_37 : decode cX12_read 37 = .ok (.ifCond .ne 5, 3) := by decide +kernel
theorem dX12_read_40 : decode cX12_read 40 = .ok (.iload_n 1, 1) := by decide +kernel
theorem dX12_read_41 : decode cX12_read 41 = .ok (.ireturn, 1) := by decide +kernel
theorem dX12_read_42 : decode cX12_read 42 = .ok (.aload_n 0, 1) := by decide +kernel
theorem dX12_read_43 : decode cX12_read 43 = .ok (.getfield 374, 3) := by decide +kernel
theorem dX12_read_46 : decode cX12_read 46 = .ok (.istore_n 3, 1) := by decide +kernel
theorem dX12_read_47 : decode cX12_read 47 = .ok (.aload_n 0, 1) := by decide +kernel
theorem dX12_read_48 : decode cX12_read 48 = .ok (.invokevirtual 387, 3) := by decide +kernel
theorem dX12_read_51 : decode cX12_read 51 = .ok (.iload_n 3, 1) := by decide +kernel
theorem dX12_read_52 : decode cX12_read 52 = .ok (.ireturn, 1) := by decide +kernel
theorem dX12_ends_0 : decode cX12_ends 0 = .ok (.aload_n 0, 1) := by decide +kernel
theorem dX12_ends_1 : decode cX12_ends 1 = .ok (.getfield 371, 3) := by decide +kernel
theorem dX12_ends_4 : decode cX12_ends 4 = .ok (.iconst 3, 1) := by decide +kernel
theorem dX12_ends_5 : decode cX12_ends 5 = .ok (.if_icmp .eq 8, 3) := by decide +kernel
theorem dX12_ends_8 : decode cX12_ends 8 = .ok (.aload_n 0, 1) := by decide +kernel
theorem dX12_ends_9 : decode cX12_ends 9 = .ok (.iconst 1, 1) := by decide +kernel
theorem dX12_ends_10 : decode cX12_ends 10 = .ok (.invokevirtual 381, 3) := by decide +kernel
theorem dX12_ends_13 : decode cX12_ends 13 = .ok (.aload_n 0, 1) := by decide +kernel
theorem dX12_ends_14 : decode cX12_ends 14 = .ok (.invokevirtual 384, 3) := by decide +kernel
theorem dX12_ends_17 : decode cX12_ends 17 = .ok (.ifCond .eq 7, 3) := by decide +kernel
theorem dX12_ends_20 : decode cX12_ends 20 = .ok (.aload_n 0, 1) := by decide +kernel
theorem dX12_ends_21 : decode cX12_ends 21 = .ok (.invokevirtual 387, 3) := by decide +kernel
theorem dX12_ends_24 : decode cX12_ends 24 = .ok (.return_, 1) := by decide +kernel
theorem dX12_readHall_0 : decode cX12_readHall 0 = .ok (.aload_n 0, 1) := by decide +kernel
theorem dX12_readHall_1 : decode cX12_readHall 1 = .ok (.invokevirtual 390, 3) := by decide +kernel
theorem dX12_readHall_4 : decode cX12_readHall 4 = .ok (.ifCond .eq 9, 3) := by decide +kernel
theorem dX12_readHall_7 : decode cX12_readHall 7 = .ok (.aload_n 0, 1) := by decide +kernel
theorem dX12_readHall_8 : decode cX12_readHall 8 = .ok (.iconst 1, 1) := by decide +kernel
theorem dX12_readHall_9 : decode cX12_readHall 9 = .ok (.invokevirtual 381, 3) := by decide +kernel
theorem dX12_readHall_12 : decode cX12_readHall 12 = .ok (.return_, 1) := by decide +kernel
theorem dX12_readHall_13 : decode cX12_readHall 13 = .ok (.aload_n 0, 1) := by decide +kernel
theorem dX12_readHall_14 : decode cX12_readHall 14 = .ok (.invokevirtual 387, 3) := by decide +kernel
theorem dX12_readHall_17 : decode cX12_readHall 17 = .ok (.aload_n 0, 1) := by decide +kernel
theorem dX12_readHall_18 : decode cX12_readHall 18 = .ok (.iconst 1, 1) := by decide +kernel
theorem dX12_readHall_19 : decode cX12_readHall 19 = .ok (.bipush 6, 2) := by decide +kernel
theorem dX12_readHall_21 : decode cX12_readHall 21 = .ok (.invokevirtual 393, 3) := by decide +kernel
theorem dX12_readHall_24 : decode cX12_readHall 24 = .ok (.istore_n 1, 1) := by decide +kernel
theorem dX12_readHall_25 : decode cX12_readHall 25 = .ok (.aload_n 0, 1) := by decide +kernel
theorem dX12_readHall_26 : decode cX12_readHall 26 = .ok (.iconst 2, 1) := by decide +kernel
theorem dX12_readHall_27 : decode cX12_readHall 27 = .ok (.bipush 20, 2) := by decide +kernel
theorem dX12_readHall_29 : decode cX12_readHall 29 = .ok (.invokevirtual 393, 3) := by decide +kernel
theorem dX12_readHall_32 : decode cX12_readHall 32 = .ok (.istore_n 2, 1) := by decide +kernel
theorem dX12_readHall_33 : decode cX12_readHall 33 = .ok (.aload_n 0, 1) := by decide +kernel
theorem dX12_readHall_34 : decode cX12_readHall 34 = .ok (.iconst 1, 1) := by decide +kernel
theorem dX12_readHall_35 : decode cX12_readHall 35 = .ok (.bipush 9, 2) := by decide +kernel
theorem dX12_readHall_37 : decode cX12_readHall 37 = .ok (.invokevirtual 393, 3) := by decide +kernel
theorem dX12_readHall_40 : decode cX12_readHall 40 = .ok (.istore_n 3, 1) := by decide +kernel
theorem dX12_readHall_41 : decode cX12_readHall 41 = .ok (.aload_n 0, 1) := by decide +kernel
theorem dX12_readHall_42 : decode cX12_readHall 42 = .ok (.invokevirtual 384, 3) := by decide +kernel
theorem dX12_readHall_45 : decode cX12_readHall 45 = .ok (.ifCond .eq 10, 3) := by decide +kernel
theorem dX12_readHall_48 : decode cX12_readHall 48 = .ok (.aload_n 0, 1) := by decide +kernel
theorem dX12_readHall_49 : decode cX12_readHall 49 = .ok (.iload_n 1, 1) := by decide +kernel
theorem dX12_readHall_50 : decode cX12_readHall 50 = .ok (.iload_n 2, 1) := by decide +kernel
theorem dX12_readHall_51 : decode cX12_readHall 51 = .ok (.iload_n 3, 1) := by decide +kernel
theorem dX12_readHall_52 : decode cX12_readHall 52 = .ok (.invokevirtual 81, 3) := by decide +kernel
theorem dX12_readHall_55 : decode cX12_readHall 55 = .ok (.aload_n 0, 1) := by decide +kernel
theorem dX12_readHall_56 : decode cX12_readHall 56 = .ok (.invokevirtual 396, 3) := by decide +kernel
theorem dX12_readHall_59 : decode cX12_readHall 59 = .ok (.return_, 1) := by decide +kernel
theorem dX12_readItem_0 : decode cX12_readItem 0 = .ok (.aload_n 0, 1) := by decide +kernel
theorem dX12_readItem_1 : decode cX12_readItem 1 = .ok (.getfield 7, 3) := by decide +kernel
theorem dX12_readItem_4 : decode cX12_readItem 4 = .ok (.iconst 3, 1) := by decide +kernel
theorem dX12_readItem_5 : decode cX12_readItem 5 = .ok (.iaload, 1) := by decide +kernel
theorem dX12_readItem_6 : decode cX12_readItem 6 = .ok (.bipush 24, 2) := by decide +kernel
theorem dX12_readItem_8 : decode cX12_readItem 8 = .ok (.if_icmp .ne 9, 3) := by decide +kernel
theorem dX12_readItem_11 : decode cX12_readItem 11 = .ok (.aload_n 0, 1) := by decide +kernel
theorem dX12_readItem_12 : decode cX12_readItem 12 = .ok (.iconst 3, 1) := by decide +kernel
theorem dX12_readItem_13 : decode cX12_readItem 13 = .ok (.invokevirtual 381, 3) := by decide +kernel
theorem dX12_readItem_16 : decode cX12_readItem 16 = .ok (.return_, 1) := by decide +kernel
theorem dX12_readItem_17 : decode cX12_readItem 17 = .ok (.aload_n 0, 1) := by decide +kernel
theorem dX12_readItem_18 : decode cX12_readItem 18 = .ok (.invokevirtual 387, 3) := by decide +kernel
theorem dX12_readItem_21 : decode cX12_readItem 21 = .ok (.aload_n 0, 1) := by decide +kernel
theorem dX12_readItem_22 : decode cX12_readItem 22 = .ok (.iconst 0, 1) := by decide +kernel
theorem dX12_readItem_23 : decode cX12_readItem 23 = .ok (.aload_n 0, 1) := by decide +kernel
theorem dX12_readItem_24 : decode cX12_readItem 24 = .ok (.getfield 7, 3) := by decide +kernel
theorem dX12_readItem_27 : decode cX12_readItem 27 = .ok (.iconst 0, 1) := by decide +kernel
theorem dX12_readItem_28 : decode cX12_readItem 28 = .ok (.iaload, 1) := by decide +kernel
theorem dX12_readItem_29 : decode cX12_readItem 29 = .ok (.iconst 1, 1) := by decide +kernel
theorem dX12_readItem_30 : decode cX12_readItem 30 = .ok (.isub, 1) := by decide +kernel
theorem dX12_readItem_31 : decode cX12_readItem 31 = .ok (.invokevirtual 393, 3) := by decide +kernel
theorem dX12_readItem_34 : decode cX12_readItem 34 = .ok (.istore_n 1, 1) := by decide +kernel
theorem dX12_readItem_35 : decode cX12_readItem 35 = .ok (.aload_n 0, 1) := by decide +kernel
theorem dX12_readItem_36 : decode cX12_readItem 36 = .ok (.iconst 1, 1) := by decide +kernel
theorem dX12_readItem_37 : decode cX12_readItem 37 = .ok (.aload_n 0, 1) := by decide +kernel
theorem dX12_readItem_38 : decode cX12_readItem 38 = .ok (.getfield 7, 3) := by decide +kernel
theorem dX12_readItem_41 : decode cX12_readItem 41 = .ok (.iconst 1, 1) := by decide +kernel
theorem dX12_readItem_42 : decode cX12_readItem 42 = .ok (.iaload, 1) := by decide +kernel
theorem dX12_readItem_43 : decode cX12_readItem 43 = .ok (.invokevirtual 393, 3) := by decide +kernel
theorem dX12_readItem_46 : decode cX12_readItem 46 = .ok (.istore_n 2, 1) := by decide +kernel
theorem dX12_readItem_47 : decode cX12_readItem 47 = .ok (.aload_n 0, 1) := by decide +kernel
theorem dX12_readItem_48 : decode cX12_readItem 48 = .ok (.iconst 1, 1) := by decide +kernel
theorem dX12_readItem_49 : decode cX12_readItem 49 = .ok (.bipush 50, 2) := by decide +kernel
theorem dX12_readItem_51 : decode cX12_readItem 51 = .ok (.invokevirtual 393, 3) := by decide +kernel
theorem dX12_readItem_54 : decode cX12_readItem 54 = .ok (.istore_n 3, 1) := by decide +kernel
theorem dX12_readItem_55 : decode cX12_readItem 55 = .ok (.aload_n 0, 1) := by decide +kernel
theorem dX12_readItem_56 : decode cX12_readItem 56 = .ok (.iconst 0, 1) := by decide +kernel
theorem dX12_readItem_57 : decode cX12_readItem 57 = .ok (.sipush 999, 3) := by decide +kernel
theorem dX12_readItem_60 : decode cX12_readItem 60 = .ok (.invokevirtual 393, 3) := by decide +kernel
theorem dX12_readItem_63 : decode cX12_readItem 63 = .ok (.istore 4, 2) := by decide +kernel
theorem dX12_readItem_65 : decode cX12_readItem 65 = .ok (.aload_n 0, 1) := by decide +kernel
theorem dX12_readItem_66 : decode cX12_readItem 66 = .ok (.invokevirtual 384, 3) := by decide +kernel
theorem dX12_readItem_69 : decode cX12_readItem 69 = .ok (.ifCond .eq 14, 3) := by decide +kernel
theorem dX12_readItem_72 : decode cX12_readItem 72 = .ok (.aload_n 0, 1) := by decide +kernel
theorem dX12_readItem_73 : decode cX12_readItem 73 = .ok (.iload_n 1, 1) := by decide +kernel
theorem dX12_readItem_74 : decode cX12_readItem 74 = .ok (.iload_n 2, 1) := by decide +kernel
theorem dX12_readItem_75 : decode cX12_readItem 75 = .ok (.iload_n 3, 1) := by decide +kernel
theorem dX12_readItem_76 : decode cX12_readItem 76 = .ok (.iload 4, 2) := by decide +kernel
theorem dX12_readItem_78 : decode cX12_readItem 78 = .ok (.invokevirtual 89, 3) := by decide +kernel
theorem dX12_readItem_81 : decode cX12_readItem 81 = .ok (.istore 5, 2) := by decide +kernel
theorem dX12_readItem_83 : decode cX12_readItem 83 = .ok (.return_, 1) := by decide +kernel
theorem dX12_readLine_0 : decode cX12_readLine 0 = .ok (.aload_n 0, 1) := by decide +kernel
theorem dX12_readLine_1 : decode cX12_readLine 1 = .ok (.iload_n 1, 1) := by decide +kernel
theorem dX12_readLine_2 : decode cX12_readLine 2 = .ok (.iconst 2, 1) := by decide +kernel
theorem dX12_readLine_3 : decode cX12_readLine 3 = .ok (.invokevirtual 107, 3) := by decide +kernel
theorem dX12_readLine_6 : decode cX12_readLine 6 = .ok (.bipush 6, 2) := by decide +kernel
theorem dX12_readLine_8 : decode cX12_readLine 8 = .ok (.if_icmp .ne 9, 3) := by decide +kernel
theorem dX12_readLine_11 : decode cX12_readLine 11 = .ok (.aload_n 0, 1) := by decide +kernel
theorem dX12_readLine_12 : decode cX12_readLine 12 = .ok (.iconst 3, 1) := by decide +kernel
theorem dX12_readLine_13 : decode cX12_readLine 13 = .ok (.invokevirtual 381, 3) := by decide +kernel
theorem dX12_readLine_16 : decode cX12_readLine 16 = .ok (.return_, 1) := by decide +kernel
theorem dX12_readLine_17 : decode cX12_readLine 17 = .ok (.aload_n 0, 1) := by decide +kernel
theorem dX12_readLine_18 : decode cX12_readLine 18 = .ok (.invokevirtual 387, 3) := by decide +kernel
theorem dX12_readLine_21 : decode cX12_readLine 21 = .ok (.aload_n 0, 1) := by decide +kernel
theorem dX12_readLine_22 : decode cX12_readLine 22 = .ok (.getfield 371, 3) := by decide +kernel
theorem dX12_readLine_25 : decode cX12_readLine 25 = .ok (.iconst 2, 1) := by decide +kernel
theorem dX12_readLine_26 : decode cX12_readLine 26 = .ok (.if_icmp .ne 20, 3) := by decide +kernel
theorem dX12_readLine_29 : decode cX12_readLine 29 = .ok (.aload_n 0, 1) := by decide +kernel
theorem dX12_readLine_30 : decode cX12_readLine 30 = .ok (.iload_n 1, 1) := by decide +kernel
theorem dX12_readLine_31 : decode cX12_readLine 31 = .ok (.aload_n 0, 1) := by decide +kernel
theorem dX12_readLine_32 : decode cX12_readLine 32 = .ok (.getfield 374, 3) := by decide +kernel
theorem dX12_readLine_35 : decode cX12_readLine 35 = .ok (.invokevirtual 116, 3) := by decide +kernel
theorem dX12_readLine_38 : decode cX12_readLine 38 = .ok (.ifCond .eq 8, 3) := by decide +kernel
theorem dX12_readLine_41 : decode cX12_readLine 41 = .ok (.aload_n 0, 1) := by decide +kernel
theorem dX12_readLine_42 : decode cX12_readLine 42 = .ok (.iconst 2, 1) := by decide +kernel
theorem dX12_readLine_43 : decode cX12_readLine 43 = .ok (.invokevirtual 381, 3) := by decide +kernel
theorem dX12_readLine_46 : decode cX12_readLine 46 = .ok (.aload_n 0, 1) := by decide +kernel
theorem dX12_readLine_47 : decode cX12_readLine 47 = .ok (.iconst 0, 1) := by decide +kernel
theorem dX12_readLine_48 : decode cX12_readLine 48 = .ok (.aload_n 0, 1) := by decide +kernel
theorem dX12_readLine_49 : decode cX12_readLine 49 = .ok (.getfield 7, 3) := by decide +kernel
theorem dX12_readLine_52 : decode cX12_readLine 52 = .ok (.iconst 3, 1) := by decide +kernel
theorem dX12_readLine_53 : decode cX12_readLine 53 = .ok (.iaload, 1) := by decide +kernel
theorem dX12_readLine_54 : decode cX12_readLine 54 = .ok (.iconst 1, 1) := by decide +kernel
theorem dX12_readLine_55 : decode cX12_readLine 55 = .ok (.isub, 1) := by decide +kernel
theorem dX12_readLine_56 : decode cX12_readLine 56 = .ok (.invokevirtual 393, 3) := by decide +kernel
theorem dX12_readLine_59 : decode cX12_readLine 59 = .ok (.istore_n 2, 1) := by decide +kernel
theorem dX12_readLine_60 : decode cX12_readLine 60 = .ok (.aload_n 0, 1) := by decide +kernel
theorem dX12_readLine_61 : decode cX12_readLine 61 = .ok (.iconst 1, 1) := by decide +kernel
theorem dX12_readLine_62 : decode cX12_readLine 62 = .ok (.bipush 99, 2) := by decide +kernel
theorem dX12_readLine_64 : decode cX12_readLine 64 = .ok (.invokevirtual 393, 3) := by decide +kernel
theorem dX12_readLine_67 : decode cX12_readLine 67 = .ok (.istore_n 3, 1) := by decide +kernel
theorem dX12_readLine_68 : decode cX12_readLine 68 = .ok (.aload_n 0, 1) := by decide +kernel
theorem dX12_readLine_69 : decode cX12_readLine 69 = .ok (.invokevirtual 384, 3) := by decide +kernel
theorem dX12_readLine_72 : decode cX12_readLine 72 = .ok (.ifCond .eq 12, 3) := by decide +kernel
theorem dX12_readLine_75 : decode cX12_readLine 75 = .ok (.aload_n 0, 1) := by decide +kernel
theorem dX12_readLine_76 : decode cX12_readLine 76 = .ok (.iload_n 1, 1) := by decide +kernel
theorem dX12_readLine_77 : decode cX12_readLine 77 = .ok (.iload_n 2, 1) := by decide +kernel
theorem dX12_readLine_78 : decode cX12_readLine 78 = .ok (.iload_n 3, 1) := by decide +kernel
theorem dX12_readLine_79 : decode cX12_readLine 79 = .ok (.invokevirtual 120, 3) := by decide +kernel
theorem dX12_readLine_82 : decode cX12_readLine 82 = .ok (.istore 4, 2) := by decide +kernel
theorem dX12_readLine_84 : decode cX12_readLine 84 = .ok (.return_, 1) := by decide +kernel
theorem dX12_readOrder_0 : decode cX12_readOrder 0 = .ok (.aload_n 0, 1) := by decide +kernel
theorem dX12_readOrder_1 : decode cX12_readOrder 1 = .ok (.getfield 7, 3) := by decide +kernel
theorem dX12_readOrder_4 : decode cX12_readOrder 4 = .ok (.iconst 4, 1) := by decide +kernel
theorem dX12_readOrder_5 : decode cX12_readOrder 5 = .ok (.iaload, 1) := by decide +kernel
theorem dX12_readOrder_6 : decode cX12_readOrder 6 = .ok (.bipush 16, 2) := by decide +kernel
theorem dX12_readOrder_8 : decode cX12_readOrder 8 = .ok (.if_icmp .ne 9, 3) := by decide +kernel
theorem dX12_readOrder_11 : decode cX12_readOrder 11 = .ok (.aload_n 0, 1) := by decide +kernel
theorem dX12_readOrder_12 : decode cX12_readOrder 12 = .ok (.iconst 3, 1) := by decide +kernel
theorem dX12_readOrder_13 : decode cX12_readOrder 13 = .ok (.invokevirtual 381, 3) := by decide +kernel
theorem dX12_readOrder_16 : decode cX12_readOrder 16 = .ok (.return_, 1) := by decide +kernel
theorem dX12_readOrder_17 : decode cX12_readOrder 17 = .ok (.aload_n 0, 1) := by decide +kernel
theorem dX12_readOrder_18 : decode cX12_readOrder 18 = .ok (.invokevirtual 387, 3) := by decide +kernel
theorem dX12_readOrder_21 : decode cX12_readOrder 21 = .ok (.aload_n 0, 1) := by decide +kernel
theorem dX12_readOrder_22 : decode cX12_readOrder 22 = .ok (.iconst 0, 1) := by decide +kernel
theorem dX12_readOrder_23 : decode cX12_readOrder 23 = .ok (.sipush 9999, 3) := by decide +kernel
theorem dX12_readOrder_26 : decode cX12_readOrder 26 = .ok (.invokevirtual 393, 3) := by decide +kernel
theorem dX12_readOrder_29 : decode cX12_readOrder 29 = .ok (.istore_n 1, 1) := by decide +kernel
theorem dX12_readOrder_30 : decode cX12_readOrder 30 = .ok (.aload_n 0, 1) := by decide +kernel
theorem dX12_readOrder_31 : decode cX12_readOrder 31 = .ok (.invokevirtual 384, 3) := by decide +kernel
theorem dX12_readOrder_34 : decode cX12_readOrder 34 = .ok (.ifCond .eq 11, 3) := by decide +kernel
theorem dX12_readOrder_37 : decode cX12_readOrder 37 = .ok (.aload_n 0, 1) := by decide +kernel
theorem dX12_readOrder_38 : decode cX12_readOrder 38 = .ok (.iload_n 1, 1) := by decide +kernel
theorem dX12_readOrder_39 : decode cX12_readOrder 39 = .ok (.invokevirtual 104, 3) := by decide +kernel
theorem dX12_readOrder_42 : decode cX12_readOrder 42 = .ok (.goto 4, 3) := by decide +kernel
theorem dX12_readOrder_45 : decode cX12_readOrder 45 = .ok (.iconst 0, 1) := by decide +kernel
theorem dX12_readOrder_46 : decode cX12_readOrder 46 = .ok (.istore_n 2, 1) := by decide +kernel
theorem dX12_readOrder_47 : decode cX12_readOrder 47 = .ok (.aload_n 0, 1) := by decide +kernel
theorem dX12_readOrder_48 : decode cX12_readOrder 48 = .ok (.invokevirtual 384, 3) := by decide +kernel
theorem dX12_readOrder_51 : decode cX12_readOrder 51 = .ok (.ifCond .eq 19, 3) := by decide +kernel
theorem dX12_readOrder_54 : decode cX12_readOrder 54 = .ok (.aload_n 0, 1) := by decide +kernel
theorem dX12_readOrder_55 : decode cX12_readOrder 55 = .ok (.invokevirtual 390, 3) := by decide +kernel
theorem dX12_readOrder_58 : decode cX12_readOrder 58 = .ok (.iconst 3, 1) := by decide +kernel
theorem dX12_readOrder_59 : decode cX12_readOrder 59 = .ok (.if_icmp .ne 11, 3) := by decide +kernel
theorem dX12_readOrder_62 : decode cX12_readOrder 62 = .ok (.aload_n 0, 1) := by decide +kernel
theorem dX12_readOrder_63 : decode cX12_readOrder 63 = .ok (.iload_n 2, 1) := by decide +kernel
theorem dX12_readOrder_64 : decode cX12_readOrder 64 = .ok (.invokevirtual 399, 3) := by decide +kernel
theorem dX12_readOrder_67 : decode cX12_readOrder 67 = .ok (.goto (-20), 3) := by decide +kernel
theorem dX12_readOrder_70 : decode cX12_readOrder 70 = .ok (.return_, 1) := by decide +kernel
theorem dX12_readZones_0 : decode cX12_readZones 0 = .ok (.aload_n 0, 1) := by decide +kernel
theorem dX12_readZones_1 : decode cX12_readZones 1 = .ok (.invokevirtual 387, 3) := by decide +kernel
theorem dX12_readZones_4 : decode cX12_readZones 4 = .ok (.aload_n 0, 1) := by decide +kernel
theorem dX12_readZones_5 : decode cX12_readZones 5 = .ok (.iconst 1, 1) := by decide +kernel
theorem dX12_readZones_6 : decode cX12_readZones 6 = .ok (.aload_n 0, 1) := by decide +kernel
theorem dX12_readZones_7 : decode cX12_readZones 7 = .ok (.getfield 7, 3) := by decide +kernel
theorem dX12_readZones_10 : decode cX12_readZones 10 = .ok (.iconst 0, 1) := by decide +kernel
theorem dX12_readZones_11 : decode cX12_readZones 11 = .ok (.iaload, 1) := by decide +kernel
theorem dX12_readZones_12 : decode cX12_readZones 12 = .ok (.iconst 1, 1) := by decide +kernel
theorem dX12_readZones_13 : decode cX12_readZones 13 = .ok (.isub, 1) := by decide +kernel
theorem dX12_readZones_14 : decode cX12_readZones 14 = .ok (.invokevirtual 393, 3) := by decide +kernel
theorem dX12_readZones_17 : decode cX12_readZones 17 = .ok (.istore_n 1, 1) := by decide +kernel
theorem dX12_readZones_18 : decode cX12_readZones 18 = .ok (.aload_n 0, 1) := by decide +kernel
theorem dX12_readZones_19 : decode cX12_readZones 19 = .ok (.invokevirtual 384, 3) := by decide +kernel
theorem dX12_readZones_22 : decode cX12_readZones 22 = .ok (.ifCond .eq 29, 3) := by decide +kernel
theorem dX12_readZones_25 : decode cX12_readZones 25 = .ok (.aload_n 0, 1) := by decide +kernel
theorem dX12_readZones_26 : decode cX12_readZones 26 = .ok (.getfield 371, 3) := by decide +kernel
theorem dX12_readZones_29 : decode cX12_readZones 29 = .ok (.iconst 2, 1) := by decide +kernel
theorem dX12_readZones_30 : decode cX12_readZones 30 = .ok (.if_icmp .ne 21, 3) := by decide +kernel
theorem dX12_readZones_33 : decode cX12_readZones 33 = .ok (.aload_n 0, 1) := by decide +kernel
theorem dX12_readZones_34 : decode cX12_readZones 34 = .ok (.iload_n 1, 1) := by decide +kernel
theorem dX12_readZones_35 : decode cX12_readZones 35 = .ok (.iconst 1, 1) := by decide +kernel
theorem dX12_readZones_36 : decode cX12_readZones 36 = .ok (.iadd, 1) := by decide +kernel
theorem dX12_readZones_37 : decode cX12_readZones 37 = .ok (.aload_n 0, 1) := by decide +kernel
theorem dX12_readZones_38 : decode cX12_readZones 38 = .ok (.getfield 7, 3) := by decide +kernel
theorem dX12_readZones_41 : decode cX12_readZones 41 = .ok (.iconst 0, 1) := by decide +kernel
theorem dX12_readZones_42 : decode cX12_readZones 42 = .ok (.iaload, 1) := by decide +kernel
theorem dX12_readZones_43 : decode cX12_readZones 43 = .ok (.iconst 1, 1) := by decide +kernel
theorem dX12_readZones_44 : decode cX12_readZones 44 = .ok (.isub, 1) := by decide +kernel
theorem dX12_readZones_45 : decode cX12_readZones 45 = .ok (.invokevirtual 393, 3) := by decide +kernel
theorem dX12_readZones_48 : decode cX12_readZones 48 = .ok (.goto 4, 3) := by decide +kernel
theorem dX12_readZones_51 : decode cX12_readZones 51 = .ok (.iconst (-1), 1) := by decide +kernel
theorem dX12_readZones_52 : decode cX12_readZones 52 = .ok (.istore_n 2, 1) := by decide +kernel
theorem dX12_readZones_53 : decode cX12_readZones 53 = .ok (.aload_n 0, 1) := by decide +kernel
theorem dX12_readZones_54 : decode cX12_readZones 54 = .ok (.invokevirtual 384, 3) := by decide +kernel
theorem dX12_readZones_57 : decode cX12_readZones 57 = .ok (.ifCond .eq 19, 3) := by decide +kernel
theorem dX12_readZones_60 : decode cX12_readZones 60 = .ok (.aload_n 0, 1) := by decide +kernel
theorem dX12_readZones_61 : decode cX12_readZones 61 = .ok (.getfield 7, 3) := by decide +kernel
theorem dX12_readZones_64 : decode cX12_readZones 64 = .ok (.bipush 7, 2) := by decide +kernel
theorem dX12_readZones_66 : decode cX12_readZones 66 = .ok (.iload_n 1, 1) := by decide +kernel
theorem dX12_readZones_67 : decode cX12_readZones 67 = .ok (.iastore, 1) := by decide +kernel
theorem dX12_readZones_68 : decode cX12_readZones 68 = .ok (.aload_n 0, 1) := by decide +kernel
theorem dX12_readZones_69 : decode cX12_readZones 69 = .ok (.getfield 7, 3) := by decide +kernel
theorem dX12_readZones_72 : decode cX12_readZones 72 = .ok (.bipush 8, 2) := by decide +kernel
theorem dX12_readZones_74 : decode cX12_readZones 74 = .ok (.iload_n 2, 1) := by decide +kernel
theorem dX12_readZones_75 : decode cX12_readZones 75 = .ok (.iastore, 1) := by decide +kernel
theorem dX12_readZones_76 : decode cX12_readZones 76 = .ok (.return_, 1) := by decide +kernel
theorem dX12_readBuffer_0 : decode cX12_readBuffer 0 = .ok (.aload_n 0, 1) := by decide +kernel
theorem dX12_readBuffer_1 : decode cX12_readBuffer 1 = .ok (.invokevirtual 387, 3) := by decide +kernel
theorem dX12_readBuffer_4 : decode cX12_readBuffer 4 = .ok (.aload_n 0, 1) := by decide +kernel
theorem dX12_readBuffer_5 : decode cX12_readBuffer 5 = .ok (.iconst 0, 1) := by decide +kernel
theorem dX12_readBuffer_6 : decode cX12_readBuffer 6 = .ok (.iconst 1, 1) := by decide +kernel
theorem dX12_readBuffer_7 : decode cX12_readBuffer 7 = .ok (.invokevirtual 393, 3) := by decide +kernel
theorem dX12_readBuffer_10 : decode cX12_readBuffer 10 = .ok (.istore_n 1, 1) := by decide +kernel
theorem dX12_readBuffer_11 : decode cX12_readBuffer 11 = .ok (.aload_n 0, 1) := by decide +kernel
theorem dX12_readBuffer_12 : decode cX12_readBuffer 12 = .ok (.iconst 0, 1) := by decide +kernel
theorem dX12_readBuffer_13 : decode cX12_readBuffer 13 = .ok (.iconst 4, 1) := by decide +kernel
theorem dX12_readBuffer_14 : decode cX12_readBuffer 14 = .ok (.invokevirtual 393, 3) := by decide +kernel
theorem dX12_readBuffer_17 : decode cX12_readBuffer 17 = .ok (.istore_n 2, 1) := by decide +kernel
theorem dX12_readBuffer_18 : decode cX12_readBuffer 18 = .ok (.aload_n 0, 1) := by decide +kernel
theorem dX12_readBuffer_19 : decode cX12_readBuffer 19 = .ok (.invokevirtual 384, 3) := by decide +kernel
theorem dX12_readBuffer_22 : decode cX12_readBuffer 22 = .ok (.ifCond .eq 13, 3) := by decide +kernel
theorem dX12_readBuffer_25 : decode cX12_readBuffer 25 = .ok (.aload_n 0, 1) := by decide +kernel
theorem dX12_readBuffer_26 : decode cX12_readBuffer 26 = .ok (.getfield 7, 3) := by decide +kernel
theorem dX12_readBuffer_29 : decode cX12_readBuffer 29 = .ok (.bipush 9, 2) := by decide +kernel
theorem dX12_readBuffer_31 : decode cX12_readBuffer 31 = .ok (.iload_n 1, 1) := by decide +kernel
theorem dX12_readBuffer_32 : decode cX12_readBuffer 32 = .ok (.iadd, 1) := by decide +kernel
theorem dX12_readBuffer_33 : decode cX12_readBuffer 33 = .ok (.iload_n 2, 1) := by decide +kernel
theorem dX12_readBuffer_34 : decode cX12_readBuffer 34 = .ok (.iastore, 1) := by decide +kernel
theorem dX12_readBuffer_35 : decode cX12_readBuffer 35 = .ok (.return_, 1) := by decide +kernel
theorem dX12_readTimes_0 : decode cX12_readTimes 0 = .ok (.aload_n 0, 1) := by decide +kernel
theorem dX12_readTimes_1 : decode cX12_readTimes 1 = .ok (.invokevirtual 387, 3) := by decide +kernel
theorem dX12_readTimes_4 : decode cX12_readTimes 4 = .ok (.aload_n 0, 1) := by decide +kernel
theorem dX12_readTimes_5 : decode cX12_readTimes 5 = .ok (.getfield 7, 3) := by decide +kernel
theorem dX12_readTimes_8 : decode cX12_readTimes 8 = .ok (.bipush 11, 2) := by decide +kernel
theorem dX12_readTimes_10 : decode cX12_readTimes 10 = .ok (.aload_n 0, 1) := by decide +kernel
theorem dX12_readTimes_11 : decode cX12_readTimes 11 = .ok (.iconst 0, 1) := by decide +kernel
theorem dX12_readTimes_12 : decode cX12_readTimes 12 = .ok (.bipush 99, 2) := by decide +kernel
theorem dX12_readTimes_14 : decode cX12_readTimes 14 = .ok (.invokevirtual 393, 3) := by decide +kernel
theorem dX12_readTimes_17 : decode cX12_readTimes 17 = .ok (.iastore, 1) := by decide +kernel
theorem dX12_readTimes_18 : decode cX12_readTimes 18 = .ok (.aload_n 0, 1) := by decide +kernel
theorem dX12_readTimes_19 : decode cX12_readTimes 19 = .ok (.getfield 7, 3) := by decide +kernel
theorem dX12_readTimes_22 : decode cX12_readTimes 22 = .ok (.bipush 12, 2) := by decide +kernel
theorem dX12_readTimes_24 : decode cX12_readTimes 24 = .ok (.aload_n 0, 1) := by decide +kernel
theorem dX12_readTimes_25 : decode cX12_readTimes 25 = .ok (.iconst 0, 1) := by decide +kernel
theorem dX12_readTimes_26 : decode cX12_readTimes 26 = .ok (.bipush 99, 2) := by decide +kernel
theorem dX12_readTimes_28 : decode cX12_readTimes 28 = .ok (.invokevirtual 393, 3) := by decide +kernel
theorem dX12_readTimes_31 : decode cX12_readTimes 31 = .ok (.iastore, 1) := by decide +kernel
theorem dX12_readTimes_32 : decode cX12_readTimes 32 = .ok (.return_, 1) := by decide +kernel
theorem dX12_readPolicy_0 : decode cX12_readPolicy 0 = .ok (.aload_n 0, 1) := by decide +kernel
theorem dX12_readPolicy_1 : decode cX12_readPolicy 1 = .ok (.invokevirtual 387, 3) := by decide +kernel
theorem dX12_readPolicy_4 : decode cX12_readPolicy 4 = .ok (.aload_n 0, 1) := by decide +kernel
theorem dX12_readPolicy_5 : decode cX12_readPolicy 5 = .ok (.invokevirtual 390, 3) := by decide +kernel
theorem dX12_readPolicy_8 : decode cX12_readPolicy 8 = .ok (.bipush 8, 2) := by decide +kernel
theorem dX12_readPolicy_10 : decode cX12_readPolicy 10 = .ok (.isub, 1) := by decide +kernel
theorem dX12_readPolicy_11 : decode cX12_readPolicy 11 = .ok (.istore_n 1, 1) := by decide +kernel
theorem dX12_readPolicy_12 : decode cX12_readPolicy 12 = .ok (.iload_n 1, 1) := by decide +kernel
theorem dX12_readPolicy_13 : decode cX12_readPolicy 13 = .ok (.ifCond .ge 9, 3) := by decide +kernel
theorem dX12_readPolicy_16 : decode cX12_readPolicy 16 = .ok (.aload_n 0, 1) := by decide +kernel
theorem dX12_readPolicy_17 : decode cX12_readPolicy 17 = .ok (.iconst 1, 1) := by decide +kernel
theorem dX12_readPolicy_18 : decode cX12_readPolicy 18 = .ok (.invokevirtual 381, 3) := by decide +kernel
theorem dX12_readPolicy_21 : decode cX12_readPolicy 21 = .ok (.return_, 1) := by decide +kernel
theorem dX12_readPolicy_22 : decode cX12_readPolicy 22 = .ok (.aload_n 0, 1) := by decide +kernel
theorem dX12_readPolicy_23 : decode cX12_readPolicy 23 = .ok (.getfield 7, 3) := by decide +kernel
theorem dX12_readPolicy_26 : decode cX12_readPolicy 26 = .ok (.bipush 6, 2) := by decide +kernel
theorem dX12_readPolicy_28 : decode cX12_readPolicy 28 = .ok (.iload_n 1, 1) := by decide +kernel
theorem dX12_readPolicy_29 : decode cX12_readPolicy 29 = .ok (.iastore, 1) := by decide +kernel
theorem dX12_readPolicy_30 : decode cX12_readPolicy 30 = .ok (.aload_n 0, 1) := by decide +kernel
theorem dX12_readPolicy_31 : decode cX12_readPolicy 31 = .ok (.invokevirtual 387, 3) := by decide +kernel
theorem dX12_readPolicy_34 : decode cX12_readPolicy 34 = .ok (.return_, 1) := by decide +kernel
theorem dX12_readStatement_0 : decode cX12_readStatement 0 = .ok (.aload_n 0, 1) := by decide +kernel
theorem dX12_readStatement_1 : decode cX12_readStatement 1 = .ok (.invokevirtual 390, 3) := by decide +kernel
theorem dX12_readStatement_4 : decode cX12_readStatement 4 = .ok (.tableswitch 86 1 7 #[44, 51, 86, 58, 65, 72, 79], 44) := by decide +kernel
theorem dX12_readStatement_48 : decode cX12_readStatement 48 = .ok (.aload_n 0, 1) := by decide +kernel
theorem dX12_readStatement_49 : decode cX12_readStatement 49 = .ok (.invokevirtual 402, 3) := by decide +kernel
theorem dX12_readStatement_52 : decode cX12_readStatement 52 = .ok (.goto 43, 3) := by decide +kernel
theorem dX12_readStatement_55 : decode cX12_readStatement 55 = .ok (.aload_n 0, 1) := by decide +kernel
theorem dX12_readStatement_56 : decode cX12_readStatement 56 = .ok (.invokevirtual 405, 3) := by decide +kernel
theorem dX12_readStatement_59 : decode cX12_readStatement 59 = .ok (.goto 36, 3) := by decide +kernel
theorem dX12_readStatement_62 : decode cX12_readStatement 62 = .ok (.aload_n 0, 1) := by decide +kernel
theorem dX12_readStatement_63 : decode cX12_readStatement 63 = .ok (.invokevirtual 408, 3) := by decide +kernel
theorem dX12_readStatement_66 : decode cX12_readStatement 66 = .ok (.goto 29, 3) := by decide +kernel
theorem dX12_readStatement_69 : decode cX12_readStatement 69 = .ok (.aload_n 0, 1) := by decide +kernel
theorem dX12_readStatement_70 : decode cX12_readStatement 70 = .ok (.invokevirtual 411, 3) := by decide +kernel
theorem dX12_readStatement_73 : decode cX12_readStatement 73 = .ok (.goto 22, 3) := by decide +kernel
theorem dX12_readStatement_76 : decode cX12_readStatement 76 = .ok (.aload_n 0, 1) := by decide +kernel
theorem dX12_readStatement_77 : decode cX12_readStatement 77 = .ok (.invokevirtual 414, 3) := by decide +kernel
theorem dX12_readStatement_80 : decode cX12_readStatement 80 = .ok (.goto 15, 3) := by decide +kernel
theorem dX12_readStatement_83 : decode cX12_readStatement 83 = .ok (.aload_n 0, 1) := by decide +kernel
theorem dX12_readStatement_84 : decode cX12_readStatement 84 = .ok (.invokevirtual 417, 3) := by decide +kernel
theorem dX12_readStatement_87 : decode cX12_readStatement 87 = .ok (.goto 8, 3) := by decide +kernel
theorem dX12_readStatement_90 : decode cX12_readStatement 90 = .ok (.aload_n 0, 1) := by decide +kernel
theorem dX12_readStatement_91 : decode cX12_readStatement 91 = .ok (.iconst 1, 1) := by decide +kernel
theorem dX12_readStatement_92 : decode cX12_readStatement 92 = .ok (.invokevirtual 381, 3) := by decide +kernel
theorem dX12_readStatement_95 : decode cX12_readStatement 95 = .ok (.aload_n 0, 1) := by decide +kernel
theorem dX12_readStatement_96 : decode cX12_readStatement 96 = .ok (.invokevirtual 396, 3) := by decide +kernel
theorem dX12_readStatement_99 : decode cX12_readStatement 99 = .ok (.return_, 1) := by decide +kernel
theorem dX12_load_0 : decode cX12_load 0 = .ok (.aload_n 0, 1) := by decide +kernel
theorem dX12_load_1 : decode cX12_load 1 = .ok (.iconst 0, 1) := by decide +kernel
theorem dX12_load_2 : decode cX12_load 2 = .ok (.putfield 70, 3) := by decide +kernel
theorem dX12_load_5 : decode cX12_load 5 = .ok (.aload_n 0, 1) := by decide +kernel
theorem dX12_load_6 : decode cX12_load 6 = .ok (.getfield 7, 3) := by decide +kernel
theorem dX12_load_9 : decode cX12_load 9 = .ok (.iconst 0, 1) := by decide +kernel
theorem dX12_load_10 : decode cX12_load 10 = .ok (.aload_n 0, 1) := by decide +kernel
theorem dX12_load_11 : decode cX12_load 11 = .ok (.getfield 13, 3) := by decide +kernel
theorem dX12_load_14 : decode cX12_load 14 = .ok (.iconst 0, 1) := by decide +kernel
theorem dX12_load_15 : decode cX12_load 15 = .ok (.invokestatic 420, 3) := by decide +kernel
theorem dX12_load_18 : decode cX12_load 18 = .ok (.aload_n 0, 1) := by decide +kernel
theorem dX12_load_19 : decode cX12_load 19 = .ok (.invokevirtual 67, 3) := by decide +kernel
theorem dX12_load_22 : decode cX12_load 22 = .ok (.aload_n 0, 1) := by decide +kernel
theorem dX12_load_23 : decode cX12_load 23 = .ok (.iconst 0, 1) := by decide +kernel
theorem dX12_load_24 : decode cX12_load 24 = .ok (.putfield 356, 3) := by decide +kernel
theorem dX12_load_27 : decode cX12_load 27 = .ok (.aload_n 0, 1) := by decide +kernel
theorem dX12_load_28 : decode cX12_load 28 = .ok (.iconst 0, 1) := by decide +kernel
theorem dX12_load_29 : decode cX12_load 29 = .ok (.putfield 378, 3) := by decide +kernel
theorem dX12_load_32 : decode cX12_load 32 = .ok (.aload_n 0, 1) := by decide +kernel
theorem dX12_load_33 : decode cX12_load 33 = .ok (.iconst (-1), 1) := by decide +kernel
theorem dX12_load_34 : decode cX12_load 34 = .ok (.putfield 60, 3) := by decide +kernel
theorem dX12_load_37 : decode cX12_load 37 = .ok (.aload_n 0, 1) := by decide +kernel
theorem dX12_load_38 : decode cX12_load 38 = .ok (.invokevirtual 387, 3) := by decide +kernel
theorem dX12_load_41 : decode cX12_load 41 = .ok (.aload_n 0, 1) := by decide +kernel
theorem dX12_load_42 : decode cX12_load 42 = .ok (.invokevirtual 424, 3) := by decide +kernel
theorem dX12_load_45 : decode cX12_load 45 = .ok (.aload_n 0, 1) := by decide +kernel
theorem dX12_load_46 : decode cX12_load 46 = .ok (.invokevirtual 384, 3) := by decide +kernel
theorem dX12_load_49 : decode cX12_load 49 = .ok (.ifCond .eq 17, 3) := by decide +kernel
theorem dX12_load_52 : decode cX12_load 52 = .ok (.aload_n 0, 1) := by decide +kernel
theorem dX12_load_53 : decode cX12_load 53 = .ok (.getfield 371, 3) := by decide +kernel
theorem dX12_load_56 : decode cX12_load 56 = .ok (.ifCond .eq 10, 3) := by decide +kernel
theorem dX12_load_59 : decode cX12_load 59 = .ok (.aload_n 0, 1) := by decide +kernel
theorem dX12_load_60 : decode cX12_load 60 = .ok (.invokevirtual 427, 3) := by decide +kernel
theorem dX12_load_63 : decode cX12_load 63 = .ok (.goto (-18), 3) := by decide +kernel
theorem dX12_load_66 : decode cX12_load 66 = .ok (.aload_n 0, 1) := by decide +kernel
theorem dX12_load_67 : decode cX12_load 67 = .ok (.iconst 0, 1) := by decide +kernel
theorem dX12_load_68 : decode cX12_load 68 = .ok (.putfield 353, 3) := by decide +kernel
theorem dX12_load_71 : decode cX12_load 71 = .ok (.aload_n 0, 1) := by decide +kernel
theorem dX12_load_72 : decode cX12_load 72 = .ok (.invokevirtual 384, 3) := by decide +kernel
theorem dX12_load_75 : decode cX12_load 75 = .ok (.ifCond .ne 18, 3) := by decide +kernel
theorem dX12_load_78 : decode cX12_load 78 = .ok (.aload_n 0, 1) := by decide +kernel
theorem dX12_load_79 : decode cX12_load 79 = .ok (.getfield 13, 3) := by decide +kernel
theorem dX12_load_82 : decode cX12_load 82 = .ok (.iconst 0, 1) := by decide +kernel
theorem dX12_load_83 : decode cX12_load 83 = .ok (.aload_n 0, 1) := by decide +kernel
theorem dX12_load_84 : decode cX12_load 84 = .ok (.getfield 7, 3) := by decide +kernel
theorem dX12_load_87 : decode cX12_load 87 = .ok (.iconst 0, 1) := by decide +kernel
theorem dX12_load_88 : decode cX12_load 88 = .ok (.invokestatic 420, 3) := by decide +kernel
theorem dX12_load_91 : decode cX12_load 91 = .ok (.iconst (-1), 1) := by decide +kernel
theorem dX12_load_92 : decode cX12_load 92 = .ok (.ireturn, 1) := by decide +kernel
theorem dX12_load_93 : decode cX12_load 93 = .ok (.aload_n 0, 1) := by decide +kernel
theorem dX12_load_94 : decode cX12_load 94 = .ok (.getfield 7, 3) := by decide +kernel
theorem dX12_load_97 : decode cX12_load 97 = .ok (.iconst 4, 1) := by decide +kernel
theorem dX12_load_98 : decode cX12_load 98 = .ok (.iaload, 1) := by decide +kernel
theorem dX12_load_99 : decode cX12_load 99 = .ok (.ireturn, 1) := by decide +kernel
theorem dX12_errorCode_0 : decode cX12_errorCode 0 = .ok (.aload_n 0, 1) := by decide +kernel
theorem dX12_errorCode_1 : decode cX12_errorCode 1 = .ok (.iconst 0, 1) := by decide +kernel
theorem dX12_errorCode_2 : decode cX12_errorCode 2 = .ok (.putfield 70, 3) := by decide +kernel
theorem dX12_errorCode_5 : decode cX12_errorCode 5 = .ok (.aload_n 0, 1) := by decide +kernel
theorem dX12_errorCode_6 : decode cX12_errorCode 6 = .ok (.getfield 378, 3) := by decide +kernel
theorem dX12_errorCode_9 : decode cX12_errorCode 9 = .ok (.ireturn, 1) := by decide +kernel
theorem dX12_errorPosition_0 : decode cX12_errorPosition 0 = .ok (.aload_n 0, 1) := by decide +kernel
theorem dX12_errorPosition_1 : decode cX12_errorPosition 1 = .ok (.iconst 0, 1) := by decide +kernel
theorem dX12_errorPosition_2 : decode cX12_errorPosition 2 = .ok (.putfield 70, 3) := by decide +kernel
theorem dX12_errorPosition_5 : decode cX12_errorPosition 5 = .ok (.aload_n 0, 1) := by decide +kernel
theorem dX12_errorPosition_6 : decode cX12_errorPosition 6 = .ok (.getfield 60, 3) := by decide +kernel
theorem dX12_errorPosition_9 : decode cX12_errorPosition 9 = .ok (.ireturn, 1) := by decide +kernel
theorem dX12_copies_0 : decode cX12_copies 0 = .ok (.iconst 0, 1) := by decide +kernel
theorem dX12_copies_1 : decode cX12_copies 1 = .ok (.istore 4, 2) := by decide +kernel
theorem dX12_copies_3 : decode cX12_copies 3 = .ok (.iload 4, 2) := by decide +kernel
theorem dX12_copies_5 : decode cX12_copies 5 = .ok (.sipush 469, 3) := by decide +kernel
theorem dX12_copies_8 : decode cX12_copies 8 = .ok (.if_icmp .ge 21, 3) := by decide +kernel
theorem dX12_copies_11 : decode cX12_copies 11 = .ok (.aload_n 2, 1) := by decide +kernel
theorem dX12_copies_12 : decode cX12_copies 12 = .ok (.iload_n 3, 1) := by decide +kernel
theorem dX12_copies_13 : decode cX12_copies 13 = .ok (.iload 4, 2) := by decide +kernel
theorem dX12_copies_15 : decode cX12_copies 15 = .ok (.iadd, 1) := by decide +kernel
theorem dX12_copies_16 : decode cX12_copies 16 = .ok (.aload_n 0, 1) := by decide +kernel
theorem dX12_copies_17 : decode cX12_copies 17 = .ok (.iload_n 1, 1) := by decide +kernel
theorem dX12_copies_18 : decode cX12_copies 18 = .ok (.iload 4, 2) := by decide +kernel
theorem dX12_copies_20 : decode cX12_copies 20 = .ok (.iadd, 1) := by decide +kernel
theorem dX12_copies_21 : decode cX12_copies 21 = .ok (.iaload, 1) := by decide +kernel
theorem dX12_copies_22 : decode cX12_copies 22 = .ok (.iastore, 1) := by decide +kernel
theorem dX12_copies_23 : decode cX12_copies 23 = .ok (.iinc 4 1, 3) := by decide +kernel
theorem dX12_copies_26 : decode cX12_copies 26 = .ok (.goto (-23), 3) := by decide +kernel
theorem dX12_copies_29 : decode cX12_copies 29 = .ok (.return_, 1) := by decide +kernel
theorem dX12_save_0 : decode cX12_save 0 = .ok (.aload_n 0, 1) := by decide +kernel
theorem dX12_save_1 : decode cX12_save 1 = .ok (.iload_n 1, 1) := by decide +kernel
theorem dX12_save_2 : decode cX12_save 2 = .ok (.iconst 0, 1) := by decide +kernel
theorem dX12_save_3 : decode cX12_save 3 = .ok (.iconst 1, 1) := by decide +kernel
theorem dX12_save_4 : decode cX12_save 4 = .ok (.invokestatic 73, 3) := by decide +kernel
theorem dX12_save_7 : decode cX12_save 7 = .ok (.ifCond .eq 7, 3) := by decide +kernel
theorem dX12_save_10 : decode cX12_save 10 = .ok (.iconst 0, 1) := by decide +kernel
theorem dX12_save_11 : decode cX12_save 11 = .ok (.goto 4, 3) := by decide +kernel
theorem dX12_save_14 : decode cX12_save 14 = .ok (.iconst 1, 1) := by decide +kernel
theorem dX12_save_15 : decode cX12_save 15 = .ok (.putfield 70, 3) := by decide +kernel
theorem dX12_save_18 : decode cX12_save 18 = .ok (.aload_n 0, 1) := by decide +kernel
theorem dX12_save_19 : decode cX12_save 19 = .ok (.getfield 70, 3) := by decide +kernel
theorem dX12_save_22 : decode cX12_save 22 = .ok (.ifCond .le 4, 3) := by decide +kernel
theorem dX12_save_25 : decode cX12_save 25 = .ok (.return_, 1) := by decide +kernel
theorem dX12_save_26 : decode cX12_save 26 = .ok (.aload_n 0, 1) := by decide +kernel
theorem dX12_save_27 : decode cX12_save 27 = .ok (.getfield 7, 3) := by decide +kernel
theorem dX12_save_30 : decode cX12_save 30 = .ok (.iconst 0, 1) := by decide +kernel
theorem dX12_save_31 : decode cX12_save 31 = .ok (.aload_n 0, 1) := by decide +kernel
theorem dX12_save_32 : decode cX12_save 32 = .ok (.getfield 16, 3) := by decide +kernel
theorem dX12_save_35 : decode cX12_save 35 = .ok (.sipush 469, 3) := by decide +kernel
theorem dX12_save_38 : decode cX12_save 38 = .ok (.iload_n 1, 1) := by decide +kernel
theorem dX12_save_39 : decode cX12_save 39 = .ok (.imul, 1) := by decide +kernel
theorem dX12_save_40 : decode cX12_save 40 = .ok (.invokestatic 420, 3) := by decide +kernel
theorem dX12_save_43 : decode cX12_save 43 = .ok (.aload_n 0, 1) := by decide +kernel
theorem dX12_save_44 : decode cX12_save 44 = .ok (.getfield 19, 3) := by decide +kernel
theorem dX12_save_47 : decode cX12_save 47 = .ok (.iload_n 1, 1) := by decide +kernel
theorem dX12_save_48 : decode cX12_save 48 = .ok (.iconst 1, 1) := by decide +kernel
theorem dX12_save_49 : decode cX12_save 49 = .ok (.bastore, 1) := by decide +kernel
theorem dX12_save_50 : decode cX12_save 50 = .ok (.return_, 1) := by decide +kernel
theorem dX12_restore_0 : decode cX12_restore 0 = .ok (.aload_n 0, 1) := by decide +kernel
theorem dX12_restore_1 : decode cX12_restore 1 = .ok (.iload_n 1, 1) := by decide +kernel
theorem dX12_restore_2 : decode cX12_restore 2 = .ok (.iconst 0, 1) := by decide +kernel
theorem dX12_restore_3 : decode cX12_restore 3 = .ok (.iconst 1, 1) := by decide +kernel
theorem dX12_restore_4 : decode cX12_restore 4 = .ok (.invokestatic 73, 3) := by decide +kernel
theorem dX12_restore_7 : decode cX12_restore 7 = .ok (.ifCond .ne 7, 3) := by decide +kernel
theorem dX12_restore_10 : decode cX12_restore 10 = .ok (.iconst 1, 1) := by decide +kernel
theorem dX12_restore_11 : decode cX12_restore 11 = .ok (.goto 17, 3) := by decide +kernel
theorem dX12_restore_14 : decode cX12_restore 14 = .ok (.aload_n 0, 1) := by decide +kernel
theorem dX12_restore_15 : decode cX12_restore 15 = .ok (.getfield 19, 3) := by decide +kernel
theorem dX12_restore_18 : decode cX12_restore 18 = .ok (.iload_n 1, 1) := by decide +kernel
theorem dX12_restore_19 : decode cX12_restore 19 = .ok (.baload, 1) := by decide +kernel
theorem dX12_restore_20 : decode cX12_restore 20 = .ok (.ifCond .eq 7, 3) := by decide +kernel
theorem dX12_restore_23 : decode cX12_restore 23 = .ok (.iconst 0, 1) := by decide +kernel
theorem dX12_restore_24 : decode cX12_restore 24 = .ok (.goto 4, 3) := by decide +kernel
theorem dX12_restore_27 : decode cX12_restore 27 = .ok (.iconst 2, 1) := by decide +kernel
theorem dX12_restore_28 : decode cX12_restore 28 = .ok (.putfield 70, 3) := by decide +kernel
theorem dX12_restore_31 : decode cX12_restore 31 = .ok (.aload_n 0, 1) := by decide +kernel
theorem dX12_restore_32 : decode cX12_restore 32 = .ok (.getfield 70, 3) := by decide +kernel
theorem dX12_restore_35 : decode cX12_restore 35 = .ok (.ifCond .le 4, 3) := by decide +kernel
theorem dX12_restore_38 : decode cX12_restore 38 = .ok (.return_, 1) := by decide +kernel
theorem dX12_restore_39 : decode cX12_restore 39 = .ok (.aload_n 0, 1) := by decide +kernel
theorem dX12_restore_40 : decode cX12_restore 40 = .ok (.getfield 16, 3) := by decide +kernel
theorem dX12_restore_43 : decode cX12_restore 43 = .ok (.sipush 469, 3) := by decide +kernel
theorem dX12_restore_46 : decode cX12_restore 46 = .ok (.iload_n 1, 1) := by decide +kernel
theorem dX12_restore_47 : decode cX12_restore 47 = .ok (.imul, 1) := by decide +kernel
theorem dX12_restore_48 : decode cX12_restore 48 = .ok (.aload_n 0, 1) := by decide +kernel
theorem dX12_restore_49 : decode cX12_restore 49 = .ok (.getfield 7, 3) := by decide +kernel
theorem dX12_restore_52 : decode cX12_restore 52 = .ok (.iconst 0, 1) := by decide +kernel
theorem dX12_restore_53 : decode cX12_restore 53 = .ok (.invokestatic 420, 3) := by decide +kernel
theorem dX12_restore_56 : decode cX12_restore 56 = .ok (.return_, 1) := by decide +kernel
theorem dL_setLayout_0 : decode cL_setLayout 0 = .ok (.aload 4, 2) := by decide +kernel
theorem dL_setLayout_2 : decode cL_setLayout 2 = .ok (.iconst 0, 1) := by decide +kernel
theorem dL_setLayout_3 : decode cL_setLayout 3 = .ok (.aload_n 0, 1) := by decide +kernel
theorem dL_setLayout_4 : decode cL_setLayout 4 = .ok (.iload_n 1, 1) := by decide +kernel
theorem dL_setLayout_5 : decode cL_setLayout 5 = .ok (.iload_n 2, 1) := by decide +kernel
theorem dL_setLayout_6 : decode cL_setLayout 6 = .ok (.iload_n 3, 1) := by decide +kernel
theorem dL_setLayout_7 : decode cL_setLayout 7 = .ok (.invokevirtual 7, 3) := by decide +kernel
theorem dL_setLayout_10 : decode cL_setLayout 10 = .ok (.i2l, 1) := by decide +kernel
theorem dL_setLayout_11 : decode cL_setLayout 11 = .ok (.lastore, 1) := by decide +kernel
theorem dL_setLayout_12 : decode cL_setLayout 12 = .ok (.goto 11, 3) := by decide +kernel
theorem dL_setLayout_15 : decode cL_setLayout 15 = .ok (.astore 5, 2) := by decide +kernel
theorem dL_setLayout_17 : decode cL_setLayout 17 = .ok (.iconst 1, 1) := by decide +kernel
theorem dL_setLayout_18 : decode cL_setLayout 18 = .ok (.ireturn, 1) := by decide +kernel
theorem dL_setLayout_19 : decode cL_setLayout 19 = .ok (.astore 5, 2) := by decide +kernel
theorem dL_setLayout_21 : decode cL_setLayout 21 = .ok (.iconst 2, 1) := by decide +kernel
theorem dL_setLayout_22 : decode cL_setLayout 22 = .ok (.ireturn, 1) := by decide +kernel
theorem dL_setLayout_23 : decode cL_setLayout 23 = .ok (.iconst 0, 1) := by decide +kernel
theorem dL_setLayout_24 : decode cL_setLayout 24 = .ok (.ireturn, 1) := by decide +kernel
theorem dL_addItem_0 : decode cL_addItem 0 = .ok (.aload 5, 2) := by decide +kernel
theorem dL_addItem_2 : decode cL_addItem 2 = .ok (.iconst 0, 1) := by decide +kernel
theorem dL_addItem_3 : decode cL_addItem 3 = .ok (.aload_n 0, 1) := by decide +kernel
theorem dL_addItem_4 : decode cL_addItem 4 = .ok (.iload_n 1, 1) := by decide +kernel
theorem dL_addItem_5 : decode cL_addItem 5 = .ok (.iload_n 2, 1) := by decide +kernel
theorem dL_addItem_6 : decode cL_addItem 6 = .ok (.iload_n 3, 1) := by decide +kernel
theorem dL_addItem_7 : decode cL_addItem 7 = .ok (.iload 4, 2) := by decide +kernel
theorem dL_addItem_9 : decode cL_addItem 9 = .ok (.invokevirtual 17, 3) := by decide +kernel
theorem dL_addItem_12 : decode cL_addItem 12 = .ok (.i2l, 1) := by decide +kernel
theorem dL_addItem_13 : decode cL_addItem 13 = .ok (.lastore, 1) := by decide +kernel
theorem dL_addItem_14 : decode cL_addItem 14 = .ok (.goto 15, 3) := by decide +kernel
theorem dL_addItem_17 : decode cL_addItem 17 = .ok (.astore 6, 2) := by decide +kernel
theorem dL_addItem_19 : decode cL_addItem 19 = .ok (.iconst 1, 1) := by decide +kernel
theorem dL_addItem_20 : decode cL_addItem 20 = .ok (.ireturn, 1) := by decide +kernel
theorem dL_addItem_21 : decode cL_addItem 21 = .ok (.astore 6, 2) := by decide +kernel
theorem dL_addItem_23 : decode cL_addItem 23 = .ok (.iconst 2, 1) := by decide +kernel
theorem dL_addItem_24 : decode cL_addItem 24 = .ok (.ireturn, 1) := by decide +kernel
theorem dL_addItem_25 : decode cL_addItem 25 = .ok (.astore 6, 2) := by decide +kernel
theorem dL_addItem_27 : decode cL_addItem 27 = .ok (.iconst 3, 1) := by decide +kernel
theorem dL_addItem_28 : decode cL_addItem 28 = .ok (.ireturn, 1) := by decide +kernel
theorem dL_addItem_29 : decode cL_addItem 29 = .ok (.iconst 0, 1) := by decide +kernel
theorem dL_addItem_30 : decode cL_addItem 30 = .ok (.ireturn, 1) := by decide +kernel
theorem dL_stock_0 : decode cL_stock 0 = .ok (.aload_n 2, 1) := by decide +kernel
theorem dL_stock_1 : decode cL_stock 1 = .ok (.iconst 0, 1) := by decide +kernel
theorem dL_stock_2 : decode cL_stock 2 = .ok (.aload_n 0, 1) := by decide +kernel
theorem dL_stock_3 : decode cL_stock 3 = .ok (.iload_n 1, 1) := by decide +kernel
theorem dL_stock_4 : decode cL_stock 4 = .ok (.invokevirtual 23, 3) := by decide +kernel
theorem dL_stock_7 : decode cL_stock 7 = .ok (.i2l, 1) := by decide +kernel
theorem dL_stock_8 : decode cL_stock 8 = .ok (.lastore, 1) := by decide +kernel
theorem dL_stock_9 : decode cL_stock 9 = .ok (.goto 6, 3) := by decide +kernel
theorem dL_stock_12 : decode cL_stock 12 = .ok (.astore_n 3, 1) := by decide +kernel
theorem dL_stock_13 : decode cL_stock 13 = .ok (.iconst 1, 1) := by decide +kernel
theorem dL_stock_14 : decode cL_stock 14 = .ok (.ireturn, 1) := by decide +kernel
theorem dL_stock_15 : decode cL_stock 15 = .ok (.iconst 0, 1) := by decide +kernel
theorem dL_stock_16 : decode cL_stock 16 = .ok (.ireturn, 1) := by decide +kernel
theorem dL_restock_0 : decode cL_restock 0 = .ok (.aload_n 3, 1) := by decide +kernel
theorem dL_restock_1 : decode cL_restock 1 = .ok (.iconst 0, 1) := by decide +kernel
theorem dL_restock_2 : decode cL_restock 2 = .ok (.aload_n 0, 1) := by decide +kernel
theorem dL_restock_3 : decode cL_restock 3 = .ok (.iload_n 1, 1) := by decide +kernel
theorem dL_restock_4 : decode cL_restock 4 = .ok (.iload_n 2, 1) := by decide +kernel
theorem dL_restock_5 : decode cL_restock 5 = .ok (.invokevirtual 27, 3) := by decide +kernel
theorem dL_restock_8 : decode cL_restock 8 = .ok (.i2l, 1) := by decide +kernel
theorem dL_restock_9 : decode cL_restock 9 = .ok (.lastore, 1) := by decide +kernel
theorem dL_restock_10 : decode cL_restock 10 = .ok (.goto 11, 3) := by decide +kernel
theorem dL_restock_13 : decode cL_restock 13 = .ok (.astore 4, 2) := by decide +kernel
theorem dL_restock_15 : decode cL_restock 15 = .ok (.iconst 1, 1) := by decide +kernel
theorem dL_restock_16 : decode cL_restock 16 = .ok (.ireturn, 1) := by decide +kernel
theorem dL_restock_17 : decode cL_restock 17 = .ok (.astore 4, 2) := by decide +kernel
theorem dL_restock_19 : decode cL_restock 19 = .ok (.iconst 2, 1) := by decide +kernel
theorem dL_restock_20 : decode cL_restock 20 = .ok (.ireturn, 1) := by decide +kernel
theorem dL_restock_21 : decode cL_restock 21 = .ok (.iconst 0, 1) := by decide +kernel
theorem dL_restock_22 : decode cL_restock 22 = .ok (.ireturn, 1) := by decide +kernel
theorem dL_addOrder_0 : decode cL_addOrder 0 = .ok (.aload_n 2, 1) := by decide +kernel
theorem dL_addOrder_1 : decode cL_addOrder 1 = .ok (.iconst 0, 1) := by decide +kernel
theorem dL_addOrder_2 : decode cL_addOrder 2 = .ok (.aload_n 0, 1) := by decide +kernel
theorem dL_addOrder_3 : decode cL_addOrder 3 = .ok (.iload_n 1, 1) := by decide +kernel
theorem dL_addOrder_4 : decode cL_addOrder 4 = .ok (.invokevirtual 31, 3) := by decide +kernel
theorem dL_addOrder_7 : decode cL_addOrder 7 = .ok (.i2l, 1) := by decide +kernel
theorem dL_addOrder_8 : decode cL_addOrder 8 = .ok (.lastore, 1) := by decide +kernel
theorem dL_addOrder_9 : decode cL_addOrder 9 = .ok (.goto 9, 3) := by decide +kernel
theorem dL_addOrder_12 : decode cL_addOrder 12 = .ok (.astore_n 3, 1) := by decide +kernel
theorem dL_addOrder_13 : decode cL_addOrder 13 = .ok (.iconst 1, 1) := by decide +kernel
theorem dL_addOrder_14 : decode cL_addOrder 14 = .ok (.ireturn, 1) := by decide +kernel
theorem dL_addOrder_15 : decode cL_addOrder 15 = .ok (.astore_n 3, 1) := by decide +kernel
theorem dL_addOrder_16 : decode cL_addOrder 16 = .ok (.iconst 2, 1) := by decide +kernel
theorem dL_addOrder_17 : decode cL_addOrder 17 = .ok (.ireturn, 1) := by decide +kernel
theorem dL_addOrder_18 : decode cL_addOrder 18 = .ok (.iconst 0, 1) := by decide +kernel
theorem dL_addOrder_19 : decode cL_addOrder 19 = .ok (.ireturn, 1) := by decide +kernel
theorem dL_addLine_0 : decode cL_addLine 0 = .ok (.aload 4, 2) := by decide +kernel
theorem dL_addLine_2 : decode cL_addLine 2 = .ok (.iconst 0, 1) := by decide +kernel
theorem dL_addLine_3 : decode cL_addLine 3 = .ok (.aload_n 0, 1) := by decide +kernel
theorem dL_addLine_4 : decode cL_addLine 4 = .ok (.iload_n 1, 1) := by decide +kernel
theorem dL_addLine_5 : decode cL_addLine 5 = .ok (.iload_n 2, 1) := by decide +kernel
theorem dL_addLine_6 : decode cL_addLine 6 = .ok (.iload_n 3, 1) := by decide +kernel
theorem dL_addLine_7 : decode cL_addLine 7 = .ok (.invokevirtual 34, 3) := by decide +kernel
theorem dL_addLine_10 : decode cL_addLine 10 = .ok (.i2l, 1) := by decide +kernel
theorem dL_addLine_11 : decode cL_addLine 11 = .ok (.lastore, 1) := by decide +kernel
theorem dL_addLine_12 : decode cL_addLine 12 = .ok (.goto 15, 3) := by decide +kernel
theorem dL_addLine_15 : decode cL_addLine 15 = .ok (.astore 5, 2) := by decide +kernel
theorem dL_addLine_17 : decode cL_addLine 17 = .ok (.iconst 1, 1) := by decide +kernel
theorem dL_addLine_18 : decode cL_addLine 18 = .ok (.ireturn, 1) := by decide +kernel
theorem dL_addLine_19 : decode cL_addLine 19 = .ok (.astore 5, 2) := by decide +kernel
theorem dL_addLine_21 : decode cL_addLine 21 = .ok (.iconst 2, 1) := by decide +kernel
theorem dL_addLine_22 : decode cL_addLine 22 = .ok (.ireturn, 1) := by decide +kernel
theorem dL_addLine_23 : decode cL_addLine 23 = .ok (.astore 5, 2) := by decide +kernel
theorem dL_addLine_25 : decode cL_addLine 25 = .ok (.iconst 3, 1) := by decide +kernel
theorem dL_addLine_26 : decode cL_addLine 26 = .ok (.ireturn, 1) := by decide +kernel
theorem dL_addLine_27 : decode cL_addLine 27 = .ok (.iconst 0, 1) := by decide +kernel
theorem dL_addLine_28 : decode cL_addLine 28 = .ok (.ireturn, 1) := by decide +kernel
theorem dL_orderState_0 : decode cL_orderState 0 = .ok (.aload_n 2, 1) := by decide +kernel
theorem dL_orderState_1 : decode cL_orderState 1 = .ok (.iconst 0, 1) := by decide +kernel
theorem dL_orderState_2 : decode cL_orderState 2 = .ok (.aload_n 0, 1) := by decide +kernel
theorem dL_orderState_3 : decode cL_orderState 3 = .ok (.iload_n 1, 1) := by decide +kernel
theorem dL_orderState_4 : decode cL_orderState 4 = .ok (.invokevirtual 37, 3) := by decide +kernel
theorem dL_orderState_7 : decode cL_orderState 7 = .ok (.i2l, 1) := by decide +kernel
theorem dL_orderState_8 : decode cL_orderState 8 = .ok (.lastore, 1) := by decide +kernel
theorem dL_orderState_9 : decode cL_orderState 9 = .ok (.goto 6, 3) := by decide +kernel
theorem dL_orderState_12 : decode cL_orderState 12 = .ok (.astore_n 3, 1) := by decide +kernel
theorem dL_orderState_13 : decode cL_orderState 13 = .ok (.iconst 1, 1) := by decide +kernel
theorem dL_orderState_14 : decode cL_orderState 14 = .ok (.ireturn, 1) := by decide +kernel
theorem dL_orderState_15 : decode cL_orderState 15 = .ok (.iconst 0, 1) := by decide +kernel
theorem dL_orderState_16 : decode cL_orderState 16 = .ok (.ireturn, 1) := by decide +kernel
theorem dL_lineCount_0 : decode cL_lineCount 0 = .ok (.aload_n 2, 1) := by decide +kernel
theorem dL_lineCount_1 : decode cL_lineCount 1 = .ok (.iconst 0, 1) := by decide +kernel
theorem dL_lineCount_2 : decode cL_lineCount 2 = .ok (.aload_n 0, 1) := by decide +kernel
theorem dL_lineCount_3 : decode cL_lineCount 3 = .ok (.iload_n 1, 1) := by decide +kernel
theorem dL_lineCount_4 : decode cL_lineCount 4 = .ok (.invokevirtual 40, 3) := by decide +kernel
theorem dL_lineCount_7 : decode cL_lineCount 7 = .ok (.i2l, 1) := by decide +kernel
theorem dL_lineCount_8 : decode cL_lineCount 8 = .ok (.lastore, 1) := by decide +kernel
theorem dL_lineCount_9 : decode cL_lineCount 9 = .ok (.goto 6, 3) := by decide +kernel
theorem dL_lineCount_12 : decode cL_lineCount 12 = .ok (.astore_n 3, 1) := by decide +kernel
theorem dL_lineCount_13 : decode cL_lineCount 13 = .ok (.iconst 1, 1) := by decide +kernel
theorem dL_lineCount_14 : decode cL_lineCount 14 = .ok (.ireturn, 1) := by decide +kernel
theorem dL_lineCount_15 : decode cL_lineCount 15 = .ok (.iconst 0, 1) := by decide +kernel
theorem dL_lineCount_16 : decode cL_lineCount 16 = .ok (.ireturn, 1) := by decide +kernel
theorem dL_due_0 : decode cL_due 0 = .ok (.aload_n 2, 1) := by decide +kernel
theorem dL_due_1 : decode cL_due 1 = .ok (.iconst 0, 1) := by decide +kernel
theorem dL_due_2 : decode cL_due 2 = .ok (.aload_n 0, 1) := by decide +kernel
theorem dL_due_3 : decode cL_due 3 = .ok (.iload_n 1, 1) := by decide +kernel
theorem dL_due_4 : decode cL_due 4 = .ok (.invokevirtual 43, 3) := by decide +kernel
theorem dL_due_7 : decode cL_due 7 = .ok (.i2l, 1) := by decide +kernel
theorem dL_due_8 : decode cL_due 8 = .ok (.lastore, 1) := by decide +kernel
theorem dL_due_9 : decode cL_due 9 = .ok (.goto 6, 3) := by decide +kernel
theorem dL_due_12 : decode cL_due 12 = .ok (.astore_n 3, 1) := by decide +kernel
theorem dL_due_13 : decode cL_due 13 = .ok (.iconst 1, 1) := by decide +kernel
theorem dL_due_14 : decode cL_due 14 = .ok (.ireturn, 1) := by decide +kernel
theorem dL_due_15 : decode cL_due 15 = .ok (.iconst 0, 1) := by decide +kernel
theorem dL_due_16 : decode cL_due 16 = .ok (.ireturn, 1) := by decide +kernel
theorem dL_setDue_0 : decode cL_setDue 0 = .ok (.aload_n 3, 1) := by decide +kernel
theorem dL_setDue_1 : decode cL_setDue 1 = .ok (.iconst 0, 1) := by decide +kernel
theorem dL_setDue_2 : decode cL_setDue 2 = .ok (.aload_n 0, 1) := by decide +kernel
theorem dL_setDue_3 : decode cL_setDue 3 = .ok (.iload_n 1, 1) := by decide +kernel
theorem dL_setDue_4 : decode cL_setDue 4 = .ok (.iload_n 2, 1) := by decide +kernel
theorem dL_setDue_5 : decode cL_setDue 5 = .ok (.invokevirtual 46, 3) := by decide +kernel
theorem dL_setDue_8 : decode cL_setDue 8 = .ok (.i2l, 1) := by decide +kernel
theorem dL_setDue_9 : decode cL_setDue 9 = .ok (.lastore, 1) := by decide +kernel
theorem dL_setDue_10 : decode cL_setDue 10 = .ok (.goto 15, 3) := by decide +kernel
theorem dL_setDue_13 : decode cL_setDue 13 = .ok (.astore 4, 2) := by decide +kernel
theorem dL_setDue_15 : decode cL_setDue 15 = .ok (.iconst 1, 1) := by decide +kernel
theorem dL_setDue_16 : decode cL_setDue 16 = .ok (.ireturn, 1) := by decide +kernel
theorem dL_setDue_17 : decode cL_setDue 17 = .ok (.astore 4, 2) := by decide +kernel
theorem dL_setDue_19 : decode cL_setDue 19 = .ok (.iconst 2, 1) := by decide +kernel
theorem dL_setDue_20 : decode cL_setDue 20 = .ok (.ireturn, 1) := by decide +kernel
theorem dL_setDue_21 : decode cL_setDue 21 = .ok (.astore 4, 2) := by decide +kernel
theorem dL_setDue_23 : decode cL_setDue 23 = .ok (.iconst 3, 1) := by decide +kernel
theorem dL_setDue_24 : decode cL_setDue 24 = .ok (.ireturn, 1) := by decide +kernel
theorem dL_setDue_25 : decode cL_setDue 25 = .ok (.iconst 0, 1) := by decide +kernel
theorem dL_setDue_26 : decode cL_setDue 26 = .ok (.ireturn, 1) := by decide +kernel
theorem dL_orderWeight_0 : decode cL_orderWeight 0 = .ok (.aload_n 2, 1) := by decide +kernel
theorem dL_orderWeight_1 : decode cL_orderWeight 1 = .ok (.iconst 0, 1) := by decide +kernel
theorem dL_orderWeight_2 : decode cL_orderWeight 2 = .ok (.aload_n 0, 1) := by decide +kernel
theorem dL_orderWeight_3 : decode cL_orderWeight 3 = .ok (.iload_n 1, 1) := by decide +kernel
theorem dL_orderWeight_4 : decode cL_orderWeight 4 = .ok (.invokevirtual 49, 3) := by decide +kernel
theorem dL_orderWeight_7 : decode cL_orderWeight 7 = .ok (.i2l, 1) := by decide +kernel
theorem dL_orderWeight_8 : decode cL_orderWeight 8 = .ok (.lastore, 1) := by decide +kernel
theorem dL_orderWeight_9 : decode cL_orderWeight 9 = .ok (.goto 6, 3) := by decide +kernel
theorem dL_orderWeight_12 : decode cL_orderWeight 12 = .ok (.astore_n 3, 1) := by decide +kernel
theorem dL_orderWeight_13 : decode cL_orderWeight 13 = .ok (.iconst 1, 1) := by decide +kernel
theorem dL_orderWeight_14 : decode cL_orderWeight 14 = .ok (.ireturn, 1) := by decide +kernel
theorem dL_orderWeight_15 : decode cL_orderWeight 15 = .ok (.iconst 0, 1) := by decide +kernel
theorem dL_orderWeight_16 : decode cL_orderWeight 16 = .ok (.ireturn, 1) := by decide +kernel
theorem dL_orderAisles_0 : decode cL_orderAisles 0 = .ok (.aload_n 2, 1) := by decide +kernel
theorem dL_orderAisles_1 : decode cL_orderAisles 1 = .ok (.iconst 0, 1) := by decide +kernel
theorem dL_orderAisles_2 : decode cL_orderAisles 2 = .ok (.aload_n 0, 1) := by decide +kernel
theorem dL_orderAisles_3 : decode cL_orderAisles 3 = .ok (.iload_n 1, 1) := by decide +kernel
theorem dL_orderAisles_4 : decode cL_orderAisles 4 = .ok (.invokevirtual 52, 3) := by decide +kernel
theorem dL_orderAisles_7 : decode cL_orderAisles 7 = .ok (.i2l, 1) := by decide +kernel
theorem dL_orderAisles_8 : decode cL_orderAisles 8 = .ok (.lastore, 1) := by decide +kernel
theorem dL_orderAisles_9 : decode cL_orderAisles 9 = .ok (.goto 6, 3) := by decide +kernel
theorem dL_orderAisles_12 : decode cL_orderAisles 12 = .ok (.astore_n 3, 1) := by decide +kernel
theorem dL_orderAisles_13 : decode cL_orderAisles 13 = .ok (.iconst 1, 1) := by decide +kernel
theorem dL_orderAisles_14 : decode cL_orderAisles 14 = .ok (.ireturn, 1) := by decide +kernel
theorem dL_orderAisles_15 : decode cL_orderAisles 15 = .ok (.iconst 0, 1) := by decide +kernel
theorem dL_orderAisles_16 : decode cL_orderAisles 16 = .ok (.ireturn, 1) := by decide +kernel
theorem dL_cancel_0 : decode cL_cancel 0 = .ok (.aload_n 2, 1) := by decide +kernel
theorem dL_cancel_1 : decode cL_cancel 1 = .ok (.iconst 0, 1) := by decide +kernel
theorem dL_cancel_2 : decode cL_cancel 2 = .ok (.aload_n 0, 1) := by decide +kernel
theorem dL_cancel_3 : decode cL_cancel 3 = .ok (.iload_n 1, 1) := by decide +kernel
theorem dL_cancel_4 : decode cL_cancel 4 = .ok (.invokevirtual 55, 3) := by decide +kernel
theorem dL_cancel_7 : decode cL_cancel 7 = .ok (.i2l, 1) := by decide +kernel
theorem dL_cancel_8 : decode cL_cancel 8 = .ok (.lastore, 1) := by decide +kernel
theorem dL_cancel_9 : decode cL_cancel 9 = .ok (.goto 9, 3) := by decide +kernel
theorem dL_cancel_12 : decode cL_cancel 12 = .ok (.astore_n 3, 1) := by decide +kernel
theorem dL_cancel_13 : decode cL_cancel 13 = .ok (.iconst 1, 1) := by decide +kernel
theorem dL_cancel_14 : decode cL_cancel 14 = .ok (.ireturn, 1) := by decide +kernel
theorem dL_cancel_15 : decode cL_cancel 15 = .ok (.astore_n 3, 1) := by decide +kernel
theorem dL_cancel_16 : decode cL_cancel 16 = .ok (.iconst 2, 1) := by decide +kernel
theorem dL_cancel_17 : decode cL_cancel 17 = .ok (.ireturn, 1) := by decide +kernel
theorem dL_cancel_18 : decode cL_cancel 18 = .ok (.iconst 0, 1) := by decide +kernel
theorem dL_cancel_19 : decode cL_cancel 19 = .ok (.ireturn, 1) := by decide +kernel
theorem dL_makeBatches_0 : decode cL_makeBatches 0 = .ok (.aload 4, 2) := by decide +kernel
theorem dL_makeBatches_2 : decode cL_makeBatches 2 = .ok (.iconst 0, 1) := by decide +kernel
theorem dL_makeBatches_3 : decode cL_makeBatches 3 = .ok (.aload_n 0, 1) := by decide +kernel
theorem dL_makeBatches_4 : decode cL_makeBatches 4 = .ok (.iload_n 1, 1) := by decide +kernel
theorem dL_makeBatches_5 : decode cL_makeBatches 5 = .ok (.iload_n 2, 1) := by decide +kernel
theorem dL_makeBatches_6 : decode cL_makeBatches 6 = .ok (.iload_n 3, 1) := by decide +kernel
theorem dL_makeBatches_7 : decode cL_makeBatches 7 = .ok (.invokevirtual 58, 3) := by decide +kernel
theorem dL_makeBatches_10 : decode cL_makeBatches 10 = .ok (.i2l, 1) := by decide +kernel
theorem dL_makeBatches_11 : decode cL_makeBatches 11 = .ok (.lastore, 1) := by decide +kernel
theorem dL_makeBatches_12 : decode cL_makeBatches 12 = .ok (.goto 7, 3) := by decide +kernel
theorem dL_makeBatches_15 : decode cL_makeBatches 15 = .ok (.astore 5, 2) := by decide +kernel
theorem dL_makeBatches_17 : decode cL_makeBatches 17 = .ok (.iconst 1, 1) := by decide +kernel
theorem dL_makeBatches_18 : decode cL_makeBatches 18 = .ok (.ireturn, 1) := by decide +kernel
theorem dL_makeBatches_19 : decode cL_makeBatches 19 = .ok (.iconst 0, 1) := by decide +kernel
theorem dL_makeBatches_20 : decode cL_makeBatches 20 = .ok (.ireturn, 1) := by decide +kernel
theorem dL_addBatch_0 : decode cL_addBatch 0 = .ok (.aload_n 2, 1) := by decide +kernel
theorem dL_addBatch_1 : decode cL_addBatch 1 = .ok (.iconst 0, 1) := by decide +kernel
theorem dL_addBatch_2 : decode cL_addBatch 2 = .ok (.aload_n 0, 1) := by decide +kernel
theorem dL_addBatch_3 : decode cL_addBatch 3 = .ok (.iload_n 1, 1) := by decide +kernel
theorem dL_addBatch_4 : decode cL_addBatch 4 = .ok (.invokevirtual 61, 3) := by decide +kernel
theorem dL_addBatch_7 : decode cL_addBatch 7 = .ok (.i2l, 1) := by decide +kernel
theorem dL_addBatch_8 : decode cL_addBatch 8 = .ok (.lastore, 1) := by decide +kernel
theorem dL_addBatch_9 : decode cL_addBatch 9 = .ok (.goto 9, 3) := by decide +kernel
theorem dL_addBatch_12 : decode cL_addBatch 12 = .ok (.astore_n 3, 1) := by decide +kernel
theorem dL_addBatch_13 : decode cL_addBatch 13 = .ok (.iconst 1, 1) := by decide +kernel
theorem dL_addBatch_14 : decode cL_addBatch 14 = .ok (.ireturn, 1) := by decide +kernel
theorem dL_addBatch_15 : decode cL_addBatch 15 = .ok (.astore_n 3, 1) := by decide +kernel
theorem dL_addBatch_16 : decode cL_addBatch 16 = .ok (.iconst 2, 1) := by decide +kernel
theorem dL_addBatch_17 : decode cL_addBatch 17 = .ok (.ireturn, 1) := by decide +kernel
theorem dL_addBatch_18 : decode cL_addBatch 18 = .ok (.iconst 0, 1) := by decide +kernel
theorem dL_addBatch_19 : decode cL_addBatch 19 = .ok (.ireturn, 1) := by decide +kernel
theorem dL_dissolve_0 : decode cL_dissolve 0 = .ok (.aload_n 2, 1) := by decide +kernel
theorem dL_dissolve_1 : decode cL_dissolve 1 = .ok (.iconst 0, 1) := by decide +kernel
theorem dL_dissolve_2 : decode cL_dissolve 2 = .ok (.aload_n 0, 1) := by decide +kernel
theorem dL_dissolve_3 : decode cL_dissolve 3 = .ok (.iload_n 1, 1) := by decide +kernel
theorem dL_dissolve_4 : decode cL_dissolve 4 = .ok (.invokevirtual 64, 3) := by decide +kernel
theorem dL_dissolve_7 : decode cL_dissolve 7 = .ok (.i2l, 1) := by decide +kernel
theorem dL_dissolve_8 : decode cL_dissolve 8 = .ok (.lastore, 1) := by decide +kernel
theorem dL_dissolve_9 : decode cL_dissolve 9 = .ok (.goto 6, 3) := by decide +kernel
theorem dL_dissolve_12 : decode cL_dissolve 12 = .ok (.astore_n 3, 1) := by decide +kernel
theorem dL_dissolve_13 : decode cL_dissolve 13 = .ok (.iconst 1, 1) := by decide +kernel
theorem dL_dissolve_14 : decode cL_dissolve 14 = .ok (.ireturn, 1) := by decide +kernel
theorem dL_dissolve_15 : decode cL_dissolve 15 = .ok (.iconst 0, 1) := by decide +kernel
theorem dL_dissolve_16 : decode cL_dissolve 16 = .ok (.ireturn, 1) := by decide +kernel
theorem dL_batchOrders_0 : decode cL_batchOrders 0 = .ok (.aload_n 2, 1) := by decide +kernel
theorem dL_batchOrders_1 : decode cL_batchOrders 1 = .ok (.iconst 0, 1) := by decide +kernel
theorem dL_batchOrders_2 : decode cL_batchOrders 2 = .ok (.aload_n 0, 1) := by decide +kernel
theorem dL_batchOrders_3 : decode cL_batchOrders 3 = .ok (.iload_n 1, 1) := by decide +kernel
theorem dL_batchOrders_4 : decode cL_batchOrders 4 = .ok (.invokevirtual 67, 3) := by decide +kernel
theorem dL_batchOrders_7 : decode cL_batchOrders 7 = .ok (.i2l, 1) := by decide +kernel
theorem dL_batchOrders_8 : decode cL_batchOrders 8 = .ok (.lastore, 1) := by decide +kernel
theorem dL_batchOrders_9 : decode cL_batchOrders 9 = .ok (.goto 6, 3) := by decide +kernel
theorem dL_batchOrders_12 : decode cL_batchOrders 12 = .ok (.astore_n 3, 1) := by decide +kernel
theorem dL_batchOrders_13 : decode cL_batchOrders 13 = .ok (.iconst 1, 1) := by decide +kernel
theorem dL_batchOrders_14 : decode cL_batchOrders 14 = .ok (.ireturn, 1) := by decide +kernel
theorem dL_batchOrders_15 : decode cL_batchOrders 15 = .ok (.iconst 0, 1) := by decide +kernel
theorem dL_batchOrders_16 : decode cL_batchOrders 16 = .ok (.ireturn, 1) := by decide +kernel
theorem dL_batchWeight_0 : decode cL_batchWeight 0 = .ok (.aload_n 2, 1) := by decide +kernel
theorem dL_batchWeight_1 : decode cL_batchWeight 1 = .ok (.iconst 0, 1) := by decide +kernel
theorem dL_batchWeight_2 : decode cL_batchWeight 2 = .ok (.aload_n 0, 1) := by decide +kernel
theorem dL_batchWeight_3 : decode cL_batchWeight 3 = .ok (.iload_n 1, 1) := by decide +kernel
theorem dL_batchWeight_4 : decode cL_batchWeight 4 = .ok (.invokevirtual 70, 3) := by decide +kernel
theorem dL_batchWeight_7 : decode cL_batchWeight 7 = .ok (.i2l, 1) := by decide +kernel
theorem dL_batchWeight_8 : decode cL_batchWeight 8 = .ok (.lastore, 1) := by decide +kernel
theorem dL_batchWeight_9 : decode cL_batchWeight 9 = .ok (.goto 6, 3) := by decide +kernel
theorem dL_batchWeight_12 : decode cL_batchWeight 12 = .ok (.astore_n 3, 1) := by decide +kernel
theorem dL_batchWeight_13 : decode cL_batchWeight 13 = .ok (.iconst 1, 1) := by decide +kernel
theorem dL_batchWeight_14 : decode cL_batchWeight 14 = .ok (.ireturn, 1) := by decide +kernel
theorem dL_batchWeight_15 : decode cL_batchWeight 15 = .ok (.iconst 0, 1) := by decide +kernel
theorem dL_batchWeight_16 : decode cL_batchWeight 16 = .ok (.ireturn, 1) := by decide +kernel
theorem dL_improve_0 : decode cL_improve 0 = .ok (.aload_n 3, 1) := by decide +kernel
theorem dL_improve_1 : decode cL_improve 1 = .ok (.iconst 0, 1) := by decide +kernel
theorem dL_improve_2 : decode cL_improve 2 = .ok (.aload_n 0, 1) := by decide +kernel
theorem dL_improve_3 : decode cL_improve 3 = .ok (.iload_n 1, 1) := by decide +kernel
theorem dL_improve_4 : decode cL_improve 4 = .ok (.iload_n 2, 1) := by decide +kernel
theorem dL_improve_5 : decode cL_improve 5 = .ok (.invokevirtual 73, 3) := by decide +kernel
theorem dL_improve_8 : decode cL_improve 8 = .ok (.i2l, 1) := by decide +kernel
theorem dL_improve_9 : decode cL_improve 9 = .ok (.lastore, 1) := by decide +kernel
theorem dL_improve_10 : decode cL_improve 10 = .ok (.goto 7, 3) := by decide +kernel
theorem dL_improve_13 : decode cL_improve 13 = .ok (.astore 4, 2) := by decide +kernel
theorem dL_improve_15 : decode cL_improve 15 = .ok (.iconst 1, 1) := by decide +kernel
theorem dL_improve_16 : decode cL_improve 16 = .ok (.ireturn, 1) := by decide +kernel
theorem dL_improve_17 : decode cL_improve 17 = .ok (.iconst 0, 1) := by decide +kernel
theorem dL_improve_18 : decode cL_improve 18 = .ok (.ireturn, 1) := by decide +kernel
theorem dL_sortBatches_0 : decode cL_sortBatches 0 = .ok (.aload_n 2, 1) := by decide +kernel
theorem dL_sortBatches_1 : decode cL_sortBatches 1 = .ok (.iconst 0, 1) := by decide +kernel
theorem dL_sortBatches_2 : decode cL_sortBatches 2 = .ok (.aload_n 0, 1) := by decide +kernel
theorem dL_sortBatches_3 : decode cL_sortBatches 3 = .ok (.iload_n 1, 1) := by decide +kernel
theorem dL_sortBatches_4 : decode cL_sortBatches 4 = .ok (.invokevirtual 76, 3) := by decide +kernel
theorem dL_sortBatches_7 : decode cL_sortBatches 7 = .ok (.i2l, 1) := by decide +kernel
theorem dL_sortBatches_8 : decode cL_sortBatches 8 = .ok (.lastore, 1) := by decide +kernel
theorem dL_sortBatches_9 : decode cL_sortBatches 9 = .ok (.goto 9, 3) := by decide +kernel
theorem dL_sortBatches_12 : decode cL_sortBatches 12 = .ok (.astore_n 3, 1) := by decide +kernel
theorem dL_sortBatches_13 : decode cL_sortBatches 13 = .ok (.iconst 1, 1) := by decide +kernel
theorem dL_sortBatches_14 : decode cL_sortBatches 14 = .ok (.ireturn, 1) := by decide +kernel
theorem dL_sortBatches_15 : decode cL_sortBatches 15 = .ok (.astore_n 3, 1) := by decide +kernel
theorem dL_sortBatches_16 : decode cL_sortBatches 16 = .ok (.iconst 2, 1) := by decide +kernel
theorem dL_sortBatches_17 : decode cL_sortBatches 17 = .ok (.ireturn, 1) := by decide +kernel
theorem dL_sortBatches_18 : decode cL_sortBatches 18 = .ok (.iconst 0, 1) := by decide +kernel
theorem dL_sortBatches_19 : decode cL_sortBatches 19 = .ok (.ireturn, 1) := by decide +kernel
theorem dL_setPolicy_0 : decode cL_setPolicy 0 = .ok (.aload_n 2, 1) := by decide +kernel
theorem dL_setPolicy_1 : decode cL_setPolicy 1 = .ok (.iconst 0, 1) := by decide +kernel
theorem dL_setPolicy_2 : decode cL_setPolicy 2 = .ok (.aload_n 0, 1) := by decide +kernel
theorem dL_setPolicy_3 : decode cL_setPolicy 3 = .ok (.iload_n 1, 1) := by decide +kernel
theorem dL_setPolicy_4 : decode cL_setPolicy 4 = .ok (.invokevirtual 79, 3) := by decide +kernel
theorem dL_setPolicy_7 : decode cL_setPolicy 7 = .ok (.i2l, 1) := by decide +kernel
theorem dL_setPolicy_8 : decode cL_setPolicy 8 = .ok (.lastore, 1) := by decide +kernel
theorem dL_setPolicy_9 : decode cL_setPolicy 9 = .ok (.goto 6, 3) := by decide +kernel
theorem dL_setPolicy_12 : decode cL_setPolicy 12 = .ok (.astore_n 3, 1) := by decide +kernel
theorem dL_setPolicy_13 : decode cL_setPolicy 13 = .ok (.iconst 1, 1) := by decide +kernel
theorem dL_setPolicy_14 : decode cL_setPolicy 14 = .ok (.ireturn, 1) := by decide +kernel
theorem dL_setPolicy_15 : decode cL_setPolicy 15 = .ok (.iconst 0, 1) := by decide +kernel
theorem dL_setPolicy_16 : decode cL_setPolicy 16 = .ok (.ireturn, 1) := by decide +kernel
theorem dL_setZones_0 : decode cL_setZones 0 = .ok (.aload_n 3, 1) := by decide +kernel
theorem dL_setZones_1 : decode cL_setZones 1 = .ok (.iconst 0, 1) := by decide +kernel
theorem dL_setZones_2 : decode cL_setZones 2 = .ok (.aload_n 0, 1) := by decide +kernel
theorem dL_setZones_3 : decode cL_setZones 3 = .ok (.iload_n 1, 1) := by decide +kernel
theorem dL_setZones_4 : decode cL_setZones 4 = .ok (.iload_n 2, 1) := by decide +kernel
theorem dL_setZones_5 : decode cL_setZones 5 = .ok (.invokevirtual 82, 3) := by decide +kernel
theorem dL_setZones_8 : decode cL_setZones 8 = .ok (.i2l, 1) := by decide +kernel
theorem dL_setZones_9 : decode cL_setZones 9 = .ok (.lastore, 1) := by decide +kernel
theorem dL_setZones_10 : decode cL_setZones 10 = .ok (.goto 7, 3) := by decide +kernel
theorem dL_setZones_13 : decode cL_setZones 13 = .ok (.astore 4, 2) := by decide +kernel
theorem dL_setZones_15 : decode cL_setZones 15 = .ok (.iconst 1, 1) := by decide +kernel
theorem dL_setZones_16 : decode cL_setZones 16 = .ok (.ireturn, 1) := by decide +kernel
theorem dL_setZones_17 : decode cL_setZones 17 = .ok (.iconst 0, 1) := by decide +kernel
theorem dL_setZones_18 : decode cL_setZones 18 = .ok (.ireturn, 1) := by decide +kernel
theorem dL_zoneOf_0 : decode cL_zoneOf 0 = .ok (.aload_n 2, 1) := by decide +kernel
theorem dL_zoneOf_1 : decode cL_zoneOf 1 = .ok (.iconst 0, 1) := by decide +kernel
theorem dL_zoneOf_2 : decode cL_zoneOf 2 = .ok (.aload_n 0, 1) := by decide +kernel
theorem dL_zoneOf_3 : decode cL_zoneOf 3 = .ok (.iload_n 1, 1) := by decide +kernel
theorem dL_zoneOf_4 : decode cL_zoneOf 4 = .ok (.invokevirtual 85, 3) := by decide +kernel
theorem dL_zoneOf_7 : decode cL_zoneOf 7 = .ok (.i2l, 1) := by decide +kernel
theorem dL_zoneOf_8 : decode cL_zoneOf 8 = .ok (.lastore, 1) := by decide +kernel
theorem dL_zoneOf_9 : decode cL_zoneOf 9 = .ok (.goto 6, 3) := by decide +kernel
theorem dL_zoneOf_12 : decode cL_zoneOf 12 = .ok (.astore_n 3, 1) := by decide +kernel
theorem dL_zoneOf_13 : decode cL_zoneOf 13 = .ok (.iconst 1, 1) := by decide +kernel
theorem dL_zoneOf_14 : decode cL_zoneOf 14 = .ok (.ireturn, 1) := by decide +kernel
theorem dL_zoneOf_15 : decode cL_zoneOf 15 = .ok (.iconst 0, 1) := by decide +kernel
theorem dL_zoneOf_16 : decode cL_zoneOf 16 = .ok (.ireturn, 1) := by decide +kernel
theorem dL_setBuffer_0 : decode cL_setBuffer 0 = .ok (.aload_n 3, 1) := by decide +kernel
theorem dL_setBuffer_1 : decode cL_setBuffer 1 = .ok (.iconst 0, 1) := by decide +kernel
theorem dL_setBuffer_2 : decode cL_setBuffer 2 = .ok (.aload_n 0, 1) := by decide +kernel
theorem dL_setBuffer_3 : decode cL_setBuffer 3 = .ok (.iload_n 1, 1) := by decide +kernel
theorem dL_setBuffer_4 : decode cL_setBuffer 4 = .ok (.iload_n 2, 1) := by decide +kernel
theorem dL_setBuffer_5 : decode cL_setBuffer 5 = .ok (.invokevirtual 88, 3) := by decide +kernel
theorem dL_setBuffer_8 : decode cL_setBuffer 8 = .ok (.i2l, 1) := by decide +kernel
theorem dL_setBuffer_9 : decode cL_setBuffer 9 = .ok (.lastore, 1) := by decide +kernel
theorem dL_setBuffer_10 : decode cL_setBuffer 10 = .ok (.goto 11, 3) := by decide +kernel
theorem dL_setBuffer_13 : decode cL_setBuffer 13 = .ok (.astore 4, 2) := by decide +kernel
theorem dL_setBuffer_15 : decode cL_setBuffer 15 = .ok (.iconst 1, 1) := by decide +kernel
theorem dL_setBuffer_16 : decode cL_setBuffer 16 = .ok (.ireturn, 1) := by decide +kernel
theorem dL_setBuffer_17 : decode cL_setBuffer 17 = .ok (.astore 4, 2) := by decide +kernel
theorem dL_setBuffer_19 : decode cL_setBuffer 19 = .ok (.iconst 2, 1) := by decide +kernel
theorem dL_setBuffer_20 : decode cL_setBuffer 20 = .ok (.ireturn, 1) := by decide +kernel
theorem dL_setBuffer_21 : decode cL_setBuffer 21 = .ok (.iconst 0, 1) := by decide +kernel
theorem dL_setBuffer_22 : decode cL_setBuffer 22 = .ok (.ireturn, 1) := by decide +kernel
theorem dL_setTimes_0 : decode cL_setTimes 0 = .ok (.aload_n 3, 1) := by decide +kernel
theorem dL_setTimes_1 : decode cL_setTimes 1 = .ok (.iconst 0, 1) := by decide +kernel
theorem dL_setTimes_2 : decode cL_setTimes 2 = .ok (.aload_n 0, 1) := by decide +kernel
theorem dL_setTimes_3 : decode cL_setTimes 3 = .ok (.iload_n 1, 1) := by decide +kernel
theorem dL_setTimes_4 : decode cL_setTimes 4 = .ok (.iload_n 2, 1) := by decide +kernel
theorem dL_setTimes_5 : decode cL_setTimes 5 = .ok (.invokevirtual 91, 3) := by decide +kernel
theorem dL_setTimes_8 : decode cL_setTimes 8 = .ok (.i2l, 1) := by decide +kernel
theorem dL_setTimes_9 : decode cL_setTimes 9 = .ok (.lastore, 1) := by decide +kernel
theorem dL_setTimes_10 : decode cL_setTimes 10 = .ok (.goto 7, 3) := by decide +kernel
theorem dL_setTimes_13 : decode cL_setTimes 13 = .ok (.astore 4, 2) := by decide +kernel
theorem dL_setTimes_15 : decode cL_setTimes 15 = .ok (.iconst 1, 1) := by decide +kernel
theorem dL_setTimes_16 : decode cL_setTimes 16 = .ok (.ireturn, 1) := by decide +kernel
theorem dL_setTimes_17 : decode cL_setTimes 17 = .ok (.iconst 0, 1) := by decide +kernel
theorem dL_setTimes_18 : decode cL_setTimes 18 = .ok (.ireturn, 1) := by decide +kernel
theorem dL_routeLength_0 : decode cL_routeLength 0 = .ok (.aload 4, 2) := by decide +kernel
theorem dL_routeLength_2 : decode cL_routeLength 2 = .ok (.iconst 0, 1) := by decide +kernel
theorem dL_routeLength_3 : decode cL_routeLength 3 = .ok (.aload_n 0, 1) := by decide +kernel
theorem dL_routeLength_4 : decode cL_routeLength 4 = .ok (.iload_n 1, 1) := by decide +kernel
theorem dL_routeLength_5 : decode cL_routeLength 5 = .ok (.iload_n 2, 1) := by decide +kernel
theorem dL_routeLength_6 : decode cL_routeLength 6 = .ok (.iload_n 3, 1) := by decide +kernel
theorem dL_routeLength_7 : decode cL_routeLength 7 = .ok (.invokevirtual 94, 3) := by decide +kernel
theorem dL_routeLength_10 : decode cL_routeLength 10 = .ok (.i2l, 1) := by decide +kernel
theorem dL_routeLength_11 : decode cL_routeLength 11 = .ok (.lastore, 1) := by decide +kernel
theorem dL_routeLength_12 : decode cL_routeLength 12 = .ok (.goto 11, 3) := by decide +kernel
theorem dL_routeLength_15 : decode cL_routeLength 15 = .ok (.astore 5, 2) := by decide +kernel
theorem dL_routeLength_17 : decode cL_routeLength 17 = .ok (.iconst 1, 1) := by decide +kernel
theorem dL_routeLength_18 : decode cL_routeLength 18 = .ok (.ireturn, 1) := by decide +kernel
theorem dL_routeLength_19 : decode cL_routeLength 19 = .ok (.astore 5, 2) := by decide +kernel
theorem dL_routeLength_21 : decode cL_routeLength 21 = .ok (.iconst 2, 1) := by decide +kernel
theorem dL_routeLength_22 : decode cL_routeLength 22 = .ok (.ireturn, 1) := by decide +kernel
theorem dL_routeLength_23 : decode cL_routeLength 23 = .ok (.iconst 0, 1) := by decide +kernel
theorem dL_routeLength_24 : decode cL_routeLength 24 = .ok (.ireturn, 1) := by decide +kernel
theorem dL_batchRoute_0 : decode cL_batchRoute 0 = .ok (.aload_n 2, 1) := by decide +kernel
theorem dL_batchRoute_1 : decode cL_batchRoute 1 = .ok (.iconst 0, 1) := by decide +kernel
theorem dL_batchRoute_2 : decode cL_batchRoute 2 = .ok (.aload_n 0, 1) := by decide +kernel
theorem dL_batchRoute_3 : decode cL_batchRoute 3 = .ok (.iload_n 1, 1) := by decide +kernel
theorem dL_batchRoute_4 : decode cL_batchRoute 4 = .ok (.invokevirtual 97, 3) := by decide +kernel
theorem dL_batchRoute_7 : decode cL_batchRoute 7 = .ok (.i2l, 1) := by decide +kernel
theorem dL_batchRoute_8 : decode cL_batchRoute 8 = .ok (.lastore, 1) := by decide +kernel
theorem dL_batchRoute_9 : decode cL_batchRoute 9 = .ok (.goto 6, 3) := by decide +kernel
theorem dL_batchRoute_12 : decode cL_batchRoute 12 = .ok (.astore_n 3, 1) := by decide +kernel
theorem dL_batchRoute_13 : decode cL_batchRoute 13 = .ok (.iconst 1, 1) := by decide +kernel
theorem dL_batchRoute_14 : decode cL_batchRoute 14 = .ok (.ireturn, 1) := by decide +kernel
theorem dL_batchRoute_15 : decode cL_batchRoute 15 = .ok (.iconst 0, 1) := by decide +kernel
theorem dL_batchRoute_16 : decode cL_batchRoute 16 = .ok (.ireturn, 1) := by decide +kernel
theorem dL_bestPolicy_0 : decode cL_bestPolicy 0 = .ok (.aload_n 2, 1) := by decide +kernel
theorem dL_bestPolicy_1 : decode cL_bestPolicy 1 = .ok (.iconst 0, 1) := by decide +kernel
theorem dL_bestPolicy_2 : decode cL_bestPolicy 2 = .ok (.aload_n 0, 1) := by decide +kernel
theorem dL_bestPolicy_3 : decode cL_bestPolicy 3 = .ok (.iload_n 1, 1) := by decide +kernel
theorem dL_bestPolicy_4 : decode cL_bestPolicy 4 = .ok (.invokevirtual 100, 3) := by decide +kernel
theorem dL_bestPolicy_7 : decode cL_bestPolicy 7 = .ok (.i2l, 1) := by decide +kernel
theorem dL_bestPolicy_8 : decode cL_bestPolicy 8 = .ok (.lastore, 1) := by decide +kernel
theorem dL_bestPolicy_9 : decode cL_bestPolicy 9 = .ok (.goto 6, 3) := by decide +kernel
theorem dL_bestPolicy_12 : decode cL_bestPolicy 12 = .ok (.astore_n 3, 1) := by decide +kernel
theorem dL_bestPolicy_13 : decode cL_bestPolicy 13 = .ok (.iconst 1, 1) := by decide +kernel
theorem dL_bestPolicy_14 : decode cL_bestPolicy 14 = .ok (.ireturn, 1) := by decide +kernel
theorem dL_bestPolicy_15 : decode cL_bestPolicy 15 = .ok (.iconst 0, 1) := by decide +kernel
theorem dL_bestPolicy_16 : decode cL_bestPolicy 16 = .ok (.ireturn, 1) := by decide +kernel
theorem dL_stopCount_0 : decode cL_stopCount 0 = .ok (.aload_n 3, 1) := by decide +kernel
theorem dL_stopCount_1 : decode cL_stopCount 1 = .ok (.iconst 0, 1) := by decide +kernel
theorem dL_stopCount_2 : decode cL_stopCount 2 = .ok (.aload_n 0, 1) := by decide +kernel
theorem dL_stopCount_3 : decode cL_stopCount 3 = .ok (.iload_n 1, 1) := by decide +kernel
theorem dL_stopCount_4 : decode cL_stopCount 4 = .ok (.iload_n 2, 1) := by decide +kernel
theorem dL_stopCount_5 : decode cL_stopCount 5 = .ok (.invokevirtual 103, 3) := by decide +kernel
theorem dL_stopCount_8 : decode cL_stopCount 8 = .ok (.i2l, 1) := by decide +kernel
theorem dL_stopCount_9 : decode cL_stopCount 9 = .ok (.lastore, 1) := by decide +kernel
theorem dL_stopCount_10 : decode cL_stopCount 10 = .ok (.goto 7, 3) := by decide +kernel
theorem dL_stopCount_13 : decode cL_stopCount 13 = .ok (.astore 4, 2) := by decide +kernel
theorem dL_stopCount_15 : decode cL_stopCount 15 = .ok (.iconst 1, 1) := by decide +kernel
theorem dL_stopCount_16 : decode cL_stopCount 16 = .ok (.ireturn, 1) := by decide +kernel
theorem dL_stopCount_17 : decode cL_stopCount 17 = .ok (.iconst 0, 1) := by decide +kernel
theorem dL_stopCount_18 : decode cL_stopCount 18 = .ok (.ireturn, 1) := by decide +kernel
theorem dL_stopItem_0 : decode cL_stopItem 0 = .ok (.aload 4, 2) := by decide +kernel
theorem dL_stopItem_2 : decode cL_stopItem 2 = .ok (.iconst 0, 1) := by decide +kernel
theorem dL_stopItem_3 : decode cL_stopItem 3 = .ok (.aload_n 0, 1) := by decide +kernel
theorem dL_stopItem_4 : decode cL_stopItem 4 = .ok (.iload_n 1, 1) := by decide +kernel
theorem dL_stopItem_5 : decode cL_stopItem 5 = .ok (.iload_n 2, 1) := by decide +kernel
theorem dL_stopItem_6 : decode cL_stopItem 6 = .ok (.iload_n 3, 1) := by decide +kernel
theorem dL_stopItem_7 : decode cL_stopItem 7 = .ok (.invokevirtual 106, 3) := by decide +kernel
theorem dL_stopItem_10 : decode cL_stopItem 10 = .ok (.i2l, 1) := by decide +kernel
theorem dL_stopItem_11 : decode cL_stopItem 11 = .ok (.lastore, 1) := by decide +kernel
theorem dL_stopItem_12 : decode cL_stopItem 12 = .ok (.goto 7, 3) := by decide +kernel
theorem dL_stopItem_15 : decode cL_stopItem 15 = .ok (.astore 5, 2) := by decide +kernel
theorem dL_stopItem_17 : decode cL_stopItem 17 = .ok (.iconst 1, 1) := by decide +kernel
theorem dL_stopItem_18 : decode cL_stopItem 18 = .ok (.ireturn, 1) := by decide +kernel
theorem dL_stopItem_19 : decode cL_stopItem 19 = .ok (.iconst 0, 1) := by decide +kernel
theorem dL_stopItem_20 : decode cL_stopItem 20 = .ok (.ireturn, 1) := by decide +kernel
theorem dL_workTime_0 : decode cL_workTime 0 = .ok (.aload_n 3, 1) := by decide +kernel
theorem dL_workTime_1 : decode cL_workTime 1 = .ok (.iconst 0, 1) := by decide +kernel
theorem dL_workTime_2 : decode cL_workTime 2 = .ok (.aload_n 0, 1) := by decide +kernel
theorem dL_workTime_3 : decode cL_workTime 3 = .ok (.iload_n 1, 1) := by decide +kernel
theorem dL_workTime_4 : decode cL_workTime 4 = .ok (.iload_n 2, 1) := by decide +kernel
theorem dL_workTime_5 : decode cL_workTime 5 = .ok (.invokevirtual 109, 3) := by decide +kernel
theorem dL_workTime_8 : decode cL_workTime 8 = .ok (.i2l, 1) := by decide +kernel
theorem dL_workTime_9 : decode cL_workTime 9 = .ok (.lastore, 1) := by decide +kernel
theorem dL_workTime_10 : decode cL_workTime 10 = .ok (.goto 7, 3) := by decide +kernel
theorem dL_workTime_13 : decode cL_workTime 13 = .ok (.astore 4, 2) := by decide +kernel
theorem dL_workTime_15 : decode cL_workTime 15 = .ok (.iconst 1, 1) := by decide +kernel
theorem dL_workTime_16 : decode cL_workTime 16 = .ok (.ireturn, 1) := by decide +kernel
theorem dL_workTime_17 : decode cL_workTime 17 = .ok (.iconst 0, 1) := by decide +kernel
theorem dL_workTime_18 : decode cL_workTime 18 = .ok (.ireturn, 1) := by decide +kernel
theorem dL_startTime_0 : decode cL_startTime 0 = .ok (.aload_n 3, 1) := by decide +kernel
theorem dL_startTime_1 : decode cL_startTime 1 = .ok (.iconst 0, 1) := by decide +kernel
theorem dL_startTime_2 : decode cL_startTime 2 = .ok (.aload_n 0, 1) := by decide +kernel
theorem dL_startTime_3 : decode cL_startTime 3 = .ok (.iload_n 1, 1) := by decide +kernel
theorem dL_startTime_4 : decode cL_startTime 4 = .ok (.iload_n 2, 1) := by decide +kernel
theorem dL_startTime_5 : decode cL_startTime 5 = .ok (.invokevirtual 112, 3) := by decide +kernel
theorem dL_startTime_8 : decode cL_startTime 8 = .ok (.i2l, 1) := by decide +kernel
theorem dL_startTime_9 : decode cL_startTime 9 = .ok (.lastore, 1) := by decide +kernel
theorem dL_startTime_10 : decode cL_startTime 10 = .ok (.goto 7, 3) := by decide +kernel
theorem dL_startTime_13 : decode cL_startTime 13 = .ok (.astore 4, 2) := by decide +kernel
theorem dL_startTime_15 : decode cL_startTime 15 = .ok (.iconst 1, 1) := by decide +kernel
theorem dL_startTime_16 : decode cL_startTime 16 = .ok (.ireturn, 1) := by decide +kernel
theorem dL_startTime_17 : decode cL_startTime 17 = .ok (.iconst 0, 1) := by decide +kernel
theorem dL_startTime_18 : decode cL_startTime 18 = .ok (.ireturn, 1) := by decide +kernel
theorem dL_leaveTime_0 : decode cL_leaveTime 0 = .ok (.aload_n 3, 1) := by decide +kernel
theorem dL_leaveTime_1 : decode cL_leaveTime 1 = .ok (.iconst 0, 1) := by decide +kernel
theorem dL_leaveTime_2 : decode cL_leaveTime 2 = .ok (.aload_n 0, 1) := by decide +kernel
theorem dL_leaveTime_3 : decode cL_leaveTime 3 = .ok (.iload_n 1, 1) := by decide +kernel
theorem dL_leaveTime_4 : decode cL_leaveTime 4 = .ok (.iload_n 2, 1) := by decide +kernel
theorem dL_leaveTime_5 : decode cL_leaveTime 5 = .ok (.invokevirtual 115, 3) := by decide +kernel
theorem dL_leaveTime_8 : decode cL_leaveTime 8 = .ok (.i2l, 1) := by decide +kernel
theorem dL_leaveTime_9 : decode cL_leaveTime 9 = .ok (.lastore, 1) := by decide +kernel
theorem dL_leaveTime_10 : decode cL_leaveTime 10 = .ok (.goto 7, 3) := by decide +kernel
theorem dL_leaveTime_13 : decode cL_leaveTime 13 = .ok (.astore 4, 2) := by decide +kernel
theorem dL_leaveTime_15 : decode cL_leaveTime 15 = .ok (.iconst 1, 1) := by decide +kernel
theorem dL_leaveTime_16 : decode cL_leaveTime 16 = .ok (.ireturn, 1) := by decide +kernel
theorem dL_leaveTime_17 : decode cL_leaveTime 17 = .ok (.iconst 0, 1) := by decide +kernel
theorem dL_leaveTime_18 : decode cL_leaveTime 18 = .ok (.ireturn, 1) := by decide +kernel
theorem dL_blockedTime_0 : decode cL_blockedTime 0 = .ok (.aload_n 2, 1) := by decide +kernel
theorem dL_blockedTime_1 : decode cL_blockedTime 1 = .ok (.iconst 0, 1) := by decide +kernel
theorem dL_blockedTime_2 : decode cL_blockedTime 2 = .ok (.aload_n 0, 1) := by decide +kernel
theorem dL_blockedTime_3 : decode cL_blockedTime 3 = .ok (.iload_n 1, 1) := by decide +kernel
theorem dL_blockedTime_4 : decode cL_blockedTime 4 = .ok (.invokevirtual 118, 3) := by decide +kernel
theorem dL_blockedTime_7 : decode cL_blockedTime 7 = .ok (.i2l, 1) := by decide +kernel
theorem dL_blockedTime_8 : decode cL_blockedTime 8 = .ok (.lastore, 1) := by decide +kernel
theorem dL_blockedTime_9 : decode cL_blockedTime 9 = .ok (.goto 6, 3) := by decide +kernel
theorem dL_blockedTime_12 : decode cL_blockedTime 12 = .ok (.astore_n 3, 1) := by decide +kernel
theorem dL_blockedTime_13 : decode cL_blockedTime 13 = .ok (.iconst 1, 1) := by decide +kernel
theorem dL_blockedTime_14 : decode cL_blockedTime 14 = .ok (.ireturn, 1) := by decide +kernel
theorem dL_blockedTime_15 : decode cL_blockedTime 15 = .ok (.iconst 0, 1) := by decide +kernel
theorem dL_blockedTime_16 : decode cL_blockedTime 16 = .ok (.ireturn, 1) := by decide +kernel
theorem dL_lateness_0 : decode cL_lateness 0 = .ok (.aload_n 2, 1) := by decide +kernel
theorem dL_lateness_1 : decode cL_lateness 1 = .ok (.iconst 0, 1) := by decide +kernel
theorem dL_lateness_2 : decode cL_lateness 2 = .ok (.aload_n 0, 1) := by decide +kernel
theorem dL_lateness_3 : decode cL_lateness 3 = .ok (.iload_n 1, 1) := by decide +kernel
theorem dL_lateness_4 : decode cL_lateness 4 = .ok (.invokevirtual 121, 3) := by decide +kernel
theorem dL_lateness_7 : decode cL_lateness 7 = .ok (.i2l, 1) := by decide +kernel
theorem dL_lateness_8 : decode cL_lateness 8 = .ok (.lastore, 1) := by decide +kernel
theorem dL_lateness_9 : decode cL_lateness 9 = .ok (.goto 9, 3) := by decide +kernel
theorem dL_lateness_12 : decode cL_lateness 12 = .ok (.astore_n 3, 1) := by decide +kernel
theorem dL_lateness_13 : decode cL_lateness 13 = .ok (.iconst 1, 1) := by decide +kernel
theorem dL_lateness_14 : decode cL_lateness 14 = .ok (.ireturn, 1) := by decide +kernel
theorem dL_lateness_15 : decode cL_lateness 15 = .ok (.astore_n 3, 1) := by decide +kernel
theorem dL_lateness_16 : decode cL_lateness 16 = .ok (.iconst 2, 1) := by decide +kernel
theorem dL_lateness_17 : decode cL_lateness 17 = .ok (.ireturn, 1) := by decide +kernel
theorem dL_lateness_18 : decode cL_lateness 18 = .ok (.iconst 0, 1) := by decide +kernel
theorem dL_lateness_19 : decode cL_lateness 19 = .ok (.ireturn, 1) := by decide +kernel
theorem dL_pickBatch_0 : decode cL_pickBatch 0 = .ok (.aload_n 1, 1) := by decide +kernel
theorem dL_pickBatch_1 : decode cL_pickBatch 1 = .ok (.iconst 0, 1) := by decide +kernel
theorem dL_pickBatch_2 : decode cL_pickBatch 2 = .ok (.aload_n 0, 1) := by decide +kernel
theorem dL_pickBatch_3 : decode cL_pickBatch 3 = .ok (.invokevirtual 124, 3) := by decide +kernel
theorem dL_pickBatch_6 : decode cL_pickBatch 6 = .ok (.i2l, 1) := by decide +kernel
theorem dL_pickBatch_7 : decode cL_pickBatch 7 = .ok (.lastore, 1) := by decide +kernel
theorem dL_pickBatch_8 : decode cL_pickBatch 8 = .ok (.goto 6, 3) := by decide +kernel
theorem dL_pickBatch_11 : decode cL_pickBatch 11 = .ok (.astore_n 2, 1) := by decide +kernel
theorem dL_pickBatch_12 : decode cL_pickBatch 12 = .ok (.iconst 1, 1) := by decide +kernel
theorem dL_pickBatch_13 : decode cL_pickBatch 13 = .ok (.ireturn, 1) := by decide +kernel
theorem dL_pickBatch_14 : decode cL_pickBatch 14 = .ok (.iconst 0, 1) := by decide +kernel
theorem dL_pickBatch_15 : decode cL_pickBatch 15 = .ok (.ireturn, 1) := by decide +kernel
theorem dL_pickedUnits_0 : decode cL_pickedUnits 0 = .ok (.aload_n 3, 1) := by decide +kernel
theorem dL_pickedUnits_1 : decode cL_pickedUnits 1 = .ok (.iconst 0, 1) := by decide +kernel
theorem dL_pickedUnits_2 : decode cL_pickedUnits 2 = .ok (.aload_n 0, 1) := by decide +kernel
theorem dL_pickedUnits_3 : decode cL_pickedUnits 3 = .ok (.iload_n 1, 1) := by decide +kernel
theorem dL_pickedUnits_4 : decode cL_pickedUnits 4 = .ok (.iload_n 2, 1) := by decide +kernel
theorem dL_pickedUnits_5 : decode cL_pickedUnits 5 = .ok (.invokevirtual 128, 3) := by decide +kernel
theorem dL_pickedUnits_8 : decode cL_pickedUnits 8 = .ok (.i2l, 1) := by decide +kernel
theorem dL_pickedUnits_9 : decode cL_pickedUnits 9 = .ok (.lastore, 1) := by decide +kernel
theorem dL_pickedUnits_10 : decode cL_pickedUnits 10 = .ok (.goto 7, 3) := by decide +kernel
theorem dL_pickedUnits_13 : decode cL_pickedUnits 13 = .ok (.astore 4, 2) := by decide +kernel
theorem dL_pickedUnits_15 : decode cL_pickedUnits 15 = .ok (.iconst 1, 1) := by decide +kernel
theorem dL_pickedUnits_16 : decode cL_pickedUnits 16 = .ok (.ireturn, 1) := by decide +kernel
theorem dL_pickedUnits_17 : decode cL_pickedUnits 17 = .ok (.iconst 0, 1) := by decide +kernel
theorem dL_pickedUnits_18 : decode cL_pickedUnits 18 = .ok (.ireturn, 1) := by decide +kernel
theorem dL_shortUnits_0 : decode cL_shortUnits 0 = .ok (.aload_n 3, 1) := by decide +kernel
theorem dL_shortUnits_1 : decode cL_shortUnits 1 = .ok (.iconst 0, 1) := by decide +kernel
theorem dL_shortUnits_2 : decode cL_shortUnits 2 = .ok (.aload_n 0, 1) := by decide +kernel
theorem dL_shortUnits_3 : decode cL_shortUnits 3 = .ok (.iload_n 1, 1) := by decide +kernel
theorem dL_shortUnits_4 : decode cL_shortUnits 4 = .ok (.iload_n 2, 1) := by decide +kernel
theorem dL_shortUnits_5 : decode cL_shortUnits 5 = .ok (.invokevirtual 131, 3) := by decide +kernel
theorem dL_shortUnits_8 : decode cL_shortUnits 8 = .ok (.i2l, 1) := by decide +kernel
theorem dL_shortUnits_9 : decode cL_shortUnits 9 = .ok (.lastore, 1) := by decide +kernel
theorem dL_shortUnits_10 : decode cL_shortUnits 10 = .ok (.goto 7, 3) := by decide +kernel
theorem dL_shortUnits_13 : decode cL_shortUnits 13 = .ok (.astore 4, 2) := by decide +kernel
theorem dL_shortUnits_15 : decode cL_shortUnits 15 = .ok (.iconst 1, 1) := by decide +kernel
theorem dL_shortUnits_16 : decode cL_shortUnits 16 = .ok (.ireturn, 1) := by decide +kernel
theorem dL_shortUnits_17 : decode cL_shortUnits 17 = .ok (.iconst 0, 1) := by decide +kernel
theorem dL_shortUnits_18 : decode cL_shortUnits 18 = .ok (.ireturn, 1) := by decide +kernel
theorem dL_reorder_0 : decode cL_reorder 0 = .ok (.aload_n 3, 1) := by decide +kernel
theorem dL_reorder_1 : decode cL_reorder 1 = .ok (.iconst 0, 1) := by decide +kernel
theorem dL_reorder_2 : decode cL_reorder 2 = .ok (.aload_n 0, 1) := by decide +kernel
theorem dL_reorder_3 : decode cL_reorder 3 = .ok (.iload_n 1, 1) := by decide +kernel
theorem dL_reorder_4 : decode cL_reorder 4 = .ok (.iload_n 2, 1) := by decide +kernel
theorem dL_reorder_5 : decode cL_reorder 5 = .ok (.invokevirtual 134, 3) := by decide +kernel
theorem dL_reorder_8 : decode cL_reorder 8 = .ok (.i2l, 1) := by decide +kernel
theorem dL_reorder_9 : decode cL_reorder 9 = .ok (.lastore, 1) := by decide +kernel
theorem dL_reorder_10 : decode cL_reorder 10 = .ok (.goto 15, 3) := by decide +kernel
theorem dL_reorder_13 : decode cL_reorder 13 = .ok (.astore 4, 2) := by decide +kernel
theorem dL_reorder_15 : decode cL_reorder 15 = .ok (.iconst 1, 1) := by decide +kernel
theorem dL_reorder_16 : decode cL_reorder 16 = .ok (.ireturn, 1) := by decide +kernel
theorem dL_reorder_17 : decode cL_reorder 17 = .ok (.astore 4, 2) := by decide +kernel
theorem dL_reorder_19 : decode cL_reorder 19 = .ok (.iconst 2, 1) := by decide +kernel
theorem dL_reorder_20 : decode cL_reorder 20 = .ok (.ireturn, 1) := by decide +kernel
theorem dL_reorder_21 : decode cL_reorder 21 = .ok (.astore 4, 2) := by decide +kernel
theorem dL_reorder_23 : decode cL_reorder 23 = .ok (.iconst 3, 1) := by decide +kernel
theorem dL_reorder_24 : decode cL_reorder 24 = .ok (.ireturn, 1) := by decide +kernel
theorem dL_reorder_25 : decode cL_reorder 25 = .ok (.iconst 0, 1) := by decide +kernel
theorem dL_reorder_26 : decode cL_reorder 26 = .ok (.ireturn, 1) := by decide +kernel
theorem dL_appendText_0 : decode cL_appendText 0 = .ok (.aload_n 2, 1) := by decide +kernel
theorem dL_appendText_1 : decode cL_appendText 1 = .ok (.iconst 0, 1) := by decide +kernel
theorem dL_appendText_2 : decode cL_appendText 2 = .ok (.aload_n 0, 1) := by decide +kernel
theorem dL_appendText_3 : decode cL_appendText 3 = .ok (.iload_n 1, 1) := by decide +kernel
theorem dL_appendText_4 : decode cL_appendText 4 = .ok (.invokevirtual 137, 3) := by decide +kernel
theorem dL_appendText_7 : decode cL_appendText 7 = .ok (.i2l, 1) := by decide +kernel
theorem dL_appendText_8 : decode cL_appendText 8 = .ok (.lastore, 1) := by decide +kernel
theorem dL_appendText_9 : decode cL_appendText 9 = .ok (.goto 6, 3) := by decide +kernel
theorem dL_appendText_12 : decode cL_appendText 12 = .ok (.astore_n 3, 1) := by decide +kernel
theorem dL_appendText_13 : decode cL_appendText 13 = .ok (.iconst 1, 1) := by decide +kernel
theorem dL_appendText_14 : decode cL_appendText 14 = .ok (.ireturn, 1) := by decide +kernel
theorem dL_appendText_15 : decode cL_appendText 15 = .ok (.iconst 0, 1) := by decide +kernel
theorem dL_appendText_16 : decode cL_appendText 16 = .ok (.ireturn, 1) := by decide +kernel
theorem dL_truncateText_0 : decode cL_truncateText 0 = .ok (.aload_n 2, 1) := by decide +kernel
theorem dL_truncateText_1 : decode cL_truncateText 1 = .ok (.iconst 0, 1) := by decide +kernel
theorem dL_truncateText_2 : decode cL_truncateText 2 = .ok (.aload_n 0, 1) := by decide +kernel
theorem dL_truncateText_3 : decode cL_truncateText 3 = .ok (.iload_n 1, 1) := by decide +kernel
theorem dL_truncateText_4 : decode cL_truncateText 4 = .ok (.invokevirtual 140, 3) := by decide +kernel
theorem dL_truncateText_7 : decode cL_truncateText 7 = .ok (.i2l, 1) := by decide +kernel
theorem dL_truncateText_8 : decode cL_truncateText 8 = .ok (.lastore, 1) := by decide +kernel
theorem dL_truncateText_9 : decode cL_truncateText 9 = .ok (.goto 6, 3) := by decide +kernel
theorem dL_truncateText_12 : decode cL_truncateText 12 = .ok (.astore_n 3, 1) := by decide +kernel
theorem dL_truncateText_13 : decode cL_truncateText 13 = .ok (.iconst 1, 1) := by decide +kernel
theorem dL_truncateText_14 : decode cL_truncateText 14 = .ok (.ireturn, 1) := by decide +kernel
theorem dL_truncateText_15 : decode cL_truncateText 15 = .ok (.iconst 0, 1) := by decide +kernel
theorem dL_truncateText_16 : decode cL_truncateText 16 = .ok (.ireturn, 1) := by decide +kernel
theorem dL_save_0 : decode cL_save 0 = .ok (.aload_n 0, 1) := by decide +kernel
theorem dL_save_1 : decode cL_save 1 = .ok (.iload_n 1, 1) := by decide +kernel
theorem dL_save_2 : decode cL_save 2 = .ok (.invokevirtual 143, 3) := by decide +kernel
theorem dL_save_5 : decode cL_save 5 = .ok (.goto 6, 3) := by decide +kernel
theorem dL_save_8 : decode cL_save 8 = .ok (.astore_n 2, 1) := by decide +kernel
theorem dL_save_9 : decode cL_save 9 = .ok (.iconst 1, 1) := by decide +kernel
theorem dL_save_10 : decode cL_save 10 = .ok (.ireturn, 1) := by decide +kernel
theorem dL_save_11 : decode cL_save 11 = .ok (.iconst 0, 1) := by decide +kernel
theorem dL_save_12 : decode cL_save 12 = .ok (.ireturn, 1) := by decide +kernel
theorem dL_restore_0 : decode cL_restore 0 = .ok (.aload_n 0, 1) := by decide +kernel
theorem dL_restore_1 : decode cL_restore 1 = .ok (.iload_n 1, 1) := by decide +kernel
theorem dL_restore_2 : decode cL_restore 2 = .ok (.invokevirtual 147, 3) := by decide +kernel
theorem dL_restore_5 : decode cL_restore 5 = .ok (.goto 9, 3) := by decide +kernel
theorem dL_restore_8 : decode cL_restore 8 = .ok (.astore_n 2, 1) := by decide +kernel
theorem dL_restore_9 : decode cL_restore 9 = .ok (.iconst 1, 1) := by decide +kernel
theorem dL_restore_10 : decode cL_restore 10 = .ok (.ireturn, 1) := by decide +kernel
theorem dL_restore_11 : decode cL_restore 11 = .ok (.astore_n 2, 1) := by decide +kernel
theorem dL_restore_12 : decode cL_restore 12 = .ok (.iconst 2, 1) := by decide +kernel
theorem dL_restore_13 : decode cL_restore 13 = .ok (.ireturn, 1) := by decide +kernel
theorem dL_restore_14 : decode cL_restore 14 = .ok (.iconst 0, 1) := by decide +kernel
theorem dL_restore_15 : decode cL_restore 15 = .ok (.ireturn, 1) := by decide +kernel
