theorem dX8_init_0 : decode cX8_init 0 = .ok (.aload_n 0, 1) := by decide +kernel
theorem dX8_init_1 : decode cX8_init 1 = .ok (.invokespecial 1, 3) := by decide +kernel
theorem dX8_init_4 : decode cX8_init 4 = .ok (.aload_n 0, 1) := by decide +kernel
theorem dX8_init_5 : decode cX8_init 5 = .ok (.sipush 720, 3) := by decide +kernel
theorem dX8_init_8 : decode cX8_init 8 = .ok (.newarray .int, 2) := by decide +kernel
theorem dX8_init_10 : decode cX8_init 10 = .ok (.putfield 7, 3) := by decide +kernel
theorem dX8_init_13 : decode cX8_init 13 = .ok (.aload_n 0, 1) := by decide +kernel
theorem dX8_init_14 : decode cX8_init 14 = .ok (.sipush 320, 3) := by decide +kernel
theorem dX8_init_17 : decode cX8_init 17 = .ok (.newarray .int, 2) := by decide +kernel
theorem dX8_init_19 : decode cX8_init 19 = .ok (.putfield 13, 3) := by decide +kernel
theorem dX8_init_22 : decode cX8_init 22 = .ok (.aload_n 0, 1) := by decide +kernel
theorem dX8_init_23 : decode cX8_init 23 = .ok (.bipush 9, 2) := by decide +kernel
theorem dX8_init_25 : decode cX8_init 25 = .ok (.newarray .int, 2) := by decide +kernel
theorem dX8_init_27 : decode cX8_init 27 = .ok (.dup, 1) := by decide +kernel
theorem dX8_init_28 : decode cX8_init 28 = .ok (.iconst 0, 1) := by decide +kernel
theorem dX8_init_29 : decode cX8_init 29 = .ok (.iconst 0, 1) := by decide +kernel
theorem dX8_init_30 : decode cX8_init 30 = .ok (.iastore, 1) := by decide +kernel
theorem dX8_init_31 : decode cX8_init 31 = .ok (.dup, 1) := by decide +kernel
theorem dX8_init_32 : decode cX8_init 32 = .ok (.iconst 1, 1) := by decide +kernel
theorem dX8_init_33 : decode cX8_init 33 = .ok (.iconst 3, 1) := by decide +kernel
theorem dX8_init_34 : decode cX8_init 34 = .ok (.iastore, 1) := by decide +kernel
theorem dX8_init_35 : decode cX8_init 35 = .ok (.dup, 1) := by decide +kernel
theorem dX8_init_36 : decode cX8_init 36 = .ok (.iconst 2, 1) := by decide +kernel
theorem dX8_init_37 : decode cX8_init 37 = .ok (.bipush 6, 2) := by decide +kernel
theorem dX8_init_39 : decode cX8_init 39 = .ok (.iastore, 1) := by decide +kernel
theorem dX8_init_40 : decode cX8_init 40 = .ok (.dup, 1) := by decide +kernel
theorem dX8_init_41 : decode cX8_init 41 = .ok (.iconst 3, 1) := by decide +kernel
theorem dX8_init_42 : decode cX8_init 42 = .ok (.bipush 9, 2) := by decide +kernel
theorem dX8_init_44 : decode cX8_init 44 = .ok (.iastore, 1) := by decide +kernel
theorem dX8_init_45 : decode cX8_init 45 = .ok (.dup, 1) := by decide +kernel
theorem dX8_init_46 : decode cX8_init 46 = .ok (.iconst 4, 1) := by decide +kernel
theorem dX8_init_47 : decode cX8_init 47 = .ok (.bipush 12, 2) := by decide +kernel
theorem dX8_init_49 : decode cX8_init 49 = .ok (.iastore, 1) := by decide +kernel
theorem dX8_init_50 : decode cX8_init 50 = .ok (.dup, 1) := by decide +kernel
theorem dX8_init_51 : decode cX8_init 51 = .ok (.iconst 5, 1) := by decide +kernel
theorem dX8_init_52 : decode cX8_init 52 = .ok (.bipush 16, 2) := by decide +kernel
theorem dX8_init_54 : decode cX8_init 54 = .ok (.iastore, 1) := by decide +kernel
theorem dX8_init_55 : decode cX8_init 55 = .ok (.dup, 1) := by decide +kernel
theorem dX8_init_56 : decode cX8_init 56 = .ok (.bipush 6, 2) := by decide +kernel
theorem dX8_init_58 : decode cX8_init 58 = .ok (.bipush 19, 2) := by decide +kernel
theorem dX8_init_60 : decode cX8_init 60 = .ok (.iastore, 1) := by decide +kernel
theorem dX8_init_61 : decode cX8_init 61 = .ok (.dup, 1) := by decide +kernel
theorem dX8_init_62 : decode cX8_init 62 = .ok (.bipush 7, 2) := by decide +kernel
theorem dX8_init_64 : decode cX8_init 64 = .ok (.bipush 23, 2) := by decide +kernel
theorem dX8_init_66 : decode cX8_init 66 = .ok (.iastore, 1) := by decide +kernel
theorem dX8_init_67 : decode cX8_init 67 = .ok (.dup, 1) := by decide +kernel
theorem dX8_init_68 : decode cX8_init 68 = .ok (.bipush 8, 2) := by decide +kernel
theorem dX8_init_70 : decode cX8_init 70 = .ok (.bipush 27, 2) := by decide +kernel
theorem dX8_init_72 : decode cX8_init 72 = .ok (.iastore, 1) := by decide +kernel
theorem dX8_init_73 : decode cX8_init 73 = .ok (.putfield 16, 3) := by decide +kernel
theorem dX8_init_76 : decode cX8_init 76 = .ok (.aload_n 0, 1) := by decide +kernel
theorem dX8_init_77 : decode cX8_init 77 = .ok (.bipush 27, 2) := by decide +kernel
theorem dX8_init_79 : decode cX8_init 79 = .ok (.newarray .int, 2) := by decide +kernel
theorem dX8_init_81 : decode cX8_init 81 = .ok (.dup, 1) := by decide +kernel
theorem dX8_init_82 : decode cX8_init 82 = .ok (.iconst 0, 1) := by decide +kernel
theorem dX8_init_83 : decode cX8_init 83 = .ok (.bipush 110, 2) := by decide +kernel
theorem dX8_init_85 : decode cX8_init 85 = .ok (.iastore, 1) := by decide +kernel
theorem dX8_init_86 : decode cX8_init 86 = .ok (.dup, 1) := by decide +kernel
theorem dX8_init_87 : decode cX8_init 87 = .ok (.iconst 1, 1) := by decide +kernel
theorem dX8_init_88 : decode cX8_init 88 = .ok (.bipush 117, 2) := by decide +kernel
theorem dX8_init_90 : decode cX8_init 90 = .ok (.iastore, 1) := by decide +kernel
theorem dX8_init_91 : decode cX8_init 91 = .ok (.dup, 1) := by decide +kernel
theorem dX8_init_92 : decode cX8_init 92 = .ok (.iconst 2, 1) := by decide +kernel
theorem dX8_init_93 : decode cX8_init 93 = .ok (.bipush 109, 2) := by decide +kernel
theorem dX8_init_95 : decode cX8_init 95 = .ok (.iastore, 1) := by decide +kernel
theorem dX8_init_96 : decode cX8_init 96 = .ok (.dup, 1) := by decide +kernel
theorem dX8_init_97 : decode cX8_init 97 = .ok (.iconst 3, 1) := by decide +kernel
theorem dX8_init_98 : decode cX8_init 98 = .ok (.bipush 97, 2) := by decide +kernel
theorem dX8_init_100 : decode cX8_init 100 = .ok (.iastore, 1) := by decide +kernel
theorem dX8_init_101 : decode cX8_init 101 = .ok (.dup, 1) := by decide +kernel
theorem dX8_init_102 : decode cX8_init 102 = .ok (.iconst 4, 1) := by decide +kernel
theorem dX8_init_103 : decode cX8_init 103 = .ok (.bipush 100, 2) := by decide +kernel
theorem dX8_init_105 : decode cX8_init 105 = .ok (.iastore, 1) := by decide +kernel
theorem dX8_init_106 : decode cX8_init 106 = .ok (.dup, 1) := by decide +kernel
theorem dX8_init_107 : decode cX8_init 107 = .ok (.iconst 5, 1) := by decide +kernel
theorem dX8_init_108 : decode cX8_init 108 = .ok (.bipush 100, 2) := by decide +kernel
theorem dX8_init_110 : decode cX8_init 110 = .ok (.iastore, 1) := by decide +kernel
theorem dX8_init_111 : decode cX8_init 111 = .ok (.dup, 1) := by decide +kernel
theorem dX8_init_112 : decode cX8_init 112 = .ok (.bipush 6, 2) := by decide +kernel
theorem dX8_init_114 : decode cX8_init 114 = .ok (.bipush 115, 2) := by decide +kernel
theorem dX8_init_116 : decode cX8_init 116 = .ok (.iastore, 1) := by decide +kernel
theorem dX8_init_117 : decode cX8_init 117 = .ok (.dup, 1) := by decide +kernel
theorem dX8_init_118 : decode cX8_init 118 = .ok (.bipush 7, 2) := by decide +kernel
theorem dX8_init_120 : decode cX8_init 120 = .ok (.bipush 117, 2) := by decide +kernel
theorem dX8_init_122 : decode cX8_init 122 = .ok (.iastore, 1) := by decide +kernel
theorem dX8_init_123 : decode cX8_init 123 = .ok (.dup, 1) := by decide +kernel
theorem dX8_init_124 : decode cX8_init 124 = .ok (.bipush 8, 2) := by decide +kernel
theorem dX8_init_126 : decode cX8_init 126 = .ok (.bipush 98, 2) := by decide +kernel
theorem dX8_init_128 : decode cX8_init 128 = .ok (.iastore, 1) := by decide +kernel
theorem dX8_init_129 : decode cX8_init 129 = .ok (.dup, 1) := by decide +kernel
theorem dX8_init_130 : decode cX8_init 130 = .ok (.bipush 9, 2) := by decide +kernel
theorem dX8_init_132 : decode cX8_init 132 = .ok (.bipush 109, 2) := by decide +kernel
theorem dX8_init_134 : decode cX8_init 134 = .ok (.iastore, 1) := by decide +kernel
theorem dX8_init_135 : decode cX8_init 135 = .ok (.dup, 1) := by decide +kernel
theorem dX8_init_136 : decode cX8_init 136 = .ok (.bipush 10, 2) := by decide +kernel
theorem dX8_init_138 : decode cX8_init 138 = .ok (.bipush 117, 2) := by decide +kernel
theorem dX8_init_140 : decode cX8_init 140 = .ok (.iastore, 1) := by decide +kernel
theorem dX8_init_141 : decode cX8_init 141 = .ok (.dup, 1) := by decide +kernel
theorem dX8_init_142 : decode cX8_init 142 = .ok (.bipush 11, 2) := by decide +kernel
theorem dX8_init_144 : decode cX8_init 144 = .ok (.bipush 108, 2) := by decide +kernel
theorem dX8_init_146 : decode cX8_init 146 = .ok (.iastore, 1) := by decide +kernel
theorem dX8_init_147 : decode cX8_init 147 = .ok (.dup, 1) := by decide +kernel
theorem dX8_init_148 : decode cX8_init 148 = .ok (.bipush 12, 2) := by decide +kernel
theorem dX8_init_150 : decode cX8_init 150 = .ok (.bipush 112, 2) := by decide +kernel
theorem dX8_init_152 : decode cX8_init 152 = .ok (.iastore, 1) := by decide +kernel
theorem dX8_init_153 : decode cX8_init 153 = .ok (.dup, 1) := by decide +kernel
theorem dX8_init_154 : decode cX8_init 154 = .ok (.bipush 13, 2) := by decide +kernel
theorem dX8_init_156 : decode cX8_init 156 = .ok (.bipush 105, 2) := by decide +kernel
theorem dX8_init_158 : decode cX8_init 158 = .ok (.iastore, 1) := by decide +kernel
theorem dX8_init_159 : decode cX8_init 159 = .ok (.dup, 1) := by decide +kernel
theorem dX8_init_160 : decode cX8_init 160 = .ok (.bipush 14, 2) := by decide +kernel
theorem dX8_init_162 : decode cX8_init 162 = .ok (.bipush 99, 2) := by decide +kernel
theorem dX8_init_164 : decode cX8_init 164 = .ok (.iastore, 1) := by decide +kernel
theorem dX8_init_165 : decode cX8_init 165 = .ok (.dup, 1) := by decide +kernel
theorem dX8_init_166 : decode cX8_init 166 = .ok (.bipush 15, 2) := by decide +kernel
theorem dX8_init_168 : decode cX8_init 168 = .ok (.bipush 107, 2) := by decide +kernel
theorem dX8_init_170 : decode cX8_init 170 = .ok (.iastore, 1) := by decide +kernel
theorem dX8_init_171 : decode cX8_init 171 = .ok (.dup, 1) := by decide +kernel
theorem dX8_init_172 : decode cX8_init 172 = .ok (.bipush 16, 2) := by decide +kernel
theorem dX8_init_174 : decode cX8_init 174 = .ok (.bipush 115, 2) := by decide +kernel
theorem dX8_init_176 : decode cX8_init 176 = .ok (.iastore, 1) := by decide +kernel
theorem dX8_init_177 : decode cX8_init 177 = .ok (.dup, 1) := by decide +kernel
theorem dX8_init_178 : decode cX8_init 178 = .ok (.bipush 17, 2) := by decide +kernel
theorem dX8_init_180 : decode cX8_init 180 = .ok (.bipush 117, 2) := by decide +kernel
theorem dX8_init_182 : decode cX8_init 182 = .ok (.iastore, 1) := by decide +kernel
theorem dX8_init_183 : decode cX8_init 183 = .ok (.dup, 1) := by decide +kernel
theorem dX8_init_184 : decode cX8_init 184 = .ok (.bipush 18, 2) := by decide +kernel
theorem dX8_init_186 : decode cX8_init 186 = .ok (.bipush 109, 2) := by decide +kernel
theorem dX8_init_188 : decode cX8_init 188 = .ok (.iastore, 1) := by decide +kernel
theorem dX8_init_189 : decode cX8_init 189 = .ok (.dup, 1) := by decide +kernel
theorem dX8_init_190 : decode cX8_init 190 = .ok (.bipush 19, 2) := by decide +kernel
theorem dX8_init_192 : decode cX8_init 192 = .ok (.bipush 109, 2) := by decide +kernel
theorem dX8_init_194 : decode cX8_init 194 = .ok (.iastore, 1) := by decide +kernel
theorem dX8_init_195 : decode cX8_init 195 = .ok (.dup, 1) := by decide +kernel
theorem dX8_init_196 : decode cX8_init 196 = .ok (.bipush 20, 2) := by decide +kernel
theorem dX8_init_198 : decode cX8_init 198 = .ok (.bipush 111, 2) := by decide +kernel
theorem dX8_init_200 : decode cX8_init 200 = .ok (.iastore, 1) := by decide +kernel
theorem dX8_init_201 : decode cX8_init 201 = .ok (.dup, 1) := by decide +kernel
theorem dX8_init_202 : decode cX8_init 202 = .ok (.bipush 21, 2) := by decide +kernel
theorem dX8_init_204 : decode cX8_init 204 = .ok (.bipush 115, 2) := by decide +kernel
theorem dX8_init_206 : decode cX8_init 206 = .ok (.iastore, 1) := by decide +kernel
theorem dX8_init_207 : decode cX8_init 207 = .ok (.dup, 1) := by decide +kernel
theorem dX8_init_208 : decode cX8_init 208 = .ok (.bipush 22, 2) := by decide +kernel
theorem dX8_init_210 : decode cX8_init 210 = .ok (.bipush 116, 2) := by decide +kernel
theorem dX8_init_212 : decode cX8_init 212 = .ok (.iastore, 1) := by decide +kernel
theorem dX8_init_213 : decode cX8_init 213 = .ok (.dup, 1) := by decide +kernel
theorem dX8_init_214 : decode cX8_init 214 = .ok (.bipush 23, 2) := by decide +kernel
theorem dX8_init_216 : decode cX8_init 216 = .ok (.bipush 119, 2) := by decide +kernel
theorem dX8_init_218 : decode cX8_init 218 = .ok (.iastore, 1) := by decide +kernel
theorem dX8_init_219 : decode cX8_init 219 = .ok (.dup, 1) := by decide +kernel
theorem dX8_init_220 : decode cX8_init 220 = .ok (.bipush 24, 2) := by decide +kernel
theorem dX8_init_222 : decode cX8_init 222 = .ok (.bipush 104, 2) := by decide +kernel
theorem dX8_init_224 : decode cX8_init 224 = .ok (.iastore, 1) := by decide +kernel
theorem dX8_init_225 : decode cX8_init 225 = .ok (.dup, 1) := by decide +kernel
theorem dX8_init_226 : decode cX8_init 226 = .ok (.bipush 25, 2) := by decide +kernel
theorem dX8_init_228 : decode cX8_init 228 = .ok (.bipush 101, 2) := by decide +kernel
theorem dX8_init_230 : decode cX8_init 230 = .ok (.iastore, 1) := by decide +kernel
theorem dX8_init_231 : decode cX8_init 231 = .ok (.dup, 1) := by decide +kernel
theorem dX8_init_232 : decode cX8_init 232 = .ok (.bipush 26, 2) := by decide +kernel
theorem dX8_init_234 : decode cX8_init 234 = .ok (.bipush 110, 2) := by decide +kernel
theorem dX8_init_236 : decode cX8_init 236 = .ok (.iastore, 1) := by decide +kernel
theorem dX8_init_237 : decode cX8_init 237 = .ok (.putfield 19, 3) := by decide +kernel
theorem dX8_init_240 : decode cX8_init 240 = .ok (.aload_n 0, 1) := by decide +kernel
theorem dX8_init_241 : decode cX8_init 241 = .ok (.bipush 30, 2) := by decide +kernel
theorem dX8_init_243 : decode cX8_init 243 = .ok (.newarray .int, 2) := by decide +kernel
theorem dX8_init_245 : decode cX8_init 245 = .ok (.putfield 22, 3) := by decide +kernel
theorem dX8_init_248 : decode cX8_init 248 = .ok (.aload_n 0, 1) := by decide +kernel
theorem dX8_init_249 : decode cX8_init 249 = .ok (.bipush 30, 2) := by decide +kernel
theorem dX8_init_251 : decode cX8_init 251 = .ok (.newarray .boolean, 2) := by decide +kernel
theorem dX8_init_253 : decode cX8_init 253 = .ok (.putfield 25, 3) := by decide +kernel
theorem dX8_init_256 : decode cX8_init 256 = .ok (.aload_n 0, 1) := by decide +kernel
theorem dX8_init_257 : decode cX8_init 257 = .ok (.bipush 30, 2) := by decide +kernel
theorem dX8_init_259 : decode cX8_init 259 = .ok (.newarray .int, 2) := by decide +kernel
theorem dX8_init_261 : decode cX8_init 261 = .ok (.putfield 29, 3) := by decide +kernel
theorem dX8_init_264 : decode cX8_init 264 = .ok (.aload_n 0, 1) := by decide +kernel
theorem dX8_init_265 : decode cX8_init 265 = .ok (.sipush 900, 3) := by decide +kernel
theorem dX8_init_268 : decode cX8_init 268 = .ok (.newarray .int, 2) := by decide +kernel
theorem dX8_init_270 : decode cX8_init 270 = .ok (.putfield 32, 3) := by decide +kernel
theorem dX8_init_273 : decode cX8_init 273 = .ok (.aload_n 0, 1) := by decide +kernel
theorem dX8_init_274 : decode cX8_init 274 = .ok (.bipush 30, 2) := by decide +kernel
theorem dX8_init_276 : decode cX8_init 276 = .ok (.newarray .int, 2) := by decide +kernel
theorem dX8_init_278 : decode cX8_init 278 = .ok (.putfield 35, 3) := by decide +kernel
theorem dX8_init_281 : decode cX8_init 281 = .ok (.aload_n 0, 1) := by decide +kernel
theorem dX8_init_282 : decode cX8_init 282 = .ok (.bipush 30, 2) := by decide +kernel
theorem dX8_init_284 : decode cX8_init 284 = .ok (.newarray .int, 2) := by decide +kernel
theorem dX8_init_286 : decode cX8_init 286 = .ok (.putfield 38, 3) := by decide +kernel
theorem dX8_init_289 : decode cX8_init 289 = .ok (.aload_n 0, 1) := by decide +kernel
theorem dX8_init_290 : decode cX8_init 290 = .ok (.bipush 30, 2) := by decide +kernel
theorem dX8_init_292 : decode cX8_init 292 = .ok (.newarray .int, 2) := by decide +kernel
theorem dX8_init_294 : decode cX8_init 294 = .ok (.putfield 41, 3) := by decide +kernel
theorem dX8_init_297 : decode cX8_init 297 = .ok (.aload_n 0, 1) := by decide +kernel
theorem dX8_init_298 : decode cX8_init 298 = .ok (.bipush 30, 2) := by decide +kernel
theorem dX8_init_300 : decode cX8_init 300 = .ok (.newarray .boolean, 2) := by decide +kernel
theorem dX8_init_302 : decode cX8_init 302 = .ok (.putfield 44, 3) := by decide +kernel
theorem dX8_init_305 : decode cX8_init 305 = .ok (.aload_n 0, 1) := by decide +kernel
theorem dX8_init_306 : decode cX8_init 306 = .ok (.bipush 30, 2) := by decide +kernel
theorem dX8_init_308 : decode cX8_init 308 = .ok (.newarray .int, 2) := by decide +kernel
theorem dX8_init_310 : decode cX8_init 310 = .ok (.putfield 47, 3) := by decide +kernel
theorem dX8_init_313 : decode cX8_init 313 = .ok (.aload_n 0, 1) := by decide +kernel
theorem dX8_init_314 : decode cX8_init 314 = .ok (.bipush 100, 2) := by decide +kernel
theorem dX8_init_316 : decode cX8_init 316 = .ok (.newarray .int, 2) := by decide +kernel
theorem dX8_init_318 : decode cX8_init 318 = .ok (.putfield 50, 3) := by decide +kernel
theorem dX8_init_321 : decode cX8_init 321 = .ok (.aload_n 0, 1) := by decide +kernel
theorem dX8_init_322 : decode cX8_init 322 = .ok (.bipush 103, 2) := by decide +kernel
theorem dX8_init_324 : decode cX8_init 324 = .ok (.newarray .int, 2) := by decide +kernel
theorem dX8_init_326 : decode cX8_init 326 = .ok (.putfield 53, 3) := by decide +kernel
theorem dX8_init_329 : decode cX8_init 329 = .ok (.aload_n 0, 1) := by decide +kernel
theorem dX8_init_330 : decode cX8_init 330 = .ok (.iconst 4, 1) := by decide +kernel
theorem dX8_init_331 : decode cX8_init 331 = .ok (.newarray .int, 2) := by decide +kernel
theorem dX8_init_333 : decode cX8_init 333 = .ok (.putfield 56, 3) := by decide +kernel
theorem dX8_init_336 : decode cX8_init 336 = .ok (.aload_n 0, 1) := by decide +kernel
theorem dX8_init_337 : decode cX8_init 337 = .ok (.iconst 2, 1) := by decide +kernel
theorem dX8_init_338 : decode cX8_init 338 = .ok (.newarray .boolean, 2) := by decide +kernel
theorem dX8_init_340 : decode cX8_init 340 = .ok (.dup, 1) := by decide +kernel
theorem dX8_init_341 : decode cX8_init 341 = .ok (.iconst 0, 1) := by decide +kernel
theorem dX8_init_342 : decode cX8_init 342 = .ok (.iconst 0, 1) := by decide +kernel
theorem dX8_init_343 : decode cX8_init 343 = .ok (.bastore, 1) := by decide +kernel
theorem dX8_init_344 : decode cX8_init 344 = .ok (.dup, 1) := by decide +kernel
theorem dX8_init_345 : decode cX8_init 345 = .ok (.iconst 1, 1) := by decide +kernel
theorem dX8_init_346 : decode cX8_init 346 = .ok (.iconst 0, 1) := by decide +kernel
theorem dX8_init_347 : decode cX8_init 347 = .ok (.bastore, 1) := by decide +kernel
theorem dX8_init_348 : decode cX8_init 348 = .ok (.putfield 59, 3) := by decide +kernel
theorem dX8_init_351 : decode cX8_init 351 = .ok (.aload_n 0, 1) := by decide +kernel
theorem dX8_init_352 : decode cX8_init 352 = .ok (.iconst 4, 1) := by decide +kernel
theorem dX8_init_353 : decode cX8_init 353 = .ok (.newarray .int, 2) := by decide +kernel
theorem dX8_init_355 : decode cX8_init 355 = .ok (.dup, 1) := by decide +kernel
theorem dX8_init_356 : decode cX8_init 356 = .ok (.iconst 0, 1) := by decide +kernel
theorem dX8_init_357 : decode cX8_init 357 = .ok (.bipush (-4), 2) := by decide +kernel
theorem dX8_init_359 : decode cX8_init 359 = .ok (.iastore, 1) := by decide +kernel
theorem dX8_init_360 : decode cX8_init 360 = .ok (.dup, 1) := by decide +kernel
theorem dX8_init_361 : decode cX8_init 361 = .ok (.iconst 1, 1) := by decide +kernel
theorem dX8_init_362 : decode cX8_init 362 = .ok (.bipush (-4), 2) := by decide +kernel
theorem dX8_init_364 : decode cX8_init 364 = .ok (.iastore, 1) := by decide +kernel
theorem dX8_init_365 : decode cX8_init 365 = .ok (.dup, 1) := by decide +kernel
theorem dX8_init_366 : decode cX8_init 366 = .ok (.iconst 2, 1) := by decide +kernel
theorem dX8_init_367 : decode cX8_init 367 = .ok (.bipush (-4), 2) := by decide +kernel
theorem dX8_init_369 : decode cX8_init 369 = .ok (.iastore, 1) := by decide +kernel
theorem dX8_init_370 : decode cX8_init 370 = .ok (.dup, 1) := by decide +kernel
theorem dX8_init_371 : decode cX8_init 371 = .ok (.iconst 3, 1) := by decide +kernel
theorem dX8_init_372 : decode cX8_init 372 = .ok (.bipush (-4), 2) := by decide +kernel
theorem dX8_init_374 : decode cX8_init 374 = .ok (.iastore, 1) := by decide +kernel
theorem dX8_init_375 : decode cX8_init 375 = .ok (.putfield 62, 3) := by decide +kernel
theorem dX8_init_378 : decode cX8_init 378 = .ok (.aload_n 0, 1) := by decide +kernel
theorem dX8_init_379 : decode cX8_init 379 = .ok (.iconst 4, 1) := by decide +kernel
theorem dX8_init_380 : decode cX8_init 380 = .ok (.newarray .int, 2) := by decide +kernel
theorem dX8_init_382 : decode cX8_init 382 = .ok (.dup, 1) := by decide +kernel
theorem dX8_init_383 : decode cX8_init 383 = .ok (.iconst 0, 1) := by decide +kernel
theorem dX8_init_384 : decode cX8_init 384 = .ok (.iconst 0, 1) := by decide +kernel
theorem dX8_init_385 : decode cX8_init 385 = .ok (.iastore, 1) := by decide +kernel
theorem dX8_init_386 : decode cX8_init 386 = .ok (.dup, 1) := by decide +kernel
theorem dX8_init_387 : decode cX8_init 387 = .ok (.iconst 1, 1) := by decide +kernel
theorem dX8_init_388 : decode cX8_init 388 = .ok (.iconst 0, 1) := by decide +kernel
theorem dX8_init_389 : decode cX8_init 389 = .ok (.iastore, 1) := by decide +kernel
theorem dX8_init_390 : decode cX8_init 390 = .ok (.dup, 1) := by decide +kernel
theorem dX8_init_391 : decode cX8_init 391 = .ok (.iconst 2, 1) := by decide +kernel
theorem dX8_init_392 : decode cX8_init 392 = .ok (.iconst 0, 1) := by decide +kernel
theorem dX8_init_393 : decode cX8_init 393 = .ok (.iastore, 1) := by decide +kernel
theorem dX8_init_394 : decode cX8_init 394 = .ok (.dup, 1) := by decide +kernel
theorem dX8_init_395 : decode cX8_init 395 = .ok (.iconst 3, 1) := by decide +kernel
theorem dX8_init_396 : decode cX8_init 396 = .ok (.iconst 0, 1) := by decide +kernel
theorem dX8_init_397 : decode cX8_init 397 = .ok (.iastore, 1) := by decide +kernel
theorem dX8_init_398 : decode cX8_init 398 = .ok (.putfield 65, 3) := by decide +kernel
theorem dX8_init_401 : decode cX8_init 401 = .ok (.aload_n 0, 1) := by decide +kernel
theorem dX8_init_402 : decode cX8_init 402 = .ok (.sipush 160, 3) := by decide +kernel
theorem dX8_init_405 : decode cX8_init 405 = .ok (.newarray .int, 2) := by decide +kernel
theorem dX8_init_407 : decode cX8_init 407 = .ok (.putfield 68, 3) := by decide +kernel
theorem dX8_init_410 : decode cX8_init 410 = .ok (.return_, 1) := by decide +kernel
theorem dX8_in_0 : decode cX8_in 0 = .ok (.lload_n 0, 1) := by decide +kernel
theorem dX8_in_1 : decode cX8_in 1 = .ok (.lload_n 2, 1) := by decide +kernel
theorem dX8_in_2 : decode cX8_in 2 = .ok (.lcmp, 1) := by decide +kernel
theorem dX8_in_3 : decode cX8_in 3 = .ok (.ifCond .lt 14, 3) := by decide +kernel
theorem dX8_in_6 : decode cX8_in 6 = .ok (.lload_n 0, 1) := by decide +kernel
theorem dX8_in_7 : decode cX8_in 7 = .ok (.lload 4, 2) := by decide +kernel
theorem dX8_in_9 : decode cX8_in 9 = .ok (.lcmp, 1) := by decide +kernel
theorem dX8_in_10 : decode cX8_in 10 = .ok (.ifCond .gt 7, 3) := by decide +kernel
theorem dX8_in_13 : decode cX8_in 13 = .ok (.iconst 1, 1) := by decide +kernel
theorem dX8_in_14 : decode cX8_in 14 = .ok (.goto 4, 3) := by decide +kernel
theorem dX8_in_17 : decode cX8_in 17 = .ok (.iconst 0, 1) := by decide +kernel
theorem dX8_in_18 : decode cX8_in 18 = .ok (.ireturn, 1) := by decide +kernel
theorem dX8_feed_0 : decode cX8_feed 0 = .ok (.iload_n 1, 1) := by decide +kernel
theorem dX8_feed_1 : decode cX8_feed 1 = .ok (.i2l, 1) := by decide +kernel
theorem dX8_feed_2 : decode cX8_feed 2 = .ok (.lconst 0, 1) := by decide +kernel
theorem dX8_feed_3 : decode cX8_feed 3 = .ok (.ldc2_w 71, 3) := by decide +kernel
theorem dX8_feed_6 : decode cX8_feed 6 = .ok (.invokestatic 73, 3) := by decide +kernel
theorem dX8_feed_9 : decode cX8_feed 9 = .ok (.ifCond .ne 5, 3) := by decide +kernel
theorem dX8_feed_12 : decode cX8_feed 12 = .ok (.iconst (-1), 1) := by decide +kernel
theorem dX8_feed_13 : decode cX8_feed 13 = .ok (.ireturn, 1) := by decide +kernel
theorem dX8_feed_14 : decode cX8_feed 14 = .ok (.aload_n 0, 1) := by decide +kernel
theorem dX8_feed_15 : decode cX8_feed 15 = .ok (.getfield 77, 3) := by decide +kernel
theorem dX8_feed_18 : decode cX8_feed 18 = .ok (.sipush 320, 3) := by decide +kernel
theorem dX8_feed_21 : decode cX8_feed 21 = .ok (.if_icmp .ne 6, 3) := by decide +kernel
theorem dX8_feed_24 : decode cX8_feed 24 = .ok (.bipush (-3), 2) := by decide +kernel
theorem dX8_feed_26 : decode cX8_feed 26 = .ok (.ireturn, 1) := by decide +kernel
theorem dX8_feed_27 : decode cX8_feed 27 = .ok (.aload_n 0, 1) := by decide +kernel
theorem dX8_feed_28 : decode cX8_feed 28 = .ok (.getfield 13, 3) := by decide +kernel
theorem dX8_feed_31 : decode cX8_feed 31 = .ok (.aload_n 0, 1) := by decide +kernel
theorem dX8_feed_32 : decode cX8_feed 32 = .ok (.getfield 77, 3) := by decide +kernel
theorem dX8_feed_35 : decode cX8_feed 35 = .ok (.iload_n 1, 1) := by decide +kernel
theorem dX8_feed_36 : decode cX8_feed 36 = .ok (.iastore, 1) := by decide +kernel
theorem dX8_feed_37 : decode cX8_feed 37 = .ok (.aload_n 0, 1) := by decide +kernel
theorem dX8_feed_38 : decode cX8_feed 38 = .ok (.dup, 1) := by decide +kernel
theorem dX8_feed_39 : decode cX8_feed 39 = .ok (.getfield 77, 3) := by decide +kernel
theorem dX8_feed_42 : decode cX8_feed 42 = .ok (.iconst 1, 1) := by decide +kernel
theorem dX8_feed_43 : decode cX8_feed 43 = .ok (.iadd, 1) := by decide +kernel
theorem dX8_feed_44 : decode cX8_feed 44 = .ok (.putfield 77, 3) := by decide +kernel
theorem dX8_feed_47 : decode cX8_feed 47 = .ok (.aload_n 0, 1) := by decide +kernel
theorem dX8_feed_48 : decode cX8_feed 48 = .ok (.getfield 77, 3) := by decide +kernel
theorem dX8_feed_51 : decode cX8_feed 51 = .ok (.ireturn, 1) := by decide +kernel
theorem dX8_end_0 : decode cX8_end 0 = .ok (.iload_n 1, 1) := by decide +kernel
theorem dX8_end_1 : decode cX8_end 1 = .ok (.i2l, 1) := by decide +kernel
theorem dX8_end_2 : decode cX8_end 2 = .ok (.lconst 0, 1) := by decide +kernel
theorem dX8_end_3 : decode cX8_end 3 = .ok (.aload_n 0, 1) := by decide +kernel
theorem dX8_end_4 : decode cX8_end 4 = .ok (.getfield 77, 3) := by decide +kernel
theorem dX8_end_7 : decode cX8_end 7 = .ok (.i2l, 1) := by decide +kernel
theorem dX8_end_8 : decode cX8_end 8 = .ok (.invokestatic 73, 3) := by decide +kernel
theorem dX8_end_11 : decode cX8_end 11 = .ok (.ifCond .ne 5, 3) := by decide +kernel
theorem dX8_end_14 : decode cX8_end 14 = .ok (.iconst (-1), 1) := by decide +kernel
theorem dX8_end_15 : decode cX8_end 15 = .ok (.ireturn, 1) := by decide +kernel
theorem dX8_end_16 : decode cX8_end 16 = .ok (.aload_n 0, 1) := by decide +kernel
theorem dX8_end_17 : decode cX8_end 17 = .ok (.getfield 77, 3) := by decide +kernel
theorem dX8_end_20 : decode cX8_end 20 = .ok (.istore_n 2, 1) := by decide +kernel
theorem dX8_end_21 : decode cX8_end 21 = .ok (.aload_n 0, 1) := by decide +kernel
theorem dX8_end_22 : decode cX8_end 22 = .ok (.iload_n 1, 1) := by decide +kernel
theorem dX8_end_23 : decode cX8_end 23 = .ok (.putfield 77, 3) := by decide +kernel
theorem dX8_end_26 : decode cX8_end 26 = .ok (.iload_n 2, 1) := by decide +kernel
theorem dX8_end_27 : decode cX8_end 27 = .ok (.ireturn, 1) := by decide +kernel
theorem dX8_byteAt_0 : decode cX8_byteAt 0 = .ok (.iload_n 1, 1) := by decide +kernel
theorem dX8_byteAt_1 : decode cX8_byteAt 1 = .ok (.aload_n 0, 1) := by decide +kernel
theorem dX8_byteAt_2 : decode cX8_byteAt 2 = .ok (.getfield 77, 3) := by decide +kernel
theorem dX8_byteAt_5 : decode cX8_byteAt 5 = .ok (.if_icmp .ge 12, 3) := by decide +kernel
theorem dX8_byteAt_8 : decode cX8_byteAt 8 = .ok (.aload_n 0, 1) := by decide +kernel
theorem dX8_byteAt_9 : decode cX8_byteAt 9 = .ok (.getfield 13, 3) := by decide +kernel
theorem dX8_byteAt_12 : decode cX8_byteAt 12 = .ok (.iload_n 1, 1) := by decide +kernel
theorem dX8_byteAt_13 : decode cX8_byteAt 13 = .ok (.iaload, 1) := by decide +kernel
theorem dX8_byteAt_14 : decode cX8_byteAt 14 = .ok (.goto 5, 3) := by decide +kernel
theorem dX8_byteAt_17 : decode cX8_byteAt 17 = .ok (.bipush (-4), 2) := by decide +kernel
theorem dX8_byteAt_19 : decode cX8_byteAt 19 = .ok (.ireturn, 1) := by decide +kernel
theorem dX8_fails_0 : decode cX8_fails 0 = .ok (.aload_n 0, 1) := by decide +kernel
theorem dX8_fails_1 : decode cX8_fails 1 = .ok (.getfield 81, 3) := by decide +kernel
theorem dX8_fails_4 : decode cX8_fails 4 = .ok (.ifCond .ne 16, 3) := by decide +kernel
theorem dX8_fails_7 : decode cX8_fails 7 = .ok (.aload_n 0, 1) := by decide +kernel
theorem dX8_fails_8 : decode cX8_fails 8 = .ok (.iload_n 1, 1) := by decide +kernel
theorem dX8_fails_9 : decode cX8_fails 9 = .ok (.putfield 81, 3) := by decide +kernel
theorem dX8_fails_12 : decode cX8_fails 12 = .ok (.aload_n 0, 1) := by decide +kernel
theorem dX8_fails_13 : decode cX8_fails 13 = .ok (.aload_n 0, 1) := by decide +kernel
theorem dX8_fails_14 : decode cX8_fails 14 = .ok (.getfield 84, 3) := by decide +kernel
theorem dX8_fails_17 : decode cX8_fails 17 = .ok (.putfield 87, 3) := by decide +kernel
theorem dX8_fails_20 : decode cX8_fails 20 = .ok (.return_, 1) := by decide +kernel
theorem dX8_kindHere_0 : decode cX8_kindHere 0 = .ok (.iconst 0, 1) := by decide +kernel
theorem dX8_kindHere_1 : decode cX8_kindHere 1 = .ok (.istore_n 1, 1) := by decide +kernel
theorem dX8_kindHere_2 : decode cX8_kindHere 2 = .ok (.iload_n 1, 1) := by decide +kernel
theorem dX8_kindHere_3 : decode cX8_kindHere 3 = .ok (.bipush 8, 2) := by decide +kernel
theorem dX8_kindHere_5 : decode cX8_kindHere 5 = .ok (.if_icmp .ge 115, 3) := by decide +kernel
theorem dX8_kindHere_8 : decode cX8_kindHere 8 = .ok (.aload_n 0, 1) := by decide +kernel
theorem dX8_kindHere_9 : decode cX8_kindHere 9 = .ok (.getfield 90, 3) := by decide +kernel
theorem dX8_kindHere_12 : decode cX8_kindHere 12 = .ok (.iconst 1, 1) := by decide +kernel
theorem dX8_kindHere_13 : decode cX8_kindHere 13 = .ok (.if_icmp .ne 107, 3) := by decide +kernel
theorem dX8_kindHere_16 : decode cX8_kindHere 16 = .ok (.aload_n 0, 1) := by decide +kernel
theorem dX8_kindHere_17 : decode cX8_kindHere 17 = .ok (.getfield 93, 3) := by decide +kernel
theorem dX8_kindHere_20 : decode cX8_kindHere 20 = .ok (.aload_n 0, 1) := by decide +kernel
theorem dX8_kindHere_21 : decode cX8_kindHere 21 = .ok (.getfield 84, 3) := by decide +kernel
theorem dX8_kindHere_24 : decode cX8_kindHere 24 = .ok (.isub, 1) := by decide +kernel
theorem dX8_kindHere_25 : decode cX8_kindHere 25 = .ok (.aload_n 0, 1) := by decide +kernel
theorem dX8_kindHere_26 : decode cX8_kindHere 26 = .ok (.getfield 16, 3) := by decide +kernel
theorem dX8_kindHere_29 : decode cX8_kindHere 29 = .ok (.iload_n 1, 1) := by decide +kernel
theorem dX8_kindHere_30 : decode cX8_kindHere 30 = .ok (.iconst 1, 1) := by decide +kernel
theorem dX8_kindHere_31 : decode cX8_kindHere 31 = .ok (.iadd, 1) := by decide +kernel
theorem dX8_kindHere_32 : decode cX8_kindHere 32 = .ok (.iaload, 1) := by decide +kernel
theorem dX8_kindHere_33 : decode cX8_kindHere 33 = .ok (.aload_n 0, 1) := by decide +kernel
theorem dX8_kindHere_34 : decode cX8_kindHere 34 = .ok (.getfield 16, 3) := by decide +kernel
theorem dX8_kindHere_37 : decode cX8_kindHere 37 = .ok (.iload_n 1, 1) := by decide +kernel
theorem dX8_kindHere_38 : decode cX8_kindHere 38 = .ok (.iaload, 1) := by decide +kernel
theorem dX8_kindHere_39 : decode cX8_kindHere 39 = .ok (.isub, 1) := by decide +kernel
theorem dX8_kindHere_40 : decode cX8_kindHere 40 = .ok (.if_icmp .ne 7, 3) := by decide +kernel
theorem dX8_kindHere_43 : decode cX8_kindHere 43 = .ok (.iconst 1, 1) := by decide +kernel
theorem dX8_kindHere_44 : decode cX8_kindHere 44 = .ok (.goto 4, 3) := by decide +kernel
theorem dX8_kindHere_47 : decode cX8_kindHere 47 = .ok (.iconst 0, 1) := by decide +kernel
theorem dX8_kindHere_48 : decode cX8_kindHere 48 = .ok (.istore_n 2, 1) := by decide +kernel
theorem dX8_kindHere_49 : decode cX8_kindHere 49 = .ok (.iconst 0, 1) := by decide +kernel
theorem dX8_kindHere_50 : decode cX8_kindHere 50 = .ok (.istore_n 3, 1) := by decide +kernel
theorem dX8_kindHere_51 : decode cX8_kindHere 51 = .ok (.iload_n 2, 1) := by decide +kernel
theorem dX8_kindHere_52 : decode cX8_kindHere 52 = .ok (.ifCond .eq 54, 3) := by decide +kernel
theorem dX8_kindHere_55 : decode cX8_kindHere 55 = .ok (.iload_n 3, 1) := by decide +kernel
theorem dX8_kindHere_56 : decode cX8_kindHere 56 = .ok (.aload_n 0, 1) := by decide +kernel
theorem dX8_kindHere_57 : decode cX8_kindHere 57 = .ok (.getfield 93, 3) := by decide +kernel
theorem dX8_kindHere_60 : decode cX8_kindHere 60 = .ok (.aload_n 0, 1) := by decide +kernel
theorem dX8_kindHere_61 : decode cX8_kindHere 61 = .ok (.getfield 84, 3) := by decide +kernel
theorem dX8_kindHere_64 : decode cX8_kindHere 64 = .ok (.isub, 1) := by decide +kernel
theorem dX8_kindHere_65 : decode cX8_kindHere 65 = .ok (.if_icmp .ge 41, 3) := by decide +kernel
theorem dX8_kindHere_68 : decode cX8_kindHere 68 = .ok (.aload_n 0, 1) := by decide +kernel
theorem dX8_kindHere_69 : decode cX8_kindHere 69 = .ok (.aload_n 0, 1) := by decide +kernel
theorem dX8_kindHere_70 : decode cX8_kindHere 70 = .ok (.getfield 84, 3) := by decide +kernel
theorem dX8_kindHere_73 : decode cX8_kindHere 73 = .ok (.iload_n 3, 1) := by decide +kernel
theorem dX8_kindHere_74 : decode cX8_kindHere 74 = .ok (.iadd, 1) := by decide +kernel
theorem dX8_kindHere_75 : decode cX8_kindHere 75 = .ok (.invokevirtual 96, 3) := by decide +kernel
theorem dX8_kindHere_78 : decode cX8_kindHere 78 = .ok (.aload_n 0, 1) := by decide +kernel
theorem dX8_kindHere_79 : decode cX8_kindHere 79 = .ok (.getfield 19, 3) := by decide +kernel
theorem dX8_kindHere_82 : decode cX8_kindHere 82 = .ok (.aload_n 0, 1) := by decide +kernel
theorem dX8_kindHere_83 : decode cX8_kindHere 83 = .ok (.getfield 16, 3) := by decide +kernel
theorem dX8_kindHere_86 : decode cX8_kindHere 86 = .ok (.iload_n 1, 1) := by decide +kernel
theorem dX8_kindHere_87 : decode cX8_kindHere 87 = .ok (.iaload, 1) := by decide +kernel
theorem dX8_kindHere_88 : decode cX8_kindHere 88 = .ok (.iload_n 3, 1) := by decide +kernel
theorem dX8_kindHere_89 : decode cX8_kindHere 89 = .ok (.iadd, 1) := by decide +kernel
theorem dX8_kindHere_90 : decode cX8_kindHere 90 = .ok (.iaload, 1) := by decide +kernel
theorem dX8_kindHere_91 : decode cX8_kindHere 91 = .ok (.if_icmp .ne 7, 3) := by decide +kernel
theorem dX8_kindHere_94 : decode cX8_kindHere 94 = .ok (.iconst 1, 1) := by decide +kernel
theorem dX8_kindHere_95 : decode cX8_kindHere 95 = .ok (.goto 4, 3) := by decide +kernel
theorem dX8_kindHere_98 : decode cX8_kindHere 98 = .ok (.iconst 0, 1) := by decide +kernel
theorem dX8_kindHere_99 : decode cX8_kindHere 99 = .ok (.istore_n 2, 1) := by decide +kernel
theorem dX8_kindHere_100 : decode cX8_kindHere 100 = .ok (.iinc 3 1, 3) := by decide +kernel
theorem dX8_kindHere_103 : decode cX8_kindHere 103 = .ok (.goto (-52), 3) := by decide +kernel
theorem dX8_kindHere_106 : decode cX8_kindHere 106 = .ok (.iload_n 2, 1) := by decide +kernel
theorem dX8_kindHere_107 : decode cX8_kindHere 107 = .ok (.ifCond .eq 7, 3) := by decide +kernel
theorem dX8_kindHere_110 : decode cX8_kindHere 110 = .ok (.iload_n 1, 1) := by decide +kernel
theorem dX8_kindHere_111 : decode cX8_kindHere 111 = .ok (.iconst 1, 1) := by decide +kernel
theorem dX8_kindHere_112 : decode cX8_kindHere 112 = .ok (.iadd, 1) := by decide +kernel
theorem dX8_kindHere_113 : decode cX8_kindHere 113 = .ok (.ireturn, 1) := by decide +kernel
theorem dX8_kindHere_114 : decode cX8_kindHere 114 = .ok (.iinc 1 1, 3) := by decide +kernel
theorem dX8_kindHere_117 : decode cX8_kindHere 117 = .ok (.goto (-115), 3) := by decide +kernel
theorem dX8_kindHere_120 : decode cX8_kindHere 120 = .ok (.bipush (-4), 2) := by decide +kernel
theorem dX8_kindHere_122 : decode cX8_kindHere 122 = .ok (.ireturn, 1) := by decide +kernel
theorem dX8_readsOn_0 : decode cX8_readsOn 0 = .ok (.aload_n 0, 1) := by decide +kernel
theorem dX8_readsOn_1 : decode cX8_readsOn 1 = .ok (.getfield 81, 3) := by decide +kernel
theorem dX8_readsOn_4 : decode cX8_readsOn 4 = .ok (.ifCond .le 4, 3) := by decide +kernel
theorem dX8_readsOn_7 : decode cX8_readsOn 7 = .ok (.return_, 1) := by decide +kernel
theorem dX8_readsOn_8 : decode cX8_readsOn 8 = .ok (.aload_n 0, 1) := by decide +kernel
theorem dX8_readsOn_9 : decode cX8_readsOn 9 = .ok (.aload_n 0, 1) := by decide +kernel
theorem dX8_readsOn_10 : decode cX8_readsOn 10 = .ok (.getfield 93, 3) := by decide +kernel
theorem dX8_readsOn_13 : decode cX8_readsOn 13 = .ok (.invokevirtual 96, 3) := by decide +kernel
theorem dX8_readsOn_16 : decode cX8_readsOn 16 = .ok (.bipush 32, 2) := by decide +kernel
theorem dX8_readsOn_18 : decode cX8_readsOn 18 = .ok (.if_icmp .ne 16, 3) := by decide +kernel
theorem dX8_readsOn_21 : decode cX8_readsOn 21 = .ok (.aload_n 0, 1) := by decide +kernel
theorem dX8_readsOn_22 : decode cX8_readsOn 22 = .ok (.dup, 1) := by decide +kernel
theorem dX8_readsOn_23 : decode cX8_readsOn 23 = .ok (.getfield 93, 3) := by decide +kernel
theorem dX8_readsOn_26 : decode cX8_readsOn 26 = .ok (.iconst 1, 1) := by decide +kernel
theorem dX8_readsOn_27 : decode cX8_readsOn 27 = .ok (.iadd, 1) := by decide +kernel
theorem dX8_readsOn_28 : decode cX8_readsOn 28 = .ok (.putfield 93, 3) := by decide +kernel
theorem dX8_readsOn_31 : decode cX8_readsOn 31 = .ok (.goto (-23), 3) := by decide +kernel
theorem dX8_readsOn_34 : decode cX8_readsOn 34 = .ok (.aload_n 0, 1) := by decide +kernel
theorem dX8_readsOn_35 : decode cX8_readsOn 35 = .ok (.aload_n 0, 1) := by decide +kernel
theorem dX8_readsOn_36 : decode cX8_readsOn 36 = .ok (.getfield 93, 3) := by decide +kernel
theorem dX8_readsOn_39 : decode cX8_readsOn 39 = .ok (.putfield 84, 3) := by decide +kernel
theorem dX8_readsOn_42 : decode cX8_readsOn 42 = .ok (.aload_n 0, 1) := by decide +kernel
theorem dX8_readsOn_43 : decode cX8_readsOn 43 = .ok (.aload_n 0, 1) := by decide +kernel
theorem dX8_readsOn_44 : decode cX8_readsOn 44 = .ok (.getfield 93, 3) := by decide +kernel
theorem dX8_readsOn_47 : decode cX8_readsOn 47 = .ok (.invokevirtual 96, 3) := by decide +kernel
theorem dX8_readsOn_50 : decode cX8_readsOn 50 = .ok (.istore_n 1, 1) := by decide +kernel
theorem dX8_readsOn_51 : decode cX8_readsOn 51 = .ok (.aload_n 0, 1) := by decide +kernel
theorem dX8_readsOn_52 : decode cX8_readsOn 52 = .ok (.iconst 0, 1) := by decide +kernel
theorem dX8_readsOn_53 : decode cX8_readsOn 53 = .ok (.putfield 100, 3) := by decide +kernel
theorem dX8_readsOn_56 : decode cX8_readsOn 56 = .ok (.iload_n 1, 1) := by decide +kernel
theorem dX8_readsOn_57 : decode cX8_readsOn 57 = .ok (.bipush (-4), 2) := by decide +kernel
theorem dX8_readsOn_59 : decode cX8_readsOn 59 = .ok (.if_icmp .ne 11, 3) := by decide +kernel
theorem dX8_readsOn_62 : decode cX8_readsOn 62 = .ok (.aload_n 0, 1) := by decide +kernel
theorem dX8_readsOn_63 : decode cX8_readsOn 63 = .ok (.iconst 0, 1) := by decide +kernel
theorem dX8_readsOn_64 : decode cX8_readsOn 64 = .ok (.putfield 90, 3) := by decide +kernel
theorem dX8_readsOn_67 : decode cX8_readsOn 67 = .ok (.goto 202, 3) := by decide +kernel
theorem dX8_readsOn_70 : decode cX8_readsOn 70 = .ok (.iload_n 1, 1) := by decide +kernel
theorem dX8_readsOn_71 : decode cX8_readsOn 71 = .ok (.i2l, 1) := by decide +kernel
theorem dX8_readsOn_72 : decode cX8_readsOn 72 = .ok (.ldc2_w 103, 3) := by decide +kernel
theorem dX8_readsOn_75 : decode cX8_readsOn 75 = .ok (.ldc2_w 105, 3) := by decide +kernel
theorem dX8_readsOn_78 : decode cX8_readsOn 78 = .ok (.invokestatic 73, 3) := by decide +kernel
theorem dX8_readsOn_81 : decode cX8_readsOn 81 = .ok (.ifCond .eq 45, 3) := by decide +kernel
theorem dX8_readsOn_84 : decode cX8_readsOn 84 = .ok (.aload_n 0, 1) := by decide +kernel
theorem dX8_readsOn_85 : decode cX8_readsOn 85 = .ok (.aload_n 0, 1) := by decide +kernel
theorem dX8_readsOn_86 : decode cX8_readsOn 86 = .ok (.getfield 93, 3) := by decide +kernel
theorem dX8_readsOn_89 : decode cX8_readsOn 89 = .ok (.invokevirtual 96, 3) := by decide +kernel
theorem dX8_readsOn_92 : decode cX8_readsOn 92 = .ok (.i2l, 1) := by decide +kernel
theorem dX8_readsOn_93 : decode cX8_readsOn 93 = .ok (.ldc2_w 103, 3) := by decide +kernel
theorem dX8_readsOn_96 : decode cX8_readsOn 96 = .ok (.ldc2_w 105, 3) := by decide +kernel
theorem dX8_readsOn_99 : decode cX8_readsOn 99 = .ok (.invokestatic 73, 3) := by decide +kernel
theorem dX8_readsOn_102 : decode cX8_readsOn 102 = .ok (.ifCond .eq 16, 3) := by decide +kernel
theorem dX8_readsOn_105 : decode cX8_readsOn 105 = .ok (.aload_n 0, 1) := by decide +kernel
theorem dX8_readsOn_106 : decode cX8_readsOn 106 = .ok (.dup, 1) := by decide +kernel
theorem dX8_readsOn_107 : decode cX8_readsOn 107 = .ok (.getfield 93, 3) := by decide +kernel
theorem dX8_readsOn_110 : decode cX8_readsOn 110 = .ok (.iconst 1, 1) := by decide +kernel
theorem dX8_readsOn_111 : decode cX8_readsOn 111 = .ok (.iadd, 1) := by decide +kernel
theorem dX8_readsOn_112 : decode cX8_readsOn 112 = .ok (.putfield 93, 3) := by decide +kernel
theorem dX8_readsOn_115 : decode cX8_readsOn 115 = .ok (.goto (-31), 3) := by decide +kernel
theorem dX8_readsOn_118 : decode cX8_readsOn 118 = .ok (.aload_n 0, 1) := by decide +kernel
theorem dX8_readsOn_119 : decode cX8_readsOn 119 = .ok (.iconst 1, 1) := by decide +kernel
theorem dX8_readsOn_120 : decode cX8_readsOn 120 = .ok (.putfield 90, 3) := by decide +kernel
theorem dX8_readsOn_123 : decode cX8_readsOn 123 = .ok (.goto 146, 3) := by decide +kernel
theorem dX8_readsOn_126 : decode cX8_readsOn 126 = .ok (.iload_n 1, 1) := by decide +kernel
theorem dX8_readsOn_127 : decode cX8_readsOn 127 = .ok (.i2l, 1) := by decide +kernel
theorem dX8_readsOn_128 : decode cX8_readsOn 128 = .ok (.ldc2_w 107, 3) := by decide +kernel
theorem dX8_readsOn_131 : decode cX8_readsOn 131 = .ok (.ldc2_w 109, 3) := by decide +kernel
theorem dX8_readsOn_134 : decode cX8_readsOn 134 = .ok (.invokestatic 73, 3) := by decide +kernel
theorem dX8_readsOn_137 : decode cX8_readsOn 137 = .ok (.ifCond .eq 106, 3) := by decide +kernel
theorem dX8_readsOn_140 : decode cX8_readsOn 140 = .ok (.aload_n 0, 1) := by decide +kernel
theorem dX8_readsOn_141 : decode cX8_readsOn 141 = .ok (.aload_n 0, 1) := by decide +kernel
theorem dX8_readsOn_142 : decode cX8_readsOn 142 = .ok (.getfield 93, 3) := by decide +kernel
theorem dX8_readsOn_145 : decode cX8_readsOn 145 = .ok (.invokevirtual 96, 3) := by decide +kernel
theorem dX8_readsOn_148 : decode cX8_readsOn 148 = .ok (.i2l, 1) := by decide +kernel
theorem dX8_readsOn_149 : decode cX8_readsOn 149 = .ok (.ldc2_w 107, 3) := by decide +kernel
theorem dX8_readsOn_152 : decode cX8_readsOn 152 = .ok (.ldc2_w 109, 3) := by decide +kernel
theorem dX8_readsOn_155 : decode cX8_readsOn 155 = .ok (.invokestatic 73, 3) := by decide +kernel
theorem dX8_readsOn_158 : decode cX8_readsOn 158 = .ok (.ifCond .eq 59, 3) := by decide +kernel
theorem dX8_readsOn_161 : decode cX8_readsOn 161 = .ok (.aload_n 0, 1) := by decide +kernel
theorem dX8_readsOn_162 : decode cX8_readsOn 162 = .ok (.aload_n 0, 1) := by decide +kernel
theorem dX8_readsOn_163 : decode cX8_readsOn 163 = .ok (.getfield 93, 3) := by decide +kernel
theorem dX8_readsOn_166 : decode cX8_readsOn 166 = .ok (.aload_n 0, 1) := by decide +kernel
theorem dX8_readsOn_167 : decode cX8_readsOn 167 = .ok (.getfield 84, 3) := by decide +kernel
theorem dX8_readsOn_170 : decode cX8_readsOn 170 = .ok (.isub, 1) := by decide +kernel
theorem dX8_readsOn_171 : decode cX8_readsOn 171 = .ok (.iconst 3, 1) := by decide +kernel
theorem dX8_readsOn_172 : decode cX8_readsOn 172 = .ok (.if_icmp .ge 25, 3) := by decide +kernel
theorem dX8_readsOn_175 : decode cX8_readsOn 175 = .ok (.bipush 10, 2) := by decide +kernel
theorem dX8_readsOn_177 : decode cX8_readsOn 177 = .ok (.aload_n 0, 1) := by decide +kernel
theorem dX8_readsOn_178 : decode cX8_readsOn 178 = .ok (.getfield 100, 3) := by decide +kernel
theorem dX8_readsOn_181 : decode cX8_readsOn 181 = .ok (.imul, 1) := by decide +kernel
theorem dX8_readsOn_182 : decode cX8_readsOn 182 = .ok (.aload_n 0, 1) := by decide +kernel
theorem dX8_readsOn_183 : decode cX8_readsOn 183 = .ok (.aload_n 0, 1) := by decide +kernel
theorem dX8_readsOn_184 : decode cX8_readsOn 184 = .ok (.getfield 93, 3) := by decide +kernel
theorem dX8_readsOn_187 : decode cX8_readsOn 187 = .ok (.invokevirtual 96, 3) := by decide +kernel
theorem dX8_readsOn_190 : decode cX8_readsOn 190 = .ok (.iadd, 1) := by decide +kernel
theorem dX8_readsOn_191 : decode cX8_readsOn 191 = .ok (.bipush 48, 2) := by decide +kernel
theorem dX8_readsOn_193 : decode cX8_readsOn 193 = .ok (.isub, 1) := by decide +kernel
theorem dX8_readsOn_194 : decode cX8_readsOn 194 = .ok (.goto 7, 3) := by decide +kernel
theorem dX8_readsOn_197 : decode cX8_readsOn 197 = .ok (.aload_n 0, 1) := by decide +kernel
theorem dX8_readsOn_198 : decode cX8_readsOn 198 = .ok (.getfield 100, 3) := by decide +kernel
theorem dX8_readsOn_201 : decode cX8_readsOn 201 = .ok (.putfield 100, 3) := by decide +kernel
theorem dX8_readsOn_204 : decode cX8_readsOn 204 = .ok (.aload_n 0, 1) := by decide +kernel
theorem dX8_readsOn_205 : decode cX8_readsOn 205 = .ok (.dup, 1) := by decide +kernel
theorem dX8_readsOn_206 : decode cX8_readsOn 206 = .ok (.getfield 93, 3) := by decide +kernel
theorem dX8_readsOn_209 : decode cX8_readsOn 209 = .ok (.iconst 1, 1) := by decide +kernel
theorem dX8_readsOn_210 : decode cX8_readsOn 210 = .ok (.iadd, 1) := by decide +kernel
theorem dX8_readsOn_211 : decode cX8_readsOn 211 = .ok (.putfield 93, 3) := by decide +kernel
theorem dX8_readsOn_214 : decode cX8_readsOn 214 = .ok (.goto (-74), 3) := by decide +kernel
theorem dX8_readsOn_217 : decode cX8_readsOn 217 = .ok (.aload_n 0, 1) := by decide +kernel
theorem dX8_readsOn_218 : decode cX8_readsOn 218 = .ok (.iconst 2, 1) := by decide +kernel
theorem dX8_readsOn_219 : decode cX8_readsOn 219 = .ok (.putfield 90, 3) := by decide +kernel
theorem dX8_readsOn_222 : decode cX8_readsOn 222 = .ok (.aload_n 0, 1) := by decide +kernel
theorem dX8_readsOn_223 : decode cX8_readsOn 223 = .ok (.getfield 93, 3) := by decide +kernel
theorem dX8_readsOn_226 : decode cX8_readsOn 226 = .ok (.aload_n 0, 1) := by decide +kernel
theorem dX8_readsOn_227 : decode cX8_readsOn 227 = .ok (.getfield 84, 3) := by decide +kernel
theorem dX8_readsOn_230 : decode cX8_readsOn 230 = .ok (.isub, 1) := by decide +kernel
theorem dX8_readsOn_231 : decode cX8_readsOn 231 = .ok (.iconst 3, 1) := by decide +kernel
theorem dX8_readsOn_232 : decode cX8_readsOn 232 = .ok (.if_icmp .le 37, 3) := by decide +kernel
theorem dX8_readsOn_235 : decode cX8_readsOn 235 = .ok (.aload_n 0, 1) := by decide +kernel
theorem dX8_readsOn_236 : decode cX8_readsOn 236 = .ok (.iconst 1, 1) := by decide +kernel
theorem dX8_readsOn_237 : decode cX8_readsOn 237 = .ok (.invokevirtual 111, 3) := by decide +kernel
theorem dX8_readsOn_240 : decode cX8_readsOn 240 = .ok (.goto 29, 3) := by decide +kernel
theorem dX8_readsOn_243 : decode cX8_readsOn 243 = .ok (.aload_n 0, 1) := by decide +kernel
theorem dX8_readsOn_244 : decode cX8_readsOn 244 = .ok (.iconst 3, 1) := by decide +kernel
theorem dX8_readsOn_245 : decode cX8_readsOn 245 = .ok (.putfield 90, 3) := by decide +kernel
theorem dX8_readsOn_248 : decode cX8_readsOn 248 = .ok (.aload_n 0, 1) := by decide +kernel
theorem dX8_readsOn_249 : decode cX8_readsOn 249 = .ok (.dup, 1) := by decide +kernel
theorem dX8_readsOn_250 : decode cX8_readsOn 250 = .ok (.getfield 93, 3) := by decide +kernel
theorem dX8_readsOn_253 : decode cX8_readsOn 253 = .ok (.iconst 1, 1) := by decide +kernel
theorem dX8_readsOn_254 : decode cX8_readsOn 254 = .ok (.iadd, 1) := by decide +kernel
theorem dX8_readsOn_255 : decode cX8_readsOn 255 = .ok (.putfield 93, 3) := by decide +kernel
theorem dX8_readsOn_258 : decode cX8_readsOn 258 = .ok (.iload_n 1, 1) := by decide +kernel
theorem dX8_readsOn_259 : decode cX8_readsOn 259 = .ok (.bipush 59, 2) := by decide +kernel
theorem dX8_readsOn_261 : decode cX8_readsOn 261 = .ok (.if_icmp .eq 8, 3) := by decide +kernel
theorem dX8_readsOn_264 : decode cX8_readsOn 264 = .ok (.aload_n 0, 1) := by decide +kernel
theorem dX8_readsOn_265 : decode cX8_readsOn 265 = .ok (.iconst 1, 1) := by decide +kernel
theorem dX8_readsOn_266 : decode cX8_readsOn 266 = .ok (.invokevirtual 111, 3) := by decide +kernel
theorem dX8_readsOn_269 : decode cX8_readsOn 269 = .ok (.return_, 1) := by decide +kernel
theorem dX8_numberRead_0 : decode cX8_numberRead 0 = .ok (.aload_n 0, 1) := by decide +kernel
theorem dX8_numberRead_1 : decode cX8_numberRead 1 = .ok (.getfield 81, 3) := by decide +kernel
theorem dX8_numberRead_4 : decode cX8_numberRead 4 = .ok (.ifCond .ne 16, 3) := by decide +kernel
theorem dX8_numberRead_7 : decode cX8_numberRead 7 = .ok (.aload_n 0, 1) := by decide +kernel
theorem dX8_numberRead_8 : decode cX8_numberRead 8 = .ok (.getfield 90, 3) := by decide +kernel
theorem dX8_numberRead_11 : decode cX8_numberRead 11 = .ok (.iconst 2, 1) := by decide +kernel
theorem dX8_numberRead_12 : decode cX8_numberRead 12 = .ok (.if_icmp .eq 8, 3) := by decide +kernel
theorem dX8_numberRead_15 : decode cX8_numberRead 15 = .ok (.aload_n 0, 1) := by decide +kernel
theorem dX8_numberRead_16 : decode cX8_numberRead 16 = .ok (.iconst 2, 1) := by decide +kernel
theorem dX8_numberRead_17 : decode cX8_numberRead 17 = .ok (.invokevirtual 111, 3) := by decide +kernel
theorem dX8_numberRead_20 : decode cX8_numberRead 20 = .ok (.aload_n 0, 1) := by decide +kernel
theorem dX8_numberRead_21 : decode cX8_numberRead 21 = .ok (.getfield 81, 3) := by decide +kernel
theorem dX8_numberRead_24 : decode cX8_numberRead 24 = .ok (.ifCond .ne 23, 3) := by decide +kernel
theorem dX8_numberRead_27 : decode cX8_numberRead 27 = .ok (.aload_n 0, 1) := by decide +kernel
theorem dX8_numberRead_28 : decode cX8_numberRead 28 = .ok (.getfield 100, 3) := by decide +kernel
theorem dX8_numberRead_31 : decode cX8_numberRead 31 = .ok (.i2l, 1) := by decide +kernel
theorem dX8_numberRead_32 : decode cX8_numberRead 32 = .ok (.iload_n 1, 1) := by decide +kernel
theorem dX8_numberRead_33 : decode cX8_numberRead 33 = .ok (.i2l, 1) := by decide +kernel
theorem dX8_numberRead_34 : decode cX8_numberRead 34 = .ok (.iload_n 2, 1) := by decide +kernel
theorem dX8_numberRead_35 : decode cX8_numberRead 35 = .ok (.i2l, 1) := by decide +kernel
theorem dX8_numberRead_36 : decode cX8_numberRead 36 = .ok (.invokestatic 73, 3) := by decide +kernel
theorem dX8_numberRead_39 : decode cX8_numberRead 39 = .ok (.ifCond .ne 8, 3) := by decide +kernel
theorem dX8_numberRead_42 : decode cX8_numberRead 42 = .ok (.aload_n 0, 1) := by decide +kernel
theorem dX8_numberRead_43 : decode cX8_numberRead 43 = .ok (.iconst 3, 1) := by decide +kernel
theorem dX8_numberRead_44 : decode cX8_numberRead 44 = .ok (.invokevirtual 111, 3) := by decide +kernel
theorem dX8_numberRead_47 : decode cX8_numberRead 47 = .ok (.aload_n 0, 1) := by decide +kernel
theorem dX8_numberRead_48 : decode cX8_numberRead 48 = .ok (.getfield 81, 3) := by decide +kernel
theorem dX8_numberRead_51 : decode cX8_numberRead 51 = .ok (.ifCond .ne 10, 3) := by decide +kernel
theorem dX8_numberRead_54 : decode cX8_numberRead 54 = .ok (.aload_n 0, 1) := by decide +kernel
theorem dX8_numberRead_55 : decode cX8_numberRead 55 = .ok (.getfield 100, 3) := by decide +kernel
theorem dX8_numberRead_58 : decode cX8_numberRead 58 = .ok (.goto 4, 3) := by decide +kernel
theorem dX8_numberRead_61 : decode cX8_numberRead 61 = .ok (.iload_n 1, 1) := by decide +kernel
theorem dX8_numberRead_62 : decode cX8_numberRead 62 = .ok (.istore_n 3, 1) := by decide +kernel
theorem dX8_numberRead_63 : decode cX8_numberRead 63 = .ok (.aload_n 0, 1) := by decide +kernel
theorem dX8_numberRead_64 : decode cX8_numberRead 64 = .ok (.invokevirtual 115, 3) := by decide +kernel
theorem dX8_numberRead_67 : decode cX8_numberRead 67 = .ok (.iload_n 3, 1) := by decide +kernel
theorem dX8_numberRead_68 : decode cX8_numberRead 68 = .ok (.ireturn, 1) := by decide +kernel
theorem dX8_operandsOf_0 : decode cX8_operandsOf 0 = .ok (.iload_n 0, 1) := by decide +kernel
theorem dX8_operandsOf_1 : decode cX8_operandsOf 1 = .ok (.ifCond .ne 7, 3) := by decide +kernel
theorem dX8_operandsOf_4 : decode cX8_operandsOf 4 = .ok (.iconst 0, 1) := by decide +kernel
theorem dX8_operandsOf_5 : decode cX8_operandsOf 5 = .ok (.goto 28, 3) := by decide +kernel
theorem dX8_operandsOf_8 : decode cX8_operandsOf 8 = .ok (.iload_n 0, 1) := by decide +kernel
theorem dX8_operandsOf_9 : decode cX8_operandsOf 9 = .ok (.iconst 1, 1) := by decide +kernel
theorem dX8_operandsOf_10 : decode cX8_operandsOf 10 = .ok (.if_icmp .eq 8, 3) := by decide +kernel
theorem dX8_operandsOf_13 : decode cX8_operandsOf 13 = .ok (.iload_n 0, 1) := by decide +kernel
theorem dX8_operandsOf_14 : decode cX8_operandsOf 14 = .ok (.iconst 5, 1) := by decide +kernel
theorem dX8_operandsOf_15 : decode cX8_operandsOf 15 = .ok (.if_icmp .ne 7, 3) := by decide +kernel
theorem dX8_operandsOf_18 : decode cX8_operandsOf 18 = .ok (.iconst 1, 1) := by decide +kernel
theorem dX8_operandsOf_19 : decode cX8_operandsOf 19 = .ok (.goto 14, 3) := by decide +kernel
theorem dX8_operandsOf_22 : decode cX8_operandsOf 22 = .ok (.iload_n 0, 1) := by decide +kernel
theorem dX8_operandsOf_23 : decode cX8_operandsOf 23 = .ok (.bipush 8, 2) := by decide +kernel
theorem dX8_operandsOf_25 : decode cX8_operandsOf 25 = .ok (.if_icmp .ne 7, 3) := by decide +kernel
theorem dX8_operandsOf_28 : decode cX8_operandsOf 28 = .ok (.iconst 3, 1) := by decide +kernel
theorem dX8_operandsOf_29 : decode cX8_operandsOf 29 = .ok (.goto 4, 3) := by decide +kernel
theorem dX8_operandsOf_32 : decode cX8_operandsOf 32 = .ok (.iconst 2, 1) := by decide +kernel
theorem dX8_operandsOf_33 : decode cX8_operandsOf 33 = .ok (.ireturn, 1) := by decide +kernel
theorem dX8_readLine_0 : decode cX8_readLine 0 = .ok (.aload_n 0, 1) := by decide +kernel
theorem dX8_readLine_1 : decode cX8_readLine 1 = .ok (.invokevirtual 118, 3) := by decide +kernel
theorem dX8_readLine_4 : decode cX8_readLine 4 = .ok (.istore_n 1, 1) := by decide +kernel
theorem dX8_readLine_5 : decode cX8_readLine 5 = .ok (.iload_n 1, 1) := by decide +kernel
theorem dX8_readLine_6 : decode cX8_readLine 6 = .ok (.bipush (-4), 2) := by decide +kernel
theorem dX8_readLine_8 : decode cX8_readLine 8 = .ok (.if_icmp .ne 9, 3) := by decide +kernel
theorem dX8_readLine_11 : decode cX8_readLine 11 = .ok (.aload_n 0, 1) := by decide +kernel
theorem dX8_readLine_12 : decode cX8_readLine 12 = .ok (.iconst 2, 1) := by decide +kernel
theorem dX8_readLine_13 : decode cX8_readLine 13 = .ok (.invokevirtual 111, 3) := by decide +kernel
theorem dX8_readLine_16 : decode cX8_readLine 16 = .ok (.return_, 1) := by decide +kernel
theorem dX8_readLine_17 : decode cX8_readLine 17 = .ok (.aload_n 0, 1) := by decide +kernel
theorem dX8_readLine_18 : decode cX8_readLine 18 = .ok (.invokevirtual 115, 3) := by decide +kernel
theorem dX8_readLine_21 : decode cX8_readLine 21 = .ok (.aload_n 0, 1) := by decide +kernel
theorem dX8_readLine_22 : decode cX8_readLine 22 = .ok (.iconst 0, 1) := by decide +kernel
theorem dX8_readLine_23 : decode cX8_readLine 23 = .ok (.bipush 29, 2) := by decide +kernel
theorem dX8_readLine_25 : decode cX8_readLine 25 = .ok (.invokevirtual 122, 3) := by decide +kernel
theorem dX8_readLine_28 : decode cX8_readLine 28 = .ok (.istore_n 2, 1) := by decide +kernel
theorem dX8_readLine_29 : decode cX8_readLine 29 = .ok (.iconst 1, 1) := by decide +kernel
theorem dX8_readLine_30 : decode cX8_readLine 30 = .ok (.istore_n 3, 1) := by decide +kernel
theorem dX8_readLine_31 : decode cX8_readLine 31 = .ok (.iload_n 3, 1) := by decide +kernel
theorem dX8_readLine_32 : decode cX8_readLine 32 = .ok (.iconst 4, 1) := by decide +kernel
theorem dX8_readLine_33 : decode cX8_readLine 33 = .ok (.if_icmp .ge 25, 3) := by decide +kernel
theorem dX8_readLine_36 : decode cX8_readLine 36 = .ok (.aload_n 0, 1) := by decide +kernel
theorem dX8_readLine_37 : decode cX8_readLine 37 = .ok (.getfield 7, 3) := by decide +kernel
theorem dX8_readLine_40 : decode cX8_readLine 40 = .ok (.sipush 360, 3) := by decide +kernel
theorem dX8_readLine_43 : decode cX8_readLine 43 = .ok (.bipush 30, 2) := by decide +kernel
theorem dX8_readLine_45 : decode cX8_readLine 45 = .ok (.iload_n 3, 1) := by decide +kernel
theorem dX8_readLine_46 : decode cX8_readLine 46 = .ok (.imul, 1) := by decide +kernel
theorem dX8_readLine_47 : decode cX8_readLine 47 = .ok (.iadd, 1) := by decide +kernel
theorem dX8_readLine_48 : decode cX8_readLine 48 = .ok (.iload_n 2, 1) := by decide +kernel
theorem dX8_readLine_49 : decode cX8_readLine 49 = .ok (.iadd, 1) := by decide +kernel
theorem dX8_readLine_50 : decode cX8_readLine 50 = .ok (.iconst 0, 1) := by decide +kernel
theorem dX8_readLine_51 : decode cX8_readLine 51 = .ok (.iastore, 1) := by decide +kernel
theorem dX8_readLine_52 : decode cX8_readLine 52 = .ok (.iinc 3 1, 3) := by decide +kernel
theorem dX8_readLine_55 : decode cX8_readLine 55 = .ok (.goto (-24), 3) := by decide +kernel
theorem dX8_readLine_58 : decode cX8_readLine 58 = .ok (.aload_n 0, 1) := by decide +kernel
theorem dX8_readLine_59 : decode cX8_readLine 59 = .ok (.getfield 7, 3) := by decide +kernel
theorem dX8_readLine_62 : decode cX8_readLine 62 = .ok (.sipush 360, 3) := by decide +kernel
theorem dX8_readLine_65 : decode cX8_readLine 65 = .ok (.iload_n 2, 1) := by decide +kernel
theorem dX8_readLine_66 : decode cX8_readLine 66 = .ok (.iadd, 1) := by decide +kernel
theorem dX8_readLine_67 : decode cX8_readLine 67 = .ok (.iload_n 1, 1) := by decide +kernel
theorem dX8_readLine_68 : decode cX8_readLine 68 = .ok (.iastore, 1) := by decide +kernel
theorem dX8_readLine_69 : decode cX8_readLine 69 = .ok (.aload_n 0, 1) := by decide +kernel
theorem dX8_readLine_70 : decode cX8_readLine 70 = .ok (.iconst 0, 1) := by decide +kernel
theorem dX8_readLine_71 : decode cX8_readLine 71 = .ok (.iload_n 1, 1) := by decide +kernel
theorem dX8_readLine_72 : decode cX8_readLine 72 = .ok (.iconst 1, 1) := by decide +kernel
theorem dX8_readLine_73 : decode cX8_readLine 73 = .ok (.if_icmp .ne 9, 3) := by decide +kernel
theorem dX8_readLine_76 : decode cX8_readLine 76 = .ok (.sipush 999, 3) := by decide +kernel
theorem dX8_readLine_79 : decode cX8_readLine 79 = .ok (.goto 5, 3) := by decide +kernel
theorem dX8_readLine_82 : decode cX8_readLine 82 = .ok (.bipush 29, 2) := by decide +kernel
theorem dX8_readLine_84 : decode cX8_readLine 84 = .ok (.invokevirtual 122, 3) := by decide +kernel
theorem dX8_readLine_87 : decode cX8_readLine 87 = .ok (.istore_n 3, 1) := by decide +kernel
theorem dX8_readLine_88 : decode cX8_readLine 88 = .ok (.aload_n 0, 1) := by decide +kernel
theorem dX8_readLine_89 : decode cX8_readLine 89 = .ok (.getfield 7, 3) := by decide +kernel
theorem dX8_readLine_92 : decode cX8_readLine 92 = .ok (.sipush 390, 3) := by decide +kernel
theorem dX8_readLine_95 : decode cX8_readLine 95 = .ok (.iload_n 2, 1) := by decide +kernel
theorem dX8_readLine_96 : decode cX8_readLine 96 = .ok (.iadd, 1) := by decide +kernel
theorem dX8_readLine_97 : decode cX8_readLine 97 = .ok (.iload_n 3, 1) := by decide +kernel
theorem dX8_readLine_98 : decode cX8_readLine 98 = .ok (.iastore, 1) := by decide +kernel
theorem dX8_readLine_99 : decode cX8_readLine 99 = .ok (.iconst 2, 1) := by decide +kernel
theorem dX8_readLine_100 : decode cX8_readLine 100 = .ok (.istore 4, 2) := by decide +kernel
theorem dX8_readLine_102 : decode cX8_readLine 102 = .ok (.iload 4, 2) := by decide +kernel
theorem dX8_readLine_104 : decode cX8_readLine 104 = .ok (.iload_n 1, 1) := by decide +kernel
theorem dX8_readLine_105 : decode cX8_readLine 105 = .ok (.invokestatic 126, 3) := by decide +kernel
theorem dX8_readLine_108 : decode cX8_readLine 108 = .ok (.if_icmp .gt 48, 3) := by decide +kernel
theorem dX8_readLine_111 : decode cX8_readLine 111 = .ok (.aload_n 0, 1) := by decide +kernel
theorem dX8_readLine_112 : decode cX8_readLine 112 = .ok (.getfield 7, 3) := by decide +kernel
theorem dX8_readLine_115 : decode cX8_readLine 115 = .ok (.sipush 360, 3) := by decide +kernel
theorem dX8_readLine_118 : decode cX8_readLine 118 = .ok (.bipush 30, 2) := by decide +kernel
theorem dX8_readLine_120 : decode cX8_readLine 120 = .ok (.iload 4, 2) := by decide +kernel
theorem dX8_readLine_122 : decode cX8_readLine 122 = .ok (.imul, 1) := by decide +kernel
theorem dX8_readLine_123 : decode cX8_readLine 123 = .ok (.iadd, 1) := by decide +kernel
theorem dX8_readLine_124 : decode cX8_readLine 124 = .ok (.iload_n 2, 1) := by decide +kernel
theorem dX8_readLine_125 : decode cX8_readLine 125 = .ok (.iadd, 1) := by decide +kernel
theorem dX8_readLine_126 : decode cX8_readLine 126 = .ok (.aload_n 0, 1) := by decide +kernel
theorem dX8_readLine_127 : decode cX8_readLine 127 = .ok (.iload_n 1, 1) := by decide +kernel
theorem dX8_readLine_128 : decode cX8_readLine 128 = .ok (.bipush 6, 2) := by decide +kernel
theorem dX8_readLine_130 : decode cX8_readLine 130 = .ok (.if_icmp .eq 9, 3) := by decide +kernel
theorem dX8_readLine_133 : decode cX8_readLine 133 = .ok (.iload_n 1, 1) := by decide +kernel
theorem dX8_readLine_134 : decode cX8_readLine 134 = .ok (.bipush 7, 2) := by decide +kernel
theorem dX8_readLine_136 : decode cX8_readLine 136 = .ok (.if_icmp .ne 7, 3) := by decide +kernel
theorem dX8_readLine_139 : decode cX8_readLine 139 = .ok (.iload_n 3, 1) := by decide +kernel
theorem dX8_readLine_140 : decode cX8_readLine 140 = .ok (.goto 4, 3) := by decide +kernel
theorem dX8_readLine_143 : decode cX8_readLine 143 = .ok (.iconst 0, 1) := by decide +kernel
theorem dX8_readLine_144 : decode cX8_readLine 144 = .ok (.bipush 29, 2) := by decide +kernel
theorem dX8_readLine_146 : decode cX8_readLine 146 = .ok (.invokevirtual 122, 3) := by decide +kernel
theorem dX8_readLine_149 : decode cX8_readLine 149 = .ok (.iastore, 1) := by decide +kernel
theorem dX8_readLine_150 : decode cX8_readLine 150 = .ok (.iinc 4 1, 3) := by decide +kernel
theorem dX8_readLine_153 : decode cX8_readLine 153 = .ok (.goto (-51), 3) := by decide +kernel
theorem dX8_readLine_156 : decode cX8_readLine 156 = .ok (.aload_n 0, 1) := by decide +kernel
theorem dX8_readLine_157 : decode cX8_readLine 157 = .ok (.getfield 81, 3) := by decide +kernel
theorem dX8_readLine_160 : decode cX8_readLine 160 = .ok (.ifCond .ne 16, 3) := by decide +kernel
theorem dX8_readLine_163 : decode cX8_readLine 163 = .ok (.aload_n 0, 1) := by decide +kernel
theorem dX8_readLine_164 : decode cX8_readLine 164 = .ok (.getfield 90, 3) := by decide +kernel
theorem dX8_readLine_167 : decode cX8_readLine 167 = .ok (.iconst 3, 1) := by decide +kernel
theorem dX8_readLine_168 : decode cX8_readLine 168 = .ok (.if_icmp .eq 8, 3) := by decide +kernel
theorem dX8_readLine_171 : decode cX8_readLine 171 = .ok (.aload_n 0, 1) := by decide +kernel
theorem dX8_readLine_172 : decode cX8_readLine 172 = .ok (.iconst 2, 1) := by decide +kernel
theorem dX8_readLine_173 : decode cX8_readLine 173 = .ok (.invokevirtual 111, 3) := by decide +kernel
theorem dX8_readLine_176 : decode cX8_readLine 176 = .ok (.aload_n 0, 1) := by decide +kernel
theorem dX8_readLine_177 : decode cX8_readLine 177 = .ok (.invokevirtual 115, 3) := by decide +kernel
theorem dX8_readLine_180 : decode cX8_readLine 180 = .ok (.return_, 1) := by decide +kernel
theorem dX8_text_0 : decode cX8_text 0 = .ok (.aload_n 0, 1) := by decide +kernel
theorem dX8_text_1 : decode cX8_text 1 = .ok (.iconst 0, 1) := by decide +kernel
theorem dX8_text_2 : decode cX8_text 2 = .ok (.putfield 81, 3) := by decide +kernel
theorem dX8_text_5 : decode cX8_text 5 = .ok (.aload_n 0, 1) := by decide +kernel
theorem dX8_text_6 : decode cX8_text 6 = .ok (.iconst 0, 1) := by decide +kernel
theorem dX8_text_7 : decode cX8_text 7 = .ok (.putfield 93, 3) := by decide +kernel
theorem dX8_text_10 : decode cX8_text 10 = .ok (.iconst 0, 1) := by decide +kernel
theorem dX8_text_11 : decode cX8_text 11 = .ok (.istore_n 1, 1) := by decide +kernel
theorem dX8_text_12 : decode cX8_text 12 = .ok (.iconst 0, 1) := by decide +kernel
theorem dX8_text_13 : decode cX8_text 13 = .ok (.istore_n 2, 1) := by decide +kernel
theorem dX8_text_14 : decode cX8_text 14 = .ok (.iload_n 2, 1) := by decide +kernel
theorem dX8_text_15 : decode cX8_text 15 = .ok (.bipush 120, 2) := by decide +kernel
theorem dX8_text_17 : decode cX8_text 17 = .ok (.if_icmp .ge 20, 3) := by decide +kernel
theorem dX8_text_20 : decode cX8_text 20 = .ok (.aload_n 0, 1) := by decide +kernel
theorem dX8_text_21 : decode cX8_text 21 = .ok (.getfield 7, 3) := by decide +kernel
theorem dX8_text_24 : decode cX8_text 24 = .ok (.sipush 360, 3) := by decide +kernel
theorem dX8_text_27 : decode cX8_text 27 = .ok (.iload_n 2, 1) := by decide +kernel
theorem dX8_text_28 : decode cX8_text 28 = .ok (.iadd, 1) := by decide +kernel
theorem dX8_text_29 : decode cX8_text 29 = .ok (.iconst 0, 1) := by decide +kernel
theorem dX8_text_30 : decode cX8_text 30 = .ok (.iastore, 1) := by decide +kernel
theorem dX8_text_31 : decode cX8_text 31 = .ok (.iinc 2 1, 3) := by decide +kernel
theorem dX8_text_34 : decode cX8_text 34 = .ok (.goto (-20), 3) := by decide +kernel
theorem dX8_text_37 : decode cX8_text 37 = .ok (.aload_n 0, 1) := by decide +kernel
theorem dX8_text_38 : decode cX8_text 38 = .ok (.invokevirtual 115, 3) := by decide +kernel
theorem dX8_text_41 : decode cX8_text 41 = .ok (.aload_n 0, 1) := by decide +kernel
theorem dX8_text_42 : decode cX8_text 42 = .ok (.getfield 81, 3) := by decide +kernel
theorem dX8_text_45 : decode cX8_text 45 = .ok (.ifCond .ne 20, 3) := by decide +kernel
theorem dX8_text_48 : decode cX8_text 48 = .ok (.aload_n 0, 1) := by decide +kernel
theorem dX8_text_49 : decode cX8_text 49 = .ok (.getfield 90, 3) := by decide +kernel
theorem dX8_text_52 : decode cX8_text 52 = .ok (.ifCond .eq 13, 3) := by decide +kernel
theorem dX8_text_55 : decode cX8_text 55 = .ok (.aload_n 0, 1) := by decide +kernel
theorem dX8_text_56 : decode cX8_text 56 = .ok (.invokevirtual 129, 3) := by decide +kernel
theorem dX8_text_59 : decode cX8_text 59 = .ok (.iinc 1 1, 3) := by decide +kernel
theorem dX8_text_62 : decode cX8_text 62 = .ok (.goto (-21), 3) := by decide +kernel
theorem dX8_text_65 : decode cX8_text 65 = .ok (.aload_n 0, 1) := by decide +kernel
theorem dX8_text_66 : decode cX8_text 66 = .ok (.iconst 0, 1) := by decide +kernel
theorem dX8_text_67 : decode cX8_text 67 = .ok (.putfield 77, 3) := by decide +kernel
theorem dX8_text_70 : decode cX8_text 70 = .ok (.aload_n 0, 1) := by decide +kernel
theorem dX8_text_71 : decode cX8_text 71 = .ok (.aload_n 0, 1) := by decide +kernel
theorem dX8_text_72 : decode cX8_text 72 = .ok (.getfield 81, 3) := by decide +kernel
theorem dX8_text_75 : decode cX8_text 75 = .ok (.putfield 132, 3) := by decide +kernel
theorem dX8_text_78 : decode cX8_text 78 = .ok (.aload_n 0, 1) := by decide +kernel
theorem dX8_text_79 : decode cX8_text 79 = .ok (.getfield 81, 3) := by decide +kernel
theorem dX8_text_82 : decode cX8_text 82 = .ok (.ifCond .le 11, 3) := by decide +kernel
theorem dX8_text_85 : decode cX8_text 85 = .ok (.bipush (-10), 2) := by decide +kernel
theorem dX8_text_87 : decode cX8_text 87 = .ok (.aload_n 0, 1) := by decide +kernel
theorem dX8_text_88 : decode cX8_text 88 = .ok (.getfield 87, 3) := by decide +kernel
theorem dX8_text_91 : decode cX8_text 91 = .ok (.isub, 1) := by decide +kernel
theorem dX8_text_92 : decode cX8_text 92 = .ok (.ireturn, 1) := by decide +kernel
theorem dX8_text_93 : decode cX8_text 93 = .ok (.aload_n 0, 1) := by decide +kernel
theorem dX8_text_94 : decode cX8_text 94 = .ok (.sipush 360, 3) := by decide +kernel
theorem dX8_text_97 : decode cX8_text 97 = .ok (.iconst 0, 1) := by decide +kernel
theorem dX8_text_98 : decode cX8_text 98 = .ok (.invokevirtual 135, 3) := by decide +kernel
theorem dX8_text_101 : decode cX8_text 101 = .ok (.aload_n 0, 1) := by decide +kernel
theorem dX8_text_102 : decode cX8_text 102 = .ok (.invokevirtual 139, 3) := by decide +kernel
theorem dX8_text_105 : decode cX8_text 105 = .ok (.aload_n 0, 1) := by decide +kernel
theorem dX8_text_106 : decode cX8_text 106 = .ok (.iconst 0, 1) := by decide +kernel
theorem dX8_text_107 : decode cX8_text 107 = .ok (.putfield 142, 3) := by decide +kernel
theorem dX8_text_110 : decode cX8_text 110 = .ok (.aload_n 0, 1) := by decide +kernel
theorem dX8_text_111 : decode cX8_text 111 = .ok (.iconst 0, 1) := by decide +kernel
theorem dX8_text_112 : decode cX8_text 112 = .ok (.putfield 146, 3) := by decide +kernel
theorem dX8_text_115 : decode cX8_text 115 = .ok (.aload_n 0, 1) := by decide +kernel
theorem dX8_text_116 : decode cX8_text 116 = .ok (.getfield 59, 3) := by decide +kernel
theorem dX8_text_119 : decode cX8_text 119 = .ok (.iconst 0, 1) := by decide +kernel
theorem dX8_text_120 : decode cX8_text 120 = .ok (.iconst 0, 1) := by decide +kernel
theorem dX8_text_121 : decode cX8_text 121 = .ok (.bastore, 1) := by decide +kernel
theorem dX8_text_122 : decode cX8_text 122 = .ok (.aload_n 0, 1) := by decide +kernel
theorem dX8_text_123 : decode cX8_text 123 = .ok (.getfield 59, 3) := by decide +kernel
theorem dX8_text_126 : decode cX8_text 126 = .ok (.iconst 1, 1) := by decide +kernel
theorem dX8_text_127 : decode cX8_text 127 = .ok (.iconst 0, 1) := by decide +kernel
theorem dX8_text_128 : decode cX8_text 128 = .ok (.bastore, 1) := by decide +kernel
theorem dX8_text_129 : decode cX8_text 129 = .ok (.iload_n 1, 1) := by decide +kernel
theorem dX8_text_130 : decode cX8_text 130 = .ok (.ireturn, 1) := by decide +kernel
theorem dX8_fault_0 : decode cX8_fault 0 = .ok (.aload_n 0, 1) := by decide +kernel
theorem dX8_fault_1 : decode cX8_fault 1 = .ok (.getfield 132, 3) := by decide +kernel
theorem dX8_fault_4 : decode cX8_fault 4 = .ok (.ireturn, 1) := by decide +kernel
theorem dX8_copies_0 : decode cX8_copies 0 = .ok (.iconst 0, 1) := by decide +kernel
theorem dX8_copies_1 : decode cX8_copies 1 = .ok (.istore_n 3, 1) := by decide +kernel
theorem dX8_copies_2 : decode cX8_copies 2 = .ok (.iload_n 3, 1) := by decide +kernel
theorem dX8_copies_3 : decode cX8_copies 3 = .ok (.bipush 120, 2) := by decide +kernel
theorem dX8_copies_5 : decode cX8_copies 5 = .ok (.if_icmp .ge 25, 3) := by decide +kernel
theorem dX8_copies_8 : decode cX8_copies 8 = .ok (.aload_n 0, 1) := by decide +kernel
theorem dX8_copies_9 : decode cX8_copies 9 = .ok (.getfield 7, 3) := by decide +kernel
theorem dX8_copies_12 : decode cX8_copies 12 = .ok (.iload_n 2, 1) := by decide +kernel
theorem dX8_copies_13 : decode cX8_copies 13 = .ok (.iload_n 3, 1) := by decide +kernel
theorem dX8_copies_14 : decode cX8_copies 14 = .ok (.iadd, 1) := by decide +kernel
theorem dX8_copies_15 : decode cX8_copies 15 = .ok (.aload_n 0, 1) := by decide +kernel
theorem dX8_copies_16 : decode cX8_copies 16 = .ok (.getfield 7, 3) := by decide +kernel
theorem dX8_copies_19 : decode cX8_copies 19 = .ok (.iload_n 1, 1) := by decide +kernel
theorem dX8_copies_20 : decode cX8_copies 20 = .ok (.iload_n 3, 1) := by decide +kernel
theorem dX8_copies_21 : decode cX8_copies 21 = .ok (.iadd, 1) := by decide +kernel
theorem dX8_copies_22 : decode cX8_copies 22 = .ok (.iaload, 1) := by decide +kernel
theorem dX8_copies_23 : decode cX8_copies 23 = .ok (.iastore, 1) := by decide +kernel
theorem dX8_copies_24 : decode cX8_copies 24 = .ok (.iinc 3 1, 3) := by decide +kernel
theorem dX8_copies_27 : decode cX8_copies 27 = .ok (.goto (-25), 3) := by decide +kernel
theorem dX8_copies_30 : decode cX8_copies 30 = .ok (.return_, 1) := by decide +kernel
theorem dX8_isReadBy_0 : decode cX8_isReadBy 0 = .ok (.aload_n 0, 1) := by decide +kernel
theorem dX8_isReadBy_1 : decode cX8_isReadBy 1 = .ok (.getfield 29, 3) := by decide +kernel
theorem dX8_isReadBy_4 : decode cX8_isReadBy 4 = .ok (.iload_n 1, 1) := by decide +kernel
theorem dX8_isReadBy_5 : decode cX8_isReadBy 5 = .ok (.iaload, 1) := by decide +kernel
theorem dX8_isReadBy_6 : decode cX8_isReadBy 6 = .ok (.bipush (-4), 2) := by decide +kernel
theorem dX8_isReadBy_8 : decode cX8_isReadBy 8 = .ok (.if_icmp .eq 5, 3) := by decide +kernel
theorem dX8_isReadBy_11 : decode cX8_isReadBy 11 = .ok (.iconst 0, 1) := by decide +kernel
theorem dX8_isReadBy_12 : decode cX8_isReadBy 12 = .ok (.ireturn, 1) := by decide +kernel
theorem dX8_isReadBy_13 : decode cX8_isReadBy 13 = .ok (.iconst 0, 1) := by decide +kernel
theorem dX8_isReadBy_14 : decode cX8_isReadBy 14 = .ok (.istore_n 3, 1) := by decide +kernel
theorem dX8_isReadBy_15 : decode cX8_isReadBy 15 = .ok (.iconst 0, 1) := by decide +kernel
theorem dX8_isReadBy_16 : decode cX8_isReadBy 16 = .ok (.istore 4, 2) := by decide +kernel
theorem dX8_isReadBy_18 : decode cX8_isReadBy 18 = .ok (.iload 4, 2) := by decide +kernel
theorem dX8_isReadBy_20 : decode cX8_isReadBy 20 = .ok (.aload_n 0, 1) := by decide +kernel
theorem dX8_isReadBy_21 : decode cX8_isReadBy 21 = .ok (.getfield 35, 3) := by decide +kernel
theorem dX8_isReadBy_24 : decode cX8_isReadBy 24 = .ok (.iload_n 1, 1) := by decide +kernel
theorem dX8_isReadBy_25 : decode cX8_isReadBy 25 = .ok (.iaload, 1) := by decide +kernel
theorem dX8_isReadBy_26 : decode cX8_isReadBy 26 = .ok (.if_icmp .ge 35, 3) := by decide +kernel
theorem dX8_isReadBy_29 : decode cX8_isReadBy 29 = .ok (.iload_n 3, 1) := by decide +kernel
theorem dX8_isReadBy_30 : decode cX8_isReadBy 30 = .ok (.ifCond .ne 19, 3) := by decide +kernel
theorem dX8_isReadBy_33 : decode cX8_isReadBy 33 = .ok (.aload_n 0, 1) := by decide +kernel
theorem dX8_isReadBy_34 : decode cX8_isReadBy 34 = .ok (.getfield 32, 3) := by decide +kernel
theorem dX8_isReadBy_37 : decode cX8_isReadBy 37 = .ok (.bipush 30, 2) := by decide +kernel
theorem dX8_isReadBy_39 : decode cX8_isReadBy 39 = .ok (.iload_n 1, 1) := by decide +kernel
theorem dX8_isReadBy_40 : decode cX8_isReadBy 40 = .ok (.imul, 1) := by decide +kernel
theorem dX8_isReadBy_41 : decode cX8_isReadBy 41 = .ok (.iload 4, 2) := by decide +kernel
theorem dX8_isReadBy_43 : decode cX8_isReadBy 43 = .ok (.iadd, 1) := by decide +kernel
theorem dX8_isReadBy_44 : decode cX8_isReadBy 44 = .ok (.iaload, 1) := by decide +kernel
theorem dX8_isReadBy_45 : decode cX8_isReadBy 45 = .ok (.iload_n 2, 1) := by decide +kernel
theorem dX8_isReadBy_46 : decode cX8_isReadBy 46 = .ok (.if_icmp .ne 7, 3) := by decide +kernel
theorem dX8_isReadBy_49 : decode cX8_isReadBy 49 = .ok (.iconst 1, 1) := by decide +kernel
theorem dX8_isReadBy_50 : decode cX8_isReadBy 50 = .ok (.goto 4, 3) := by decide +kernel
theorem dX8_isReadBy_53 : decode cX8_isReadBy 53 = .ok (.iconst 0, 1) := by decide +kernel
theorem dX8_isReadBy_54 : decode cX8_isReadBy 54 = .ok (.istore_n 3, 1) := by decide +kernel
theorem dX8_isReadBy_55 : decode cX8_isReadBy 55 = .ok (.iinc 4 1, 3) := by decide +kernel
theorem dX8_isReadBy_58 : decode cX8_isReadBy 58 = .ok (.goto (-40), 3) := by decide +kernel
theorem dX8_isReadBy_61 : decode cX8_isReadBy 61 = .ok (.iload_n 3, 1) := by decide +kernel
theorem dX8_isReadBy_62 : decode cX8_isReadBy 62 = .ok (.ifCond .ne 30, 3) := by decide +kernel
theorem dX8_isReadBy_65 : decode cX8_isReadBy 65 = .ok (.aload_n 0, 1) := by decide +kernel
theorem dX8_isReadBy_66 : decode cX8_isReadBy 66 = .ok (.getfield 32, 3) := by decide +kernel
theorem dX8_isReadBy_69 : decode cX8_isReadBy 69 = .ok (.bipush 30, 2) := by decide +kernel
theorem dX8_isReadBy_71 : decode cX8_isReadBy 71 = .ok (.iload_n 1, 1) := by decide +kernel
theorem dX8_isReadBy_72 : decode cX8_isReadBy 72 = .ok (.imul, 1) := by decide +kernel
theorem dX8_isReadBy_73 : decode cX8_isReadBy 73 = .ok (.aload_n 0, 1) := by decide +kernel
theorem dX8_isReadBy_74 : decode cX8_isReadBy 74 = .ok (.getfield 35, 3) := by decide +kernel
theorem dX8_isReadBy_77 : decode cX8_isReadBy 77 = .ok (.iload_n 1, 1) := by decide +kernel
theorem dX8_isReadBy_78 : decode cX8_isReadBy 78 = .ok (.iaload, 1) := by decide +kernel
theorem dX8_isReadBy_79 : decode cX8_isReadBy 79 = .ok (.iadd, 1) := by decide +kernel
theorem dX8_isReadBy_80 : decode cX8_isReadBy 80 = .ok (.iload_n 2, 1) := by decide +kernel
theorem dX8_isReadBy_81 : decode cX8_isReadBy 81 = .ok (.iastore, 1) := by decide +kernel
theorem dX8_isReadBy_82 : decode cX8_isReadBy 82 = .ok (.aload_n 0, 1) := by decide +kernel
theorem dX8_isReadBy_83 : decode cX8_isReadBy 83 = .ok (.getfield 35, 3) := by decide +kernel
theorem dX8_isReadBy_86 : decode cX8_isReadBy 86 = .ok (.iload_n 1, 1) := by decide +kernel
theorem dX8_isReadBy_87 : decode cX8_isReadBy 87 = .ok (.dup2, 1) := by decide +kernel
theorem dX8_isReadBy_88 : decode cX8_isReadBy 88 = .ok (.iaload, 1) := by decide +kernel
theorem dX8_isReadBy_89 : decode cX8_isReadBy 89 = .ok (.iconst 1, 1) := by decide +kernel
theorem dX8_isReadBy_90 : decode cX8_isReadBy 90 = .ok (.iadd, 1) := by decide +kernel
theorem dX8_isReadBy_91 : decode cX8_isReadBy 91 = .ok (.iastore, 1) := by decide +kernel
theorem dX8_isReadBy_92 : decode cX8_isReadBy 92 = .ok (.aload_n 0, 1) := by decide +kernel
theorem dX8_isReadBy_93 : decode cX8_isReadBy 93 = .ok (.getfield 29, 3) := by decide +kernel
theorem dX8_isReadBy_96 : decode cX8_isReadBy 96 = .ok (.iload_n 1, 1) := by decide +kernel
theorem dX8_isReadBy_97 : decode cX8_isReadBy 97 = .ok (.aload_n 0, 1) := by decide +kernel
theorem dX8_isReadBy_98 : decode cX8_isReadBy 98 = .ok (.getfield 25, 3) := by decide +kernel
theorem dX8_isReadBy_101 : decode cX8_isReadBy 101 = .ok (.iload_n 2, 1) := by decide +kernel
theorem dX8_isReadBy_102 : decode cX8_isReadBy 102 = .ok (.baload, 1) := by decide +kernel
theorem dX8_isReadBy_103 : decode cX8_isReadBy 103 = .ok (.ifCond .eq 8, 3) := by decide +kernel
theorem dX8_isReadBy_106 : decode cX8_isReadBy 106 = .ok (.bipush (-4), 2) := by decide +kernel
theorem dX8_isReadBy_108 : decode cX8_isReadBy 108 = .ok (.goto 4, 3) := by decide +kernel
theorem dX8_isReadBy_111 : decode cX8_isReadBy 111 = .ok (.iload_n 2, 1) := by decide +kernel
theorem dX8_isReadBy_112 : decode cX8_isReadBy 112 = .ok (.iastore, 1) := by decide +kernel
theorem dX8_isReadBy_113 : decode cX8_isReadBy 113 = .ok (.aload_n 0, 1) := by decide +kernel
theorem dX8_isReadBy_114 : decode cX8_isReadBy 114 = .ok (.getfield 25, 3) := by decide +kernel
theorem dX8_isReadBy_117 : decode cX8_isReadBy 117 = .ok (.iload_n 2, 1) := by decide +kernel
theorem dX8_isReadBy_118 : decode cX8_isReadBy 118 = .ok (.baload, 1) := by decide +kernel
theorem dX8_isReadBy_119 : decode cX8_isReadBy 119 = .ok (.ireturn, 1) := by decide +kernel
theorem dX8_modulo_0 : decode cX8_modulo 0 = .ok (.iload_n 0, 1) := by decide +kernel
theorem dX8_modulo_1 : decode cX8_modulo 1 = .ok (.bipush 30, 2) := by decide +kernel
theorem dX8_modulo_3 : decode cX8_modulo 3 = .ok (.irem, 1) := by decide +kernel
theorem dX8_modulo_4 : decode cX8_modulo 4 = .ok (.istore_n 1, 1) := by decide +kernel
theorem dX8_modulo_5 : decode cX8_modulo 5 = .ok (.iload_n 1, 1) := by decide +kernel
theorem dX8_modulo_6 : decode cX8_modulo 6 = .ok (.ifCond .ge 10, 3) := by decide +kernel
theorem dX8_modulo_9 : decode cX8_modulo 9 = .ok (.iload_n 1, 1) := by decide +kernel
theorem dX8_modulo_10 : decode cX8_modulo 10 = .ok (.bipush 30, 2) := by decide +kernel
theorem dX8_modulo_12 : decode cX8_modulo 12 = .ok (.iadd, 1) := by decide +kernel
theorem dX8_modulo_13 : decode cX8_modulo 13 = .ok (.goto 4, 3) := by decide +kernel
theorem dX8_modulo_16 : decode cX8_modulo 16 = .ok (.iload_n 1, 1) := by decide +kernel
theorem dX8_modulo_17 : decode cX8_modulo 17 = .ok (.ireturn, 1) := by decide +kernel
theorem dX8_spanned_0 : decode cX8_spanned 0 = .ok (.aload_n 0, 1) := by decide +kernel
theorem dX8_spanned_1 : decode cX8_spanned 1 = .ok (.getfield 7, 3) := by decide +kernel
theorem dX8_spanned_4 : decode cX8_spanned 4 = .ok (.iload_n 1, 1) := by decide +kernel
theorem dX8_spanned_5 : decode cX8_spanned 5 = .ok (.iaload, 1) := by decide +kernel
theorem dX8_spanned_6 : decode cX8_spanned 6 = .ok (.bipush 6, 2) := by decide +kernel
theorem dX8_spanned_8 : decode cX8_spanned 8 = .ok (.if_icmp .ne 7, 3) := by decide +kernel
theorem dX8_spanned_11 : decode cX8_spanned 11 = .ok (.iconst 1, 1) := by decide +kernel
theorem dX8_spanned_12 : decode cX8_spanned 12 = .ok (.goto 4, 3) := by decide +kernel
theorem dX8_spanned_15 : decode cX8_spanned 15 = .ok (.iconst 0, 1) := by decide +kernel
theorem dX8_spanned_16 : decode cX8_spanned 16 = .ok (.istore_n 2, 1) := by decide +kernel
theorem dX8_spanned_17 : decode cX8_spanned 17 = .ok (.aload_n 0, 1) := by decide +kernel
theorem dX8_spanned_18 : decode cX8_spanned 18 = .ok (.getfield 7, 3) := by decide +kernel
theorem dX8_spanned_21 : decode cX8_spanned 21 = .ok (.bipush 30, 2) := by decide +kernel
theorem dX8_spanned_23 : decode cX8_spanned 23 = .ok (.iload_n 1, 1) := by decide +kernel
theorem dX8_spanned_24 : decode cX8_spanned 24 = .ok (.iadd, 1) := by decide +kernel
theorem dX8_spanned_25 : decode cX8_spanned 25 = .ok (.iaload, 1) := by decide +kernel
theorem dX8_spanned_26 : decode cX8_spanned 26 = .ok (.istore_n 3, 1) := by decide +kernel
theorem dX8_spanned_27 : decode cX8_spanned 27 = .ok (.iconst 0, 1) := by decide +kernel
theorem dX8_spanned_28 : decode cX8_spanned 28 = .ok (.istore 4, 2) := by decide +kernel
theorem dX8_spanned_30 : decode cX8_spanned 30 = .ok (.iload_n 3, 1) := by decide +kernel
theorem dX8_spanned_31 : decode cX8_spanned 31 = .ok (.istore 5, 2) := by decide +kernel
theorem dX8_spanned_33 : decode cX8_spanned 33 = .ok (.iload 5, 2) := by decide +kernel
theorem dX8_spanned_35 : decode cX8_spanned 35 = .ok (.aload_n 0, 1) := by decide +kernel
theorem dX8_spanned_36 : decode cX8_spanned 36 = .ok (.getfield 7, 3) := by decide +kernel
theorem dX8_spanned_39 : decode cX8_spanned 39 = .ok (.bipush 60, 2) := by decide +kernel
theorem dX8_spanned_41 : decode cX8_spanned 41 = .ok (.iload_n 1, 1) := by decide +kernel
theorem dX8_spanned_42 : decode cX8_spanned 42 = .ok (.iadd, 1) := by decide +kernel
theorem dX8_spanned_43 : decode cX8_spanned 43 = .ok (.iaload, 1) := by decide +kernel
theorem dX8_spanned_44 : decode cX8_spanned 44 = .ok (.if_icmp .gt 70, 3) := by decide +kernel
theorem dX8_spanned_47 : decode cX8_spanned 47 = .ok (.aload_n 0, 1) := by decide +kernel
theorem dX8_spanned_48 : decode cX8_spanned 48 = .ok (.iload_n 1, 1) := by decide +kernel
theorem dX8_spanned_49 : decode cX8_spanned 49 = .ok (.iload 5, 2) := by decide +kernel
theorem dX8_spanned_51 : decode cX8_spanned 51 = .ok (.invokevirtual 149, 3) := by decide +kernel
theorem dX8_spanned_54 : decode cX8_spanned 54 = .ok (.ifCond .ne 5, 3) := by decide +kernel
theorem dX8_spanned_57 : decode cX8_spanned 57 = .ok (.iconst 0, 1) := by decide +kernel
theorem dX8_spanned_58 : decode cX8_spanned 58 = .ok (.ireturn, 1) := by decide +kernel
theorem dX8_spanned_59 : decode cX8_spanned 59 = .ok (.iload_n 2, 1) := by decide +kernel
theorem dX8_spanned_60 : decode cX8_spanned 60 = .ok (.ifCond .eq 16, 3) := by decide +kernel
theorem dX8_spanned_63 : decode cX8_spanned 63 = .ok (.iload 4, 2) := by decide +kernel
theorem dX8_spanned_65 : decode cX8_spanned 65 = .ok (.aload_n 0, 1) := by decide +kernel
theorem dX8_spanned_66 : decode cX8_spanned 66 = .ok (.getfield 22, 3) := by decide +kernel
theorem dX8_spanned_69 : decode cX8_spanned 69 = .ok (.iload 5, 2) := by decide +kernel
theorem dX8_spanned_71 : decode cX8_spanned 71 = .ok (.iaload, 1) := by decide +kernel
theorem dX8_spanned_72 : decode cX8_spanned 72 = .ok (.iadd, 1) := by decide +kernel
theorem dX8_spanned_73 : decode cX8_spanned 73 = .ok (.goto 33, 3) := by decide +kernel
theorem dX8_spanned_76 : decode cX8_spanned 76 = .ok (.iload 5, 2) := by decide +kernel
theorem dX8_spanned_78 : decode cX8_spanned 78 = .ok (.iload_n 3, 1) := by decide +kernel
theorem dX8_spanned_79 : decode cX8_spanned 79 = .ok (.if_icmp .eq 15, 3) := by decide +kernel
theorem dX8_spanned_82 : decode cX8_spanned 82 = .ok (.aload_n 0, 1) := by decide +kernel
theorem dX8_spanned_83 : decode cX8_spanned 83 = .ok (.getfield 22, 3) := by decide +kernel
theorem dX8_spanned_86 : decode cX8_spanned 86 = .ok (.iload 5, 2) := by decide +kernel
theorem dX8_spanned_88 : decode cX8_spanned 88 = .ok (.iaload, 1) := by decide +kernel
theorem dX8_spanned_89 : decode cX8_spanned 89 = .ok (.iload 4, 2) := by decide +kernel
theorem dX8_spanned_91 : decode cX8_spanned 91 = .ok (.if_icmp .le 13, 3) := by decide +kernel
theorem dX8_spanned_94 : decode cX8_spanned 94 = .ok (.aload_n 0, 1) := by decide +kernel
theorem dX8_spanned_95 : decode cX8_spanned 95 = .ok (.getfield 22, 3) := by decide +kernel
theorem dX8_spanned_98 : decode cX8_spanned 98 = .ok (.iload 5, 2) := by decide +kernel
theorem dX8_spanned_100 : decode cX8_spanned 100 = .ok (.iaload, 1) := by decide +kernel
theorem dX8_spanned_101 : decode cX8_spanned 101 = .ok (.goto 5, 3) := by decide +kernel
theorem dX8_spanned_104 : decode cX8_spanned 104 = .ok (.iload 4, 2) := by decide +kernel
theorem dX8_spanned_106 : decode cX8_spanned 106 = .ok (.istore 4, 2) := by decide +kernel
theorem dX8_spanned_108 : decode cX8_spanned 108 = .ok (.iinc 5 1, 3) := by decide +kernel
theorem dX8_spanned_111 : decode cX8_spanned 111 = .ok (.goto (-78), 3) := by decide +kernel
theorem dX8_spanned_114 : decode cX8_spanned 114 = .ok (.iload 4, 2) := by decide +kernel
theorem dX8_spanned_116 : decode cX8_spanned 116 = .ok (.ireturn, 1) := by decide +kernel
theorem dX8_paired_0 : decode cX8_paired 0 = .ok (.aload_n 0, 1) := by decide +kernel
theorem dX8_paired_1 : decode cX8_paired 1 = .ok (.getfield 7, 3) := by decide +kernel
theorem dX8_paired_4 : decode cX8_paired 4 = .ok (.bipush 30, 2) := by decide +kernel
theorem dX8_paired_6 : decode cX8_paired 6 = .ok (.iload_n 1, 1) := by decide +kernel
theorem dX8_paired_7 : decode cX8_paired 7 = .ok (.iadd, 1) := by decide +kernel
theorem dX8_paired_8 : decode cX8_paired 8 = .ok (.iaload, 1) := by decide +kernel
theorem dX8_paired_9 : decode cX8_paired 9 = .ok (.istore_n 2, 1) := by decide +kernel
theorem dX8_paired_10 : decode cX8_paired 10 = .ok (.aload_n 0, 1) := by decide +kernel
theorem dX8_paired_11 : decode cX8_paired 11 = .ok (.getfield 7, 3) := by decide +kernel
theorem dX8_paired_14 : decode cX8_paired 14 = .ok (.bipush 60, 2) := by decide +kernel
theorem dX8_paired_16 : decode cX8_paired 16 = .ok (.iload_n 1, 1) := by decide +kernel
theorem dX8_paired_17 : decode cX8_paired 17 = .ok (.iadd, 1) := by decide +kernel
theorem dX8_paired_18 : decode cX8_paired 18 = .ok (.iaload, 1) := by decide +kernel
theorem dX8_paired_19 : decode cX8_paired 19 = .ok (.istore_n 3, 1) := by decide +kernel
theorem dX8_paired_20 : decode cX8_paired 20 = .ok (.aload_n 0, 1) := by decide +kernel
theorem dX8_paired_21 : decode cX8_paired 21 = .ok (.iload_n 1, 1) := by decide +kernel
theorem dX8_paired_22 : decode cX8_paired 22 = .ok (.iload_n 2, 1) := by decide +kernel
theorem dX8_paired_23 : decode cX8_paired 23 = .ok (.invokevirtual 149, 3) := by decide +kernel
theorem dX8_paired_26 : decode cX8_paired 26 = .ok (.ifCond .eq 12, 3) := by decide +kernel
theorem dX8_paired_29 : decode cX8_paired 29 = .ok (.aload_n 0, 1) := by decide +kernel
theorem dX8_paired_30 : decode cX8_paired 30 = .ok (.iload_n 1, 1) := by decide +kernel
theorem dX8_paired_31 : decode cX8_paired 31 = .ok (.iload_n 3, 1) := by decide +kernel
theorem dX8_paired_32 : decode cX8_paired 32 = .ok (.invokevirtual 149, 3) := by decide +kernel
theorem dX8_paired_35 : decode cX8_paired 35 = .ok (.ifCond .ne 5, 3) := by decide +kernel
theorem dX8_paired_38 : decode cX8_paired 38 = .ok (.iconst 0, 1) := by decide +kernel
theorem dX8_paired_39 : decode cX8_paired 39 = .ok (.ireturn, 1) := by decide +kernel
theorem dX8_paired_40 : decode cX8_paired 40 = .ok (.aload_n 0, 1) := by decide +kernel
theorem dX8_paired_41 : decode cX8_paired 41 = .ok (.getfield 22, 3) := by decide +kernel
theorem dX8_paired_44 : decode cX8_paired 44 = .ok (.iload_n 2, 1) := by decide +kernel
theorem dX8_paired_45 : decode cX8_paired 45 = .ok (.iaload, 1) := by decide +kernel
theorem dX8_paired_46 : decode cX8_paired 46 = .ok (.istore 4, 2) := by decide +kernel
theorem dX8_paired_48 : decode cX8_paired 48 = .ok (.aload_n 0, 1) := by decide +kernel
theorem dX8_paired_49 : decode cX8_paired 49 = .ok (.getfield 22, 3) := by decide +kernel
theorem dX8_paired_52 : decode cX8_paired 52 = .ok (.iload_n 3, 1) := by decide +kernel
theorem dX8_paired_53 : decode cX8_paired 53 = .ok (.iaload, 1) := by decide +kernel
theorem dX8_paired_54 : decode cX8_paired 54 = .ok (.istore 5, 2) := by decide +kernel
theorem dX8_paired_56 : decode cX8_paired 56 = .ok (.aload_n 0, 1) := by decide +kernel
theorem dX8_paired_57 : decode cX8_paired 57 = .ok (.getfield 7, 3) := by decide +kernel
theorem dX8_paired_60 : decode cX8_paired 60 = .ok (.iload_n 1, 1) := by decide +kernel
theorem dX8_paired_61 : decode cX8_paired 61 = .ok (.iaload, 1) := by decide +kernel
theorem dX8_paired_62 : decode cX8_paired 62 = .ok (.iconst 2, 1) := by decide +kernel
theorem dX8_paired_63 : decode cX8_paired 63 = .ok (.if_icmp .ne 11, 3) := by decide +kernel
theorem dX8_paired_66 : decode cX8_paired 66 = .ok (.iload 4, 2) := by decide +kernel
theorem dX8_paired_68 : decode cX8_paired 68 = .ok (.iload 5, 2) := by decide +kernel
theorem dX8_paired_70 : decode cX8_paired 70 = .ok (.iadd, 1) := by decide +kernel
theorem dX8_paired_71 : decode cX8_paired 71 = .ok (.goto 26, 3) := by decide +kernel
theorem dX8_paired_74 : decode cX8_paired 74 = .ok (.aload_n 0, 1) := by decide +kernel
theorem dX8_paired_75 : decode cX8_paired 75 = .ok (.getfield 7, 3) := by decide +kernel
theorem dX8_paired_78 : decode cX8_paired 78 = .ok (.iload_n 1, 1) := by decide +kernel
theorem dX8_paired_79 : decode cX8_paired 79 = .ok (.iaload, 1) := by decide +kernel
theorem dX8_paired_80 : decode cX8_paired 80 = .ok (.iconst 4, 1) := by decide +kernel
theorem dX8_paired_81 : decode cX8_paired 81 = .ok (.if_icmp .ne 11, 3) := by decide +kernel
theorem dX8_paired_84 : decode cX8_paired 84 = .ok (.iload 4, 2) := by decide +kernel
theorem dX8_paired_86 : decode cX8_paired 86 = .ok (.iload 5, 2) := by decide +kernel
theorem dX8_paired_88 : decode cX8_paired 88 = .ok (.imul, 1) := by decide +kernel
theorem dX8_paired_89 : decode cX8_paired 89 = .ok (.goto 8, 3) := by decide +kernel
theorem dX8_paired_92 : decode cX8_paired 92 = .ok (.iload 4, 2) := by decide +kernel
theorem dX8_paired_94 : decode cX8_paired 94 = .ok (.iload 5, 2) := by decide +kernel
theorem dX8_paired_96 : decode cX8_paired 96 = .ok (.isub, 1) := by decide +kernel
theorem dX8_paired_97 : decode cX8_paired 97 = .ok (.ireturn, 1) := by decide +kernel
theorem dX8_valueIfTold_0 : decode cX8_valueIfTold 0 = .ok (.aload_n 0, 1) := by decide +kernel
theorem dX8_valueIfTold_1 : decode cX8_valueIfTold 1 = .ok (.getfield 7, 3) := by decide +kernel
theorem dX8_valueIfTold_4 : decode cX8_valueIfTold 4 = .ok (.bipush 30, 2) := by decide +kernel
theorem dX8_valueIfTold_6 : decode cX8_valueIfTold 6 = .ok (.iload_n 1, 1) := by decide +kernel
theorem dX8_valueIfTold_7 : decode cX8_valueIfTold 7 = .ok (.iadd, 1) := by decide +kernel
theorem dX8_valueIfTold_8 : decode cX8_valueIfTold 8 = .ok (.iaload, 1) := by decide +kernel
theorem dX8_valueIfTold_9 : decode cX8_valueIfTold 9 = .ok (.istore_n 2, 1) := by decide +kernel
theorem dX8_valueIfTold_10 : decode cX8_valueIfTold 10 = .ok (.aload_n 0, 1) := by decide +kernel
theorem dX8_valueIfTold_11 : decode cX8_valueIfTold 11 = .ok (.getfield 7, 3) := by decide +kernel
theorem dX8_valueIfTold_14 : decode cX8_valueIfTold 14 = .ok (.iload_n 1, 1) := by decide +kernel
theorem dX8_valueIfTold_15 : decode cX8_valueIfTold 15 = .ok (.iaload, 1) := by decide +kernel
theorem dX8_valueIfTold_16 : decode cX8_valueIfTold 16 = .ok (.tableswitch 162 0 8 #[52, 54, 162, 162, 162, 56, 101, 101, 107], 52) := by decide +kernel
theorem dX8_valueIfTold_68 : decode cX8_valueIfTold 68 = .ok (.iconst 0, 1) := by decide +kernel
theorem dX8_valueIfTold_69 : decode cX8_valueIfTold 69 = .ok (.ireturn, 1) := by decide +kernel
theorem dX8_valueIfTold_70 : decode cX8_valueIfTold 70 = .ok (.iload_n 2, 1) := by decide +kernel
theorem dX8_valueIfTold_71 : decode cX8_valueIfTold 71 = .ok (.ireturn, 1) := by decide +kernel
theorem dX8_valueIfTold_72 : decode cX8_valueIfTold 72 = .ok (.aload_n 0, 1) := by decide +kernel
theorem dX8_valueIfTold_73 : decode cX8_valueIfTold 73 = .ok (.iload_n 1, 1) := by decide +kernel
theorem dX8_valueIfTold_74 : decode cX8_valueIfTold 74 = .ok (.iload_n 2, 1) := by decide +kernel
theorem dX8_valueIfTold_75 : decode cX8_valueIfTold 75 = .ok (.invokevirtual 149, 3) := by decide +kernel
theorem dX8_valueIfTold_78 : decode cX8_valueIfTold 78 = .ok (.ifCond .eq 37, 3) := by decide +kernel
theorem dX8_valueIfTold_81 : decode cX8_valueIfTold 81 = .ok (.aload_n 0, 1) := by decide +kernel
theorem dX8_valueIfTold_82 : decode cX8_valueIfTold 82 = .ok (.iload_n 1, 1) := by decide +kernel
theorem dX8_valueIfTold_83 : decode cX8_valueIfTold 83 = .ok (.aload_n 0, 1) := by decide +kernel
theorem dX8_valueIfTold_84 : decode cX8_valueIfTold 84 = .ok (.getfield 22, 3) := by decide +kernel
theorem dX8_valueIfTold_87 : decode cX8_valueIfTold 87 = .ok (.iload_n 2, 1) := by decide +kernel
theorem dX8_valueIfTold_88 : decode cX8_valueIfTold 88 = .ok (.iaload, 1) := by decide +kernel
theorem dX8_valueIfTold_89 : decode cX8_valueIfTold 89 = .ok (.invokestatic 153, 3) := by decide +kernel
theorem dX8_valueIfTold_92 : decode cX8_valueIfTold 92 = .ok (.invokevirtual 149, 3) := by decide +kernel
theorem dX8_valueIfTold_95 : decode cX8_valueIfTold 95 = .ok (.ifCond .eq 20, 3) := by decide +kernel
theorem dX8_valueIfTold_98 : decode cX8_valueIfTold 98 = .ok (.aload_n 0, 1) := by decide +kernel
theorem dX8_valueIfTold_99 : decode cX8_valueIfTold 99 = .ok (.getfield 22, 3) := by decide +kernel
theorem dX8_valueIfTold_102 : decode cX8_valueIfTold 102 = .ok (.aload_n 0, 1) := by decide +kernel
theorem dX8_valueIfTold_103 : decode cX8_valueIfTold 103 = .ok (.getfield 22, 3) := by decide +kernel
theorem dX8_valueIfTold_106 : decode cX8_valueIfTold 106 = .ok (.iload_n 2, 1) := by decide +kernel
theorem dX8_valueIfTold_107 : decode cX8_valueIfTold 107 = .ok (.iaload, 1) := by decide +kernel
theorem dX8_valueIfTold_108 : decode cX8_valueIfTold 108 = .ok (.invokestatic 153, 3) := by decide +kernel
theorem dX8_valueIfTold_111 : decode cX8_valueIfTold 111 = .ok (.iaload, 1) := by decide +kernel
theorem dX8_valueIfTold_112 : decode cX8_valueIfTold 112 = .ok (.goto 4, 3) := by decide +kernel
theorem dX8_valueIfTold_115 : decode cX8_valueIfTold 115 = .ok (.iconst 0, 1) := by decide +kernel
theorem dX8_valueIfTold_116 : decode cX8_valueIfTold 116 = .ok (.ireturn, 1) := by decide +kernel
theorem dX8_valueIfTold_117 : decode cX8_valueIfTold 117 = .ok (.aload_n 0, 1) := by decide +kernel
theorem dX8_valueIfTold_118 : decode cX8_valueIfTold 118 = .ok (.iload_n 1, 1) := by decide +kernel
theorem dX8_valueIfTold_119 : decode cX8_valueIfTold 119 = .ok (.invokevirtual 156, 3) := by decide +kernel
theorem dX8_valueIfTold_122 : decode cX8_valueIfTold 122 = .ok (.ireturn, 1) := by decide +kernel
theorem dX8_valueIfTold_123 : decode cX8_valueIfTold 123 = .ok (.aload_n 0, 1) := by decide +kernel
theorem dX8_valueIfTold_124 : decode cX8_valueIfTold 124 = .ok (.iload_n 1, 1) := by decide +kernel
theorem dX8_valueIfTold_125 : decode cX8_valueIfTold 125 = .ok (.iload_n 2, 1) := by decide +kernel
theorem dX8_valueIfTold_126 : decode cX8_valueIfTold 126 = .ok (.invokevirtual 149, 3) := by decide +kernel
theorem dX8_valueIfTold_129 : decode cX8_valueIfTold 129 = .ok (.ifCond .ne 5, 3) := by decide +kernel
theorem dX8_valueIfTold_132 : decode cX8_valueIfTold 132 = .ok (.iconst 0, 1) := by decide +kernel
theorem dX8_valueIfTold_133 : decode cX8_valueIfTold 133 = .ok (.ireturn, 1) := by decide +kernel
theorem dX8_valueIfTold_134 : decode cX8_valueIfTold 134 = .ok (.aload_n 0, 1) := by decide +kernel
theorem dX8_valueIfTold_135 : decode cX8_valueIfTold 135 = .ok (.getfield 7, 3) := by decide +kernel
theorem dX8_valueIfTold_138 : decode cX8_valueIfTold 138 = .ok (.aload_n 0, 1) := by decide +kernel
theorem dX8_valueIfTold_139 : decode cX8_valueIfTold 139 = .ok (.getfield 22, 3) := by decide +kernel
theorem dX8_valueIfTold_142 : decode cX8_valueIfTold 142 = .ok (.iload_n 2, 1) := by decide +kernel
theorem dX8_valueIfTold_143 : decode cX8_valueIfTold 143 = .ok (.iaload, 1) := by decide +kernel
theorem dX8_valueIfTold_144 : decode cX8_valueIfTold 144 = .ok (.ifCond .le 8, 3) := by decide +kernel
theorem dX8_valueIfTold_147 : decode cX8_valueIfTold 147 = .ok (.bipush 60, 2) := by decide +kernel
theorem dX8_valueIfTold_149 : decode cX8_valueIfTold 149 = .ok (.goto 5, 3) := by decide +kernel
theorem dX8_valueIfTold_152 : decode cX8_valueIfTold 152 = .ok (.bipush 90, 2) := by decide +kernel
theorem dX8_valueIfTold_154 : decode cX8_valueIfTold 154 = .ok (.iload_n 1, 1) := by decide +kernel
theorem dX8_valueIfTold_155 : decode cX8_valueIfTold 155 = .ok (.iadd, 1) := by decide +kernel
theorem dX8_valueIfTold_156 : decode cX8_valueIfTold 156 = .ok (.iaload, 1) := by decide +kernel
theorem dX8_valueIfTold_157 : decode cX8_valueIfTold 157 = .ok (.istore_n 3, 1) := by decide +kernel
theorem dX8_valueIfTold_158 : decode cX8_valueIfTold 158 = .ok (.aload_n 0, 1) := by decide +kernel
theorem dX8_valueIfTold_159 : decode cX8_valueIfTold 159 = .ok (.iload_n 1, 1) := by decide +kernel
theorem dX8_valueIfTold_160 : decode cX8_valueIfTold 160 = .ok (.iload_n 3, 1) := by decide +kernel
theorem dX8_valueIfTold_161 : decode cX8_valueIfTold 161 = .ok (.invokevirtual 149, 3) := by decide +kernel
theorem dX8_valueIfTold_164 : decode cX8_valueIfTold 164 = .ok (.ifCond .eq 12, 3) := by decide +kernel
theorem dX8_valueIfTold_167 : decode cX8_valueIfTold 167 = .ok (.aload_n 0, 1) := by decide +kernel
theorem dX8_valueIfTold_168 : decode cX8_valueIfTold 168 = .ok (.getfield 22, 3) := by decide +kernel
theorem dX8_valueIfTold_171 : decode cX8_valueIfTold 171 = .ok (.iload_n 3, 1) := by decide +kernel
theorem dX8_valueIfTold_172 : decode cX8_valueIfTold 172 = .ok (.iaload, 1) := by decide +kernel
theorem dX8_valueIfTold_173 : decode cX8_valueIfTold 173 = .ok (.goto 4, 3) := by decide +kernel
theorem dX8_valueIfTold_176 : decode cX8_valueIfTold 176 = .ok (.iconst 0, 1) := by decide +kernel
theorem dX8_valueIfTold_177 : decode cX8_valueIfTold 177 = .ok (.ireturn, 1) := by decide +kernel
theorem dX8_valueIfTold_178 : decode cX8_valueIfTold 178 = .ok (.aload_n 0, 1) := by decide +kernel
theorem dX8_valueIfTold_179 : decode cX8_valueIfTold 179 = .ok (.iload_n 1, 1) := by decide +kernel
theorem dX8_valueIfTold_180 : decode cX8_valueIfTold 180 = .ok (.invokevirtual 159, 3) := by decide +kernel
theorem dX8_valueIfTold_183 : decode cX8_valueIfTold 183 = .ok (.ireturn, 1) := by decide +kernel
theorem dX8_isEvaluated_0 : decode cX8_isEvaluated 0 = .ok (.aload_n 0, 1) := by decide +kernel
theorem dX8_isEvaluated_1 : decode cX8_isEvaluated 1 = .ok (.getfield 29, 3) := by decide +kernel
theorem dX8_isEvaluated_4 : decode cX8_isEvaluated 4 = .ok (.iload_n 1, 1) := by decide +kernel
theorem dX8_isEvaluated_5 : decode cX8_isEvaluated 5 = .ok (.bipush (-4), 2) := by decide +kernel
theorem dX8_isEvaluated_7 : decode cX8_isEvaluated 7 = .ok (.iastore, 1) := by decide +kernel
theorem dX8_isEvaluated_8 : decode cX8_isEvaluated 8 = .ok (.aload_n 0, 1) := by decide +kernel
theorem dX8_isEvaluated_9 : decode cX8_isEvaluated 9 = .ok (.getfield 35, 3) := by decide +kernel
theorem dX8_isEvaluated_12 : decode cX8_isEvaluated 12 = .ok (.iload_n 1, 1) := by decide +kernel
theorem dX8_isEvaluated_13 : decode cX8_isEvaluated 13 = .ok (.iconst 0, 1) := by decide +kernel
theorem dX8_isEvaluated_14 : decode cX8_isEvaluated 14 = .ok (.iastore, 1) := by decide +kernel
theorem dX8_isEvaluated_15 : decode cX8_isEvaluated 15 = .ok (.aload_n 0, 1) := by decide +kernel
theorem dX8_isEvaluated_16 : decode cX8_isEvaluated 16 = .ok (.iload_n 1, 1) := by decide +kernel
theorem dX8_isEvaluated_17 : decode cX8_isEvaluated 17 = .ok (.invokevirtual 162, 3) := by decide +kernel
theorem dX8_isEvaluated_20 : decode cX8_isEvaluated 20 = .ok (.istore_n 2, 1) := by decide +kernel
theorem dX8_isEvaluated_21 : decode cX8_isEvaluated 21 = .ok (.aload_n 0, 1) := by decide +kernel
theorem dX8_isEvaluated_22 : decode cX8_isEvaluated 22 = .ok (.getfield 29, 3) := by decide +kernel
theorem dX8_isEvaluated_25 : decode cX8_isEvaluated 25 = .ok (.iload_n 1, 1) := by decide +kernel
theorem dX8_isEvaluated_26 : decode cX8_isEvaluated 26 = .ok (.iaload, 1) := by decide +kernel
theorem dX8_isEvaluated_27 : decode cX8_isEvaluated 27 = .ok (.bipush (-4), 2) := by decide +kernel
theorem dX8_isEvaluated_29 : decode cX8_isEvaluated 29 = .ok (.if_icmp .ne 17, 3) := by decide +kernel
theorem dX8_isEvaluated_32 : decode cX8_isEvaluated 32 = .ok (.aload_n 0, 1) := by decide +kernel
theorem dX8_isEvaluated_33 : decode cX8_isEvaluated 33 = .ok (.getfield 22, 3) := by decide +kernel
theorem dX8_isEvaluated_36 : decode cX8_isEvaluated 36 = .ok (.iload_n 1, 1) := by decide +kernel
theorem dX8_isEvaluated_37 : decode cX8_isEvaluated 37 = .ok (.iload_n 2, 1) := by decide +kernel
theorem dX8_isEvaluated_38 : decode cX8_isEvaluated 38 = .ok (.iastore, 1) := by decide +kernel
theorem dX8_isEvaluated_39 : decode cX8_isEvaluated 39 = .ok (.aload_n 0, 1) := by decide +kernel
theorem dX8_isEvaluated_40 : decode cX8_isEvaluated 40 = .ok (.getfield 25, 3) := by decide +kernel
theorem dX8_isEvaluated_43 : decode cX8_isEvaluated 43 = .ok (.iload_n 1, 1) := by decide +kernel
theorem dX8_isEvaluated_44 : decode cX8_isEvaluated 44 = .ok (.iconst 1, 1) := by decide +kernel
theorem dX8_isEvaluated_45 : decode cX8_isEvaluated 45 = .ok (.bastore, 1) := by decide +kernel
theorem dX8_isEvaluated_46 : decode cX8_isEvaluated 46 = .ok (.aload_n 0, 1) := by decide +kernel
theorem dX8_isEvaluated_47 : decode cX8_isEvaluated 47 = .ok (.getfield 25, 3) := by decide +kernel
theorem dX8_isEvaluated_50 : decode cX8_isEvaluated 50 = .ok (.iload_n 1, 1) := by decide +kernel
theorem dX8_isEvaluated_51 : decode cX8_isEvaluated 51 = .ok (.baload, 1) := by decide +kernel
theorem dX8_isEvaluated_52 : decode cX8_isEvaluated 52 = .ok (.ireturn, 1) := by decide +kernel
theorem dX8_heightOf_0 : decode cX8_heightOf 0 = .ok (.iconst (-1), 1) := by decide +kernel
theorem dX8_heightOf_1 : decode cX8_heightOf 1 = .ok (.istore_n 2, 1) := by decide +kernel
theorem dX8_heightOf_2 : decode cX8_heightOf 2 = .ok (.iconst 0, 1) := by decide +kernel
theorem dX8_heightOf_3 : decode cX8_heightOf 3 = .ok (.istore_n 3, 1) := by decide +kernel
theorem dX8_heightOf_4 : decode cX8_heightOf 4 = .ok (.iload_n 3, 1) := by decide +kernel
theorem dX8_heightOf_5 : decode cX8_heightOf 5 = .ok (.aload_n 0, 1) := by decide +kernel
theorem dX8_heightOf_6 : decode cX8_heightOf 6 = .ok (.getfield 35, 3) := by decide +kernel
theorem dX8_heightOf_9 : decode cX8_heightOf 9 = .ok (.iload_n 1, 1) := by decide +kernel
theorem dX8_heightOf_10 : decode cX8_heightOf 10 = .ok (.iaload, 1) := by decide +kernel
theorem dX8_heightOf_11 : decode cX8_heightOf 11 = .ok (.if_icmp .ge 45, 3) := by decide +kernel
theorem dX8_heightOf_14 : decode cX8_heightOf 14 = .ok (.aload_n 0, 1) := by decide +kernel
theorem dX8_heightOf_15 : decode cX8_heightOf 15 = .ok (.getfield 32, 3) := by decide +kernel
theorem dX8_heightOf_18 : decode cX8_heightOf 18 = .ok (.bipush 30, 2) := by decide +kernel
theorem dX8_heightOf_20 : decode cX8_heightOf 20 = .ok (.iload_n 1, 1) := by decide +kernel
theorem dX8_heightOf_21 : decode cX8_heightOf 21 = .ok (.imul, 1) := by decide +kernel
theorem dX8_heightOf_22 : decode cX8_heightOf 22 = .ok (.iload_n 3, 1) := by decide +kernel
theorem dX8_heightOf_23 : decode cX8_heightOf 23 = .ok (.iadd, 1) := by decide +kernel
theorem dX8_heightOf_24 : decode cX8_heightOf 24 = .ok (.iaload, 1) := by decide +kernel
theorem dX8_heightOf_25 : decode cX8_heightOf 25 = .ok (.istore 4, 2) := by decide +kernel
theorem dX8_heightOf_27 : decode cX8_heightOf 27 = .ok (.aload_n 0, 1) := by decide +kernel
theorem dX8_heightOf_28 : decode cX8_heightOf 28 = .ok (.getfield 38, 3) := by decide +kernel
theorem dX8_heightOf_31 : decode cX8_heightOf 31 = .ok (.iload 4, 2) := by decide +kernel
theorem dX8_heightOf_33 : decode cX8_heightOf 33 = .ok (.iaload, 1) := by decide +kernel
theorem dX8_heightOf_34 : decode cX8_heightOf 34 = .ok (.iload_n 2, 1) := by decide +kernel
theorem dX8_heightOf_35 : decode cX8_heightOf 35 = .ok (.if_icmp .le 13, 3) := by decide +kernel
theorem dX8_heightOf_38 : decode cX8_heightOf 38 = .ok (.aload_n 0, 1) := by decide +kernel
theorem dX8_heightOf_39 : decode cX8_heightOf 39 = .ok (.getfield 38, 3) := by decide +kernel
theorem dX8_heightOf_42 : decode cX8_heightOf 42 = .ok (.iload 4, 2) := by decide +kernel
theorem dX8_heightOf_44 : decode cX8_heightOf 44 = .ok (.iaload, 1) := by decide +kernel
theorem dX8_heightOf_45 : decode cX8_heightOf 45 = .ok (.goto 4, 3) := by decide +kernel
theorem dX8_heightOf_48 : decode cX8_heightOf 48 = .ok (.iload_n 2, 1) := by decide +kernel
theorem dX8_heightOf_49 : decode cX8_heightOf 49 = .ok (.istore_n 2, 1) := by decide +kernel
theorem dX8_heightOf_50 : decode cX8_heightOf 50 = .ok (.iinc 3 1, 3) := by decide +kernel
theorem dX8_heightOf_53 : decode cX8_heightOf 53 = .ok (.goto (-49), 3) := by decide +kernel
theorem dX8_heightOf_56 : decode cX8_heightOf 56 = .ok (.aload_n 0, 1) := by decide +kernel
theorem dX8_heightOf_57 : decode cX8_heightOf 57 = .ok (.getfield 38, 3) := by decide +kernel
theorem dX8_heightOf_60 : decode cX8_heightOf 60 = .ok (.iload_n 1, 1) := by decide +kernel
theorem dX8_heightOf_61 : decode cX8_heightOf 61 = .ok (.iload_n 2, 1) := by decide +kernel
theorem dX8_heightOf_62 : decode cX8_heightOf 62 = .ok (.iconst 1, 1) := by decide +kernel
theorem dX8_heightOf_63 : decode cX8_heightOf 63 = .ok (.iadd, 1) := by decide +kernel
theorem dX8_heightOf_64 : decode cX8_heightOf 64 = .ok (.iastore, 1) := by decide +kernel
theorem dX8_heightOf_65 : decode cX8_heightOf 65 = .ok (.return_, 1) := by decide +kernel
theorem dX8_settles_0 : decode cX8_settles 0 = .ok (.iconst 0, 1) := by decide +kernel
theorem dX8_settles_1 : decode cX8_settles 1 = .ok (.istore_n 1, 1) := by decide +kernel
theorem dX8_settles_2 : decode cX8_settles 2 = .ok (.iload_n 1, 1) := by decide +kernel
theorem dX8_settles_3 : decode cX8_settles 3 = .ok (.bipush 30, 2) := by decide +kernel
theorem dX8_settles_5 : decode cX8_settles 5 = .ok (.if_icmp .ge 31, 3) := by decide +kernel
theorem dX8_settles_8 : decode cX8_settles 8 = .ok (.aload_n 0, 1) := by decide +kernel
theorem dX8_settles_9 : decode cX8_settles 9 = .ok (.getfield 25, 3) := by decide +kernel
theorem dX8_settles_12 : decode cX8_settles 12 = .ok (.iload_n 1, 1) := by decide +kernel
theorem dX8_settles_13 : decode cX8_settles 13 = .ok (.iconst 0, 1) := by decide +kernel
theorem dX8_settles_14 : decode cX8_settles 14 = .ok (.bastore, 1) := by decide +kernel
theorem dX8_settles_15 : decode cX8_settles 15 = .ok (.aload_n 0, 1) := by decide +kernel
theorem dX8_settles_16 : decode cX8_settles 16 = .ok (.getfield 22, 3) := by decide +kernel
theorem dX8_settles_19 : decode cX8_settles 19 = .ok (.iload_n 1, 1) := by decide +kernel
theorem dX8_settles_20 : decode cX8_settles 20 = .ok (.iconst 0, 1) := by decide +kernel
theorem dX8_settles_21 : decode cX8_settles 21 = .ok (.iastore, 1) := by decide +kernel
theorem dX8_settles_22 : decode cX8_settles 22 = .ok (.aload_n 0, 1) := by decide +kernel
theorem dX8_settles_23 : decode cX8_settles 23 = .ok (.getfield 38, 3) := by decide +kernel
theorem dX8_settles_26 : decode cX8_settles 26 = .ok (.iload_n 1, 1) := by decide +kernel
theorem dX8_settles_27 : decode cX8_settles 27 = .ok (.bipush (-4), 2) := by decide +kernel
theorem dX8_settles_29 : decode cX8_settles 29 = .ok (.iastore, 1) := by decide +kernel
theorem dX8_settles_30 : decode cX8_settles 30 = .ok (.iinc 1 1, 3) := by decide +kernel
theorem dX8_settles_33 : decode cX8_settles 33 = .ok (.goto (-31), 3) := by decide +kernel
theorem dX8_settles_36 : decode cX8_settles 36 = .ok (.iconst 1, 1) := by decide +kernel
theorem dX8_settles_37 : decode cX8_settles 37 = .ok (.istore_n 1, 1) := by decide +kernel
theorem dX8_settles_38 : decode cX8_settles 38 = .ok (.iload_n 1, 1) := by decide +kernel
theorem dX8_settles_39 : decode cX8_settles 39 = .ok (.ifCond .eq 46, 3) := by decide +kernel
theorem dX8_settles_42 : decode cX8_settles 42 = .ok (.iconst 0, 1) := by decide +kernel
theorem dX8_settles_43 : decode cX8_settles 43 = .ok (.istore_n 1, 1) := by decide +kernel
theorem dX8_settles_44 : decode cX8_settles 44 = .ok (.iconst 0, 1) := by decide +kernel
theorem dX8_settles_45 : decode cX8_settles 45 = .ok (.istore_n 2, 1) := by decide +kernel
theorem dX8_settles_46 : decode cX8_settles 46 = .ok (.iload_n 2, 1) := by decide +kernel
theorem dX8_settles_47 : decode cX8_settles 47 = .ok (.bipush 30, 2) := by decide +kernel
theorem dX8_settles_49 : decode cX8_settles 49 = .ok (.if_icmp .ge 33, 3) := by decide +kernel
theorem dX8_settles_52 : decode cX8_settles 52 = .ok (.aload_n 0, 1) := by decide +kernel
theorem dX8_settles_53 : decode cX8_settles 53 = .ok (.getfield 25, 3) := by decide +kernel
theorem dX8_settles_56 : decode cX8_settles 56 = .ok (.iload_n 2, 1) := by decide +kernel
theorem dX8_settles_57 : decode cX8_settles 57 = .ok (.baload, 1) := by decide +kernel
theorem dX8_settles_58 : decode cX8_settles 58 = .ok (.ifCond .ne 18, 3) := by decide +kernel
theorem dX8_settles_61 : decode cX8_settles 61 = .ok (.aload_n 0, 1) := by decide +kernel
theorem dX8_settles_62 : decode cX8_settles 62 = .ok (.iload_n 2, 1) := by decide +kernel
theorem dX8_settles_63 : decode cX8_settles 63 = .ok (.invokevirtual 165, 3) := by decide +kernel
theorem dX8_settles_66 : decode cX8_settles 66 = .ok (.ifCond .eq 10, 3) := by decide +kernel
theorem dX8_settles_69 : decode cX8_settles 69 = .ok (.aload_n 0, 1) := by decide +kernel
theorem dX8_settles_70 : decode cX8_settles 70 = .ok (.iload_n 2, 1) := by decide +kernel
theorem dX8_settles_71 : decode cX8_settles 71 = .ok (.invokevirtual 169, 3) := by decide +kernel
theorem dX8_settles_74 : decode cX8_settles 74 = .ok (.iconst 1, 1) := by decide +kernel
theorem dX8_settles_75 : decode cX8_settles 75 = .ok (.istore_n 1, 1) := by decide +kernel
theorem dX8_settles_76 : decode cX8_settles 76 = .ok (.iinc 2 1, 3) := by decide +kernel
theorem dX8_settles_79 : decode cX8_settles 79 = .ok (.goto (-33), 3) := by decide +kernel
theorem dX8_settles_82 : decode cX8_settles 82 = .ok (.goto (-44), 3) := by decide +kernel
theorem dX8_settles_85 : decode cX8_settles 85 = .ok (.return_, 1) := by decide +kernel
theorem dX8_isCell_0 : decode cX8_isCell 0 = .ok (.iload_n 0, 1) := by decide +kernel
theorem dX8_isCell_1 : decode cX8_isCell 1 = .ok (.i2l, 1) := by decide +kernel
theorem dX8_isCell_2 : decode cX8_isCell 2 = .ok (.lconst 0, 1) := by decide +kernel
theorem dX8_isCell_3 : decode cX8_isCell 3 = .ok (.ldc2_w 172, 3) := by decide +kernel
theorem dX8_isCell_6 : decode cX8_isCell 6 = .ok (.invokestatic 73, 3) := by decide +kernel
theorem dX8_isCell_9 : decode cX8_isCell 9 = .ok (.ireturn, 1) := by decide +kernel
theorem dX8_circleOf_0 : decode cX8_circleOf 0 = .ok (.iload_n 1, 1) := by decide +kernel
theorem dX8_circleOf_1 : decode cX8_circleOf 1 = .ok (.istore_n 2, 1) := by decide +kernel
theorem dX8_circleOf_2 : decode cX8_circleOf 2 = .ok (.iconst 1, 1) := by decide +kernel
theorem dX8_circleOf_3 : decode cX8_circleOf 3 = .ok (.istore_n 3, 1) := by decide +kernel
theorem dX8_circleOf_4 : decode cX8_circleOf 4 = .ok (.iload_n 3, 1) := by decide +kernel
theorem dX8_circleOf_5 : decode cX8_circleOf 5 = .ok (.bipush 30, 2) := by decide +kernel
theorem dX8_circleOf_7 : decode cX8_circleOf 7 = .ok (.if_icmp .gt 34, 3) := by decide +kernel
theorem dX8_circleOf_10 : decode cX8_circleOf 10 = .ok (.aload_n 0, 1) := by decide +kernel
theorem dX8_circleOf_11 : decode cX8_circleOf 11 = .ok (.getfield 25, 3) := by decide +kernel
theorem dX8_circleOf_14 : decode cX8_circleOf 14 = .ok (.iload_n 2, 1) := by decide +kernel
theorem dX8_circleOf_15 : decode cX8_circleOf 15 = .ok (.baload, 1) := by decide +kernel
theorem dX8_circleOf_16 : decode cX8_circleOf 16 = .ok (.ifCond .eq 5, 3) := by decide +kernel
theorem dX8_circleOf_19 : decode cX8_circleOf 19 = .ok (.iconst 0, 1) := by decide +kernel
theorem dX8_circleOf_20 : decode cX8_circleOf 20 = .ok (.ireturn, 1) := by decide +kernel
theorem dX8_circleOf_21 : decode cX8_circleOf 21 = .ok (.aload_n 0, 1) := by decide +kernel
theorem dX8_circleOf_22 : decode cX8_circleOf 22 = .ok (.getfield 29, 3) := by decide +kernel
theorem dX8_circleOf_25 : decode cX8_circleOf 25 = .ok (.iload_n 2, 1) := by decide +kernel
theorem dX8_circleOf_26 : decode cX8_circleOf 26 = .ok (.iaload, 1) := by decide +kernel
theorem dX8_circleOf_27 : decode cX8_circleOf 27 = .ok (.istore_n 2, 1) := by decide +kernel
theorem dX8_circleOf_28 : decode cX8_circleOf 28 = .ok (.iload_n 2, 1) := by decide +kernel
theorem dX8_circleOf_29 : decode cX8_circleOf 29 = .ok (.iload_n 1, 1) := by decide +kernel
theorem dX8_circleOf_30 : decode cX8_circleOf 30 = .ok (.if_icmp .ne 5, 3) := by decide +kernel
theorem dX8_circleOf_33 : decode cX8_circleOf 33 = .ok (.iload_n 3, 1) := by decide +kernel
theorem dX8_circleOf_34 : decode cX8_circleOf 34 = .ok (.ireturn, 1) := by decide +kernel
theorem dX8_circleOf_35 : decode cX8_circleOf 35 = .ok (.iinc 3 1, 3) := by decide +kernel
theorem dX8_circleOf_38 : decode cX8_circleOf 38 = .ok (.goto (-34), 3) := by decide +kernel
theorem dX8_circleOf_41 : decode cX8_circleOf 41 = .ok (.iconst 0, 1) := by decide +kernel
theorem dX8_circleOf_42 : decode cX8_circleOf 42 = .ok (.ireturn, 1) := by decide +kernel
theorem dX8_isFirst_0 : decode cX8_isFirst 0 = .ok (.aload_n 0, 1) := by decide +kernel
theorem dX8_isFirst_1 : decode cX8_isFirst 1 = .ok (.iload_n 1, 1) := by decide +kernel
theorem dX8_isFirst_2 : decode cX8_isFirst 2 = .ok (.invokevirtual 174, 3) := by decide +kernel
theorem dX8_isFirst_5 : decode cX8_isFirst 5 = .ok (.istore_n 2, 1) := by decide +kernel
theorem dX8_isFirst_6 : decode cX8_isFirst 6 = .ok (.iload_n 1, 1) := by decide +kernel
theorem dX8_isFirst_7 : decode cX8_isFirst 7 = .ok (.istore_n 3, 1) := by decide +kernel
theorem dX8_isFirst_8 : decode cX8_isFirst 8 = .ok (.iload_n 2, 1) := by decide +kernel
theorem dX8_isFirst_9 : decode cX8_isFirst 9 = .ok (.ifCond .le 7, 3) := by decide +kernel
theorem dX8_isFirst_12 : decode cX8_isFirst 12 = .ok (.iconst 1, 1) := by decide +kernel
theorem dX8_isFirst_13 : decode cX8_isFirst 13 = .ok (.goto 4, 3) := by decide +kernel
theorem dX8_isFirst_16 : decode cX8_isFirst 16 = .ok (.iconst 0, 1) := by decide +kernel
theorem dX8_isFirst_17 : decode cX8_isFirst 17 = .ok (.istore 4, 2) := by decide +kernel
theorem dX8_isFirst_19 : decode cX8_isFirst 19 = .ok (.iconst 0, 1) := by decide +kernel
theorem dX8_isFirst_20 : decode cX8_isFirst 20 = .ok (.istore 5, 2) := by decide +kernel
theorem dX8_isFirst_22 : decode cX8_isFirst 22 = .ok (.iload 5, 2) := by decide +kernel
theorem dX8_isFirst_24 : decode cX8_isFirst 24 = .ok (.iload_n 2, 1) := by decide +kernel
theorem dX8_isFirst_25 : decode cX8_isFirst 25 = .ok (.if_icmp .ge 33, 3) := by decide +kernel
theorem dX8_isFirst_28 : decode cX8_isFirst 28 = .ok (.iload 4, 2) := by decide +kernel
theorem dX8_isFirst_30 : decode cX8_isFirst 30 = .ok (.ifCond .eq 12, 3) := by decide +kernel
theorem dX8_isFirst_33 : decode cX8_isFirst 33 = .ok (.iload_n 3, 1) := by decide +kernel
theorem dX8_isFirst_34 : decode cX8_isFirst 34 = .ok (.iload_n 1, 1) := by decide +kernel
theorem dX8_isFirst_35 : decode cX8_isFirst 35 = .ok (.if_icmp .lt 7, 3) := by decide +kernel
theorem dX8_isFirst_38 : decode cX8_isFirst 38 = .ok (.iconst 1, 1) := by decide +kernel
theorem dX8_isFirst_39 : decode cX8_isFirst 39 = .ok (.goto 4, 3) := by decide +kernel
theorem dX8_isFirst_42 : decode cX8_isFirst 42 = .ok (.iconst 0, 1) := by decide +kernel
theorem dX8_isFirst_43 : decode cX8_isFirst 43 = .ok (.istore 4, 2) := by decide +kernel
theorem dX8_isFirst_45 : decode cX8_isFirst 45 = .ok (.aload_n 0, 1) := by decide +kernel
theorem dX8_isFirst_46 : decode cX8_isFirst 46 = .ok (.getfield 29, 3) := by decide +kernel
theorem dX8_isFirst_49 : decode cX8_isFirst 49 = .ok (.iload_n 3, 1) := by decide +kernel
theorem dX8_isFirst_50 : decode cX8_isFirst 50 = .ok (.iaload, 1) := by decide +kernel
theorem dX8_isFirst_51 : decode cX8_isFirst 51 = .ok (.istore_n 3, 1) := by decide +kernel
theorem dX8_isFirst_52 : decode cX8_isFirst 52 = .ok (.iinc 5 1, 3) := by decide +kernel
theorem dX8_isFirst_55 : decode cX8_isFirst 55 = .ok (.goto (-33), 3) := by decide +kernel
theorem dX8_isFirst_58 : decode cX8_isFirst 58 = .ok (.iload 4, 2) := by decide +kernel
theorem dX8_isFirst_60 : decode cX8_isFirst 60 = .ok (.ireturn, 1) := by decide +kernel
theorem dX8_formulas_0 : decode cX8_formulas 0 = .ok (.iconst 0, 1) := by decide +kernel
theorem dX8_formulas_1 : decode cX8_formulas 1 = .ok (.istore_n 1, 1) := by decide +kernel
theorem dX8_formulas_2 : decode cX8_formulas 2 = .ok (.iconst 0, 1) := by decide +kernel
theorem dX8_formulas_3 : decode cX8_formulas 3 = .ok (.istore_n 2, 1) := by decide +kernel
theorem dX8_formulas_4 : decode cX8_formulas 4 = .ok (.iload_n 2, 1) := by decide +kernel
theorem dX8_formulas_5 : decode cX8_formulas 5 = .ok (.bipush 30, 2) := by decide +kernel
theorem dX8_formulas_7 : decode cX8_formulas 7 = .ok (.if_icmp .ge 26, 3) := by decide +kernel
theorem dX8_formulas_10 : decode cX8_formulas 10 = .ok (.iload_n 1, 1) := by decide +kernel
theorem dX8_formulas_11 : decode cX8_formulas 11 = .ok (.aload_n 0, 1) := by decide +kernel
theorem dX8_formulas_12 : decode cX8_formulas 12 = .ok (.getfield 7, 3) := by decide +kernel
theorem dX8_formulas_15 : decode cX8_formulas 15 = .ok (.iload_n 2, 1) := by decide +kernel
theorem dX8_formulas_16 : decode cX8_formulas 16 = .ok (.iaload, 1) := by decide +kernel
theorem dX8_formulas_17 : decode cX8_formulas 17 = .ok (.ifCond .ne 7, 3) := by decide +kernel
theorem dX8_formulas_20 : decode cX8_formulas 20 = .ok (.iconst 0, 1) := by decide +kernel
theorem dX8_formulas_21 : decode cX8_formulas 21 = .ok (.goto 4, 3) := by decide +kernel
theorem dX8_formulas_24 : decode cX8_formulas 24 = .ok (.iconst 1, 1) := by decide +kernel
theorem dX8_formulas_25 : decode cX8_formulas 25 = .ok (.iadd, 1) := by decide +kernel
theorem dX8_formulas_26 : decode cX8_formulas 26 = .ok (.istore_n 1, 1) := by decide +kernel
theorem dX8_formulas_27 : decode cX8_formulas 27 = .ok (.iinc 2 1, 3) := by decide +kernel
theorem dX8_formulas_30 : decode cX8_formulas 30 = .ok (.goto (-26), 3) := by decide +kernel
theorem dX8_formulas_33 : decode cX8_formulas 33 = .ok (.iload_n 1, 1) := by decide +kernel
theorem dX8_formulas_34 : decode cX8_formulas 34 = .ok (.ireturn, 1) := by decide +kernel
theorem dX8_ruled_0 : decode cX8_ruled 0 = .ok (.iload_n 1, 1) := by decide +kernel
theorem dX8_ruled_1 : decode cX8_ruled 1 = .ok (.tableswitch 89 1 4 #[31, 46, 61, 75], 31) := by decide +kernel
theorem dX8_ruled_32 : decode cX8_ruled 32 = .ok (.aload_n 0, 1) := by decide +kernel
theorem dX8_ruled_33 : decode cX8_ruled 33 = .ok (.getfield 25, 3) := by decide +kernel
theorem dX8_ruled_36 : decode cX8_ruled 36 = .ok (.iload_n 2, 1) := by decide +kernel
theorem dX8_ruled_37 : decode cX8_ruled 37 = .ok (.baload, 1) := by decide +kernel
theorem dX8_ruled_38 : decode cX8_ruled 38 = .ok (.ifCond .eq 7, 3) := by decide +kernel
theorem dX8_ruled_41 : decode cX8_ruled 41 = .ok (.iconst 1, 1) := by decide +kernel
theorem dX8_ruled_42 : decode cX8_ruled 42 = .ok (.goto 4, 3) := by decide +kernel
theorem dX8_ruled_45 : decode cX8_ruled 45 = .ok (.iconst 0, 1) := by decide +kernel
theorem dX8_ruled_46 : decode cX8_ruled 46 = .ok (.ireturn, 1) := by decide +kernel
theorem dX8_ruled_47 : decode cX8_ruled 47 = .ok (.aload_n 0, 1) := by decide +kernel
theorem dX8_ruled_48 : decode cX8_ruled 48 = .ok (.getfield 25, 3) := by decide +kernel
theorem dX8_ruled_51 : decode cX8_ruled 51 = .ok (.iload_n 2, 1) := by decide +kernel
theorem dX8_ruled_52 : decode cX8_ruled 52 = .ok (.baload, 1) := by decide +kernel
theorem dX8_ruled_53 : decode cX8_ruled 53 = .ok (.ifCond .eq 7, 3) := by decide +kernel
theorem dX8_ruled_56 : decode cX8_ruled 56 = .ok (.iconst 0, 1) := by decide +kernel
theorem dX8_ruled_57 : decode cX8_ruled 57 = .ok (.goto 4, 3) := by decide +kernel
theorem dX8_ruled_60 : decode cX8_ruled 60 = .ok (.iconst 1, 1) := by decide +kernel
theorem dX8_ruled_61 : decode cX8_ruled 61 = .ok (.ireturn, 1) := by decide +kernel
theorem dX8_ruled_62 : decode cX8_ruled 62 = .ok (.aload_n 0, 1) := by decide +kernel
theorem dX8_ruled_63 : decode cX8_ruled 63 = .ok (.iload_n 2, 1) := by decide +kernel
theorem dX8_ruled_64 : decode cX8_ruled 64 = .ok (.invokevirtual 174, 3) := by decide +kernel
theorem dX8_ruled_67 : decode cX8_ruled 67 = .ok (.ifCond .le 7, 3) := by decide +kernel
theorem dX8_ruled_70 : decode cX8_ruled 70 = .ok (.iconst 1, 1) := by decide +kernel
theorem dX8_ruled_71 : decode cX8_ruled 71 = .ok (.goto 4, 3) := by decide +kernel
theorem dX8_ruled_74 : decode cX8_ruled 74 = .ok (.iconst 0, 1) := by decide +kernel
theorem dX8_ruled_75 : decode cX8_ruled 75 = .ok (.ireturn, 1) := by decide +kernel
theorem dX8_ruled_76 : decode cX8_ruled 76 = .ok (.aload_n 0, 1) := by decide +kernel
theorem dX8_ruled_77 : decode cX8_ruled 77 = .ok (.iload_n 2, 1) := by decide +kernel
theorem dX8_ruled_78 : decode cX8_ruled 78 = .ok (.invokevirtual 177, 3) := by decide +kernel
theorem dX8_ruled_81 : decode cX8_ruled 81 = .ok (.ifCond .eq 7, 3) := by decide +kernel
theorem dX8_ruled_84 : decode cX8_ruled 84 = .ok (.iconst 1, 1) := by decide +kernel
theorem dX8_ruled_85 : decode cX8_ruled 85 = .ok (.goto 4, 3) := by decide +kernel
theorem dX8_ruled_88 : decode cX8_ruled 88 = .ok (.iconst 0, 1) := by decide +kernel
theorem dX8_ruled_89 : decode cX8_ruled 89 = .ok (.ireturn, 1) := by decide +kernel
theorem dX8_ruled_90 : decode cX8_ruled 90 = .ok (.aload_n 0, 1) := by decide +kernel
theorem dX8_ruled_91 : decode cX8_ruled 91 = .ok (.getfield 35, 3) := by decide +kernel
theorem dX8_ruled_94 : decode cX8_ruled 94 = .ok (.iload_n 2, 1) := by decide +kernel
theorem dX8_ruled_95 : decode cX8_ruled 95 = .ok (.iaload, 1) := by decide +kernel
theorem dX8_ruled_96 : decode cX8_ruled 96 = .ok (.ireturn, 1) := by decide +kernel
theorem dX8_starts_0 : decode cX8_starts 0 = .ok (.aload_n 0, 1) := by decide +kernel
theorem dX8_starts_1 : decode cX8_starts 1 = .ok (.getfield 180, 3) := by decide +kernel
theorem dX8_starts_4 : decode cX8_starts 4 = .ok (.ifCond .ne 12, 3) := by decide +kernel
theorem dX8_starts_7 : decode cX8_starts 7 = .ok (.aload_n 0, 1) := by decide +kernel
theorem dX8_starts_8 : decode cX8_starts 8 = .ok (.iconst 1, 1) := by decide +kernel
theorem dX8_starts_9 : decode cX8_starts 9 = .ok (.putfield 180, 3) := by decide +kernel
theorem dX8_starts_12 : decode cX8_starts 12 = .ok (.aload_n 0, 1) := by decide +kernel
theorem dX8_starts_13 : decode cX8_starts 13 = .ok (.invokevirtual 139, 3) := by decide +kernel
theorem dX8_starts_16 : decode cX8_starts 16 = .ok (.return_, 1) := by decide +kernel
theorem dX8_rule_0 : decode cX8_rule 0 = .ok (.aload_n 0, 1) := by decide +kernel
theorem dX8_rule_1 : decode cX8_rule 1 = .ok (.invokevirtual 183, 3) := by decide +kernel
theorem dX8_rule_4 : decode cX8_rule 4 = .ok (.iconst 0, 1) := by decide +kernel
theorem dX8_rule_5 : decode cX8_rule 5 = .ok (.istore_n 2, 1) := by decide +kernel
theorem dX8_rule_6 : decode cX8_rule 6 = .ok (.iconst 0, 1) := by decide +kernel
theorem dX8_rule_7 : decode cX8_rule 7 = .ok (.istore_n 3, 1) := by decide +kernel
theorem dX8_rule_8 : decode cX8_rule 8 = .ok (.iconst 0, 1) := by decide +kernel
theorem dX8_rule_9 : decode cX8_rule 9 = .ok (.istore 4, 2) := by decide +kernel
theorem dX8_rule_11 : decode cX8_rule 11 = .ok (.iload 4, 2) := by decide +kernel
theorem dX8_rule_13 : decode cX8_rule 13 = .ok (.bipush 30, 2) := by decide +kernel
theorem dX8_rule_15 : decode cX8_rule 15 = .ok (.if_icmp .ge 42, 3) := by decide +kernel
theorem dX8_rule_18 : decode cX8_rule 18 = .ok (.iload_n 2, 1) := by decide +kernel
theorem dX8_rule_19 : decode cX8_rule 19 = .ok (.aload_n 0, 1) := by decide +kernel
theorem dX8_rule_20 : decode cX8_rule 20 = .ok (.iload_n 1, 1) := by decide +kernel
theorem dX8_rule_21 : decode cX8_rule 21 = .ok (.iload 4, 2) := by decide +kernel
theorem dX8_rule_23 : decode cX8_rule 23 = .ok (.invokevirtual 186, 3) := by decide +kernel
theorem dX8_rule_26 : decode cX8_rule 26 = .ok (.iadd, 1) := by decide +kernel
theorem dX8_rule_27 : decode cX8_rule 27 = .ok (.istore_n 2, 1) := by decide +kernel
theorem dX8_rule_28 : decode cX8_rule 28 = .ok (.aload_n 0, 1) := by decide +kernel
theorem dX8_rule_29 : decode cX8_rule 29 = .ok (.getfield 38, 3) := by decide +kernel
theorem dX8_rule_32 : decode cX8_rule 32 = .ok (.iload 4, 2) := by decide +kernel
theorem dX8_rule_34 : decode cX8_rule 34 = .ok (.iaload, 1) := by decide +kernel
theorem dX8_rule_35 : decode cX8_rule 35 = .ok (.iload_n 3, 1) := by decide +kernel
theorem dX8_rule_36 : decode cX8_rule 36 = .ok (.if_icmp .le 13, 3) := by decide +kernel
theorem dX8_rule_39 : decode cX8_rule 39 = .ok (.aload_n 0, 1) := by decide +kernel
theorem dX8_rule_40 : decode cX8_rule 40 = .ok (.getfield 38, 3) := by decide +kernel
theorem dX8_rule_43 : decode cX8_rule 43 = .ok (.iload 4, 2) := by decide +kernel
theorem dX8_rule_45 : decode cX8_rule 45 = .ok (.iaload, 1) := by decide +kernel
theorem dX8_rule_46 : decode cX8_rule 46 = .ok (.goto 4, 3) := by decide +kernel
theorem dX8_rule_49 : decode cX8_rule 49 = .ok (.iload_n 3, 1) := by decide +kernel
theorem dX8_rule_50 : decode cX8_rule 50 = .ok (.istore_n 3, 1) := by decide +kernel
theorem dX8_rule_51 : decode cX8_rule 51 = .ok (.iinc 4 1, 3) := by decide +kernel
theorem dX8_rule_54 : decode cX8_rule 54 = .ok (.goto (-43), 3) := by decide +kernel
theorem dX8_rule_57 : decode cX8_rule 57 = .ok (.iload_n 1, 1) := by decide +kernel
theorem dX8_rule_58 : decode cX8_rule 58 = .ok (.lookupswitch 46 #[(0, 34), (5, 39), (7, 41)], 34) := by decide +kernel
theorem dX8_rule_92 : decode cX8_rule 92 = .ok (.aload_n 0, 1) := by decide +kernel
theorem dX8_rule_93 : decode cX8_rule 93 = .ok (.invokevirtual 189, 3) := by decide +kernel
theorem dX8_rule_96 : decode cX8_rule 96 = .ok (.ireturn, 1) := by decide +kernel
theorem dX8_rule_97 : decode cX8_rule 97 = .ok (.iload_n 3, 1) := by decide +kernel
theorem dX8_rule_98 : decode cX8_rule 98 = .ok (.ireturn, 1) := by decide +kernel
theorem dX8_rule_99 : decode cX8_rule 99 = .ok (.aload_n 0, 1) := by decide +kernel
theorem dX8_rule_100 : decode cX8_rule 100 = .ok (.getfield 146, 3) := by decide +kernel
theorem dX8_rule_103 : decode cX8_rule 103 = .ok (.ireturn, 1) := by decide +kernel
theorem dX8_rule_104 : decode cX8_rule 104 = .ok (.iload_n 1, 1) := by decide +kernel
theorem dX8_rule_105 : decode cX8_rule 105 = .ok (.i2l, 1) := by decide +kernel
theorem dX8_rule_106 : decode cX8_rule 106 = .ok (.lconst 1, 1) := by decide +kernel
theorem dX8_rule_107 : decode cX8_rule 107 = .ok (.ldc2_w 192, 3) := by decide +kernel
theorem dX8_rule_110 : decode cX8_rule 110 = .ok (.invokestatic 73, 3) := by decide +kernel
theorem dX8_rule_113 : decode cX8_rule 113 = .ok (.ifCond .eq 7, 3) := by decide +kernel
theorem dX8_rule_116 : decode cX8_rule 116 = .ok (.iload_n 2, 1) := by decide +kernel
theorem dX8_rule_117 : decode cX8_rule 117 = .ok (.goto 4, 3) := by decide +kernel
theorem dX8_rule_120 : decode cX8_rule 120 = .ok (.iconst (-1), 1) := by decide +kernel
theorem dX8_rule_121 : decode cX8_rule 121 = .ok (.ireturn, 1) := by decide +kernel
theorem dX8_readersOf_0 : decode cX8_readersOf 0 = .ok (.iconst 0, 1) := by decide +kernel
theorem dX8_readersOf_1 : decode cX8_readersOf 1 = .ok (.istore_n 2, 1) := by decide +kernel
theorem dX8_readersOf_2 : decode cX8_readersOf 2 = .ok (.iconst 0, 1) := by decide +kernel
theorem dX8_readersOf_3 : decode cX8_readersOf 3 = .ok (.istore_n 3, 1) := by decide +kernel
theorem dX8_readersOf_4 : decode cX8_readersOf 4 = .ok (.iload_n 3, 1) := by decide +kernel
theorem dX8_readersOf_5 : decode cX8_readersOf 5 = .ok (.bipush 30, 2) := by decide +kernel
theorem dX8_readersOf_7 : decode cX8_readersOf 7 = .ok (.if_icmp .ge 26, 3) := by decide +kernel
theorem dX8_readersOf_10 : decode cX8_readersOf 10 = .ok (.iload_n 2, 1) := by decide +kernel
theorem dX8_readersOf_11 : decode cX8_readersOf 11 = .ok (.aload_n 0, 1) := by decide +kernel
theorem dX8_readersOf_12 : decode cX8_readersOf 12 = .ok (.iload_n 3, 1) := by decide +kernel
theorem dX8_readersOf_13 : decode cX8_readersOf 13 = .ok (.iload_n 1, 1) := by decide +kernel
theorem dX8_readersOf_14 : decode cX8_readersOf 14 = .ok (.invokevirtual 194, 3) := by decide +kernel
theorem dX8_readersOf_17 : decode cX8_readersOf 17 = .ok (.ifCond .eq 7, 3) := by decide +kernel
theorem dX8_readersOf_20 : decode cX8_readersOf 20 = .ok (.iconst 1, 1) := by decide +kernel
theorem dX8_readersOf_21 : decode cX8_readersOf 21 = .ok (.goto 4, 3) := by decide +kernel
theorem dX8_readersOf_24 : decode cX8_readersOf 24 = .ok (.iconst 0, 1) := by decide +kernel
theorem dX8_readersOf_25 : decode cX8_readersOf 25 = .ok (.iadd, 1) := by decide +kernel
theorem dX8_readersOf_26 : decode cX8_readersOf 26 = .ok (.istore_n 2, 1) := by decide +kernel
theorem dX8_readersOf_27 : decode cX8_readersOf 27 = .ok (.iinc 3 1, 3) := by decide +kernel
theorem dX8_readersOf_30 : decode cX8_readersOf 30 = .ok (.goto (-26), 3) := by decide +kernel
theorem dX8_readersOf_33 : decode cX8_readersOf 33 = .ok (.iload_n 2, 1) := by decide +kernel
theorem dX8_readersOf_34 : decode cX8_readersOf 34 = .ok (.ireturn, 1) := by decide +kernel
