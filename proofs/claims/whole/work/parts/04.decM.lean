theorem dX6_init_0 : decode cX6_init 0 = .ok (.aload_n 0, 1) := by decide +kernel
theorem dX6_init_1 : decode cX6_init 1 = .ok (.invokespecial 1, 3) := by decide +kernel
theorem dX6_init_4 : decode cX6_init 4 = .ok (.aload_n 0, 1) := by decide +kernel
theorem dX6_init_5 : decode cX6_init 5 = .ok (.bipush 48, 2) := by decide +kernel
theorem dX6_init_7 : decode cX6_init 7 = .ok (.newarray .int, 2) := by decide +kernel
theorem dX6_init_9 : decode cX6_init 9 = .ok (.putfield 7, 3) := by decide +kernel
theorem dX6_init_12 : decode cX6_init 12 = .ok (.aload_n 0, 1) := by decide +kernel
theorem dX6_init_13 : decode cX6_init 13 = .ok (.bipush 48, 2) := by decide +kernel
theorem dX6_init_15 : decode cX6_init 15 = .ok (.newarray .int, 2) := by decide +kernel
theorem dX6_init_17 : decode cX6_init 17 = .ok (.putfield 13, 3) := by decide +kernel
theorem dX6_init_20 : decode cX6_init 20 = .ok (.aload_n 0, 1) := by decide +kernel
theorem dX6_init_21 : decode cX6_init 21 = .ok (.bipush 48, 2) := by decide +kernel
theorem dX6_init_23 : decode cX6_init 23 = .ok (.newarray .int, 2) := by decide +kernel
theorem dX6_init_25 : decode cX6_init 25 = .ok (.putfield 16, 3) := by decide +kernel
theorem dX6_init_28 : decode cX6_init 28 = .ok (.aload_n 0, 1) := by decide +kernel
theorem dX6_init_29 : decode cX6_init 29 = .ok (.bipush 48, 2) := by decide +kernel
theorem dX6_init_31 : decode cX6_init 31 = .ok (.newarray .int, 2) := by decide +kernel
theorem dX6_init_33 : decode cX6_init 33 = .ok (.putfield 19, 3) := by decide +kernel
theorem dX6_init_36 : decode cX6_init 36 = .ok (.aload_n 0, 1) := by decide +kernel
theorem dX6_init_37 : decode cX6_init 37 = .ok (.sipush 160, 3) := by decide +kernel
theorem dX6_init_40 : decode cX6_init 40 = .ok (.newarray .int, 2) := by decide +kernel
theorem dX6_init_42 : decode cX6_init 42 = .ok (.putfield 22, 3) := by decide +kernel
theorem dX6_init_45 : decode cX6_init 45 = .ok (.aload_n 0, 1) := by decide +kernel
theorem dX6_init_46 : decode cX6_init 46 = .ok (.sipush 1200, 3) := by decide +kernel
theorem dX6_init_49 : decode cX6_init 49 = .ok (.newarray .int, 2) := by decide +kernel
theorem dX6_init_51 : decode cX6_init 51 = .ok (.putfield 25, 3) := by decide +kernel
theorem dX6_init_54 : decode cX6_init 54 = .ok (.aload_n 0, 1) := by decide +kernel
theorem dX6_init_55 : decode cX6_init 55 = .ok (.bipush 24, 2) := by decide +kernel
theorem dX6_init_57 : decode cX6_init 57 = .ok (.newarray .int, 2) := by decide +kernel
theorem dX6_init_59 : decode cX6_init 59 = .ok (.putfield 28, 3) := by decide +kernel
theorem dX6_init_62 : decode cX6_init 62 = .ok (.aload_n 0, 1) := by decide +kernel
theorem dX6_init_63 : decode cX6_init 63 = .ok (.sipush 192, 3) := by decide +kernel
theorem dX6_init_66 : decode cX6_init 66 = .ok (.newarray .int, 2) := by decide +kernel
theorem dX6_init_68 : decode cX6_init 68 = .ok (.putfield 31, 3) := by decide +kernel
theorem dX6_init_71 : decode cX6_init 71 = .ok (.aload_n 0, 1) := by decide +kernel
theorem dX6_init_72 : decode cX6_init 72 = .ok (.iconst 4, 1) := by decide +kernel
theorem dX6_init_73 : decode cX6_init 73 = .ok (.newarray .int, 2) := by decide +kernel
theorem dX6_init_75 : decode cX6_init 75 = .ok (.dup, 1) := by decide +kernel
theorem dX6_init_76 : decode cX6_init 76 = .ok (.iconst 0, 1) := by decide +kernel
theorem dX6_init_77 : decode cX6_init 77 = .ok (.iconst (-1), 1) := by decide +kernel
theorem dX6_init_78 : decode cX6_init 78 = .ok (.iastore, 1) := by decide +kernel
theorem dX6_init_79 : decode cX6_init 79 = .ok (.dup, 1) := by decide +kernel
theorem dX6_init_80 : decode cX6_init 80 = .ok (.iconst 1, 1) := by decide +kernel
theorem dX6_init_81 : decode cX6_init 81 = .ok (.iconst (-1), 1) := by decide +kernel
theorem dX6_init_82 : decode cX6_init 82 = .ok (.iastore, 1) := by decide +kernel
theorem dX6_init_83 : decode cX6_init 83 = .ok (.dup, 1) := by decide +kernel
theorem dX6_init_84 : decode cX6_init 84 = .ok (.iconst 2, 1) := by decide +kernel
theorem dX6_init_85 : decode cX6_init 85 = .ok (.iconst (-1), 1) := by decide +kernel
theorem dX6_init_86 : decode cX6_init 86 = .ok (.iastore, 1) := by decide +kernel
theorem dX6_init_87 : decode cX6_init 87 = .ok (.dup, 1) := by decide +kernel
theorem dX6_init_88 : decode cX6_init 88 = .ok (.iconst 3, 1) := by decide +kernel
theorem dX6_init_89 : decode cX6_init 89 = .ok (.iconst (-1), 1) := by decide +kernel
theorem dX6_init_90 : decode cX6_init 90 = .ok (.iastore, 1) := by decide +kernel
theorem dX6_init_91 : decode cX6_init 91 = .ok (.putfield 34, 3) := by decide +kernel
theorem dX6_init_94 : decode cX6_init 94 = .ok (.aload_n 0, 1) := by decide +kernel
theorem dX6_init_95 : decode cX6_init 95 = .ok (.iconst 4, 1) := by decide +kernel
theorem dX6_init_96 : decode cX6_init 96 = .ok (.newarray .int, 2) := by decide +kernel
theorem dX6_init_98 : decode cX6_init 98 = .ok (.putfield 37, 3) := by decide +kernel
theorem dX6_init_101 : decode cX6_init 101 = .ok (.aload_n 0, 1) := by decide +kernel
theorem dX6_init_102 : decode cX6_init 102 = .ok (.sipush 192, 3) := by decide +kernel
theorem dX6_init_105 : decode cX6_init 105 = .ok (.newarray .int, 2) := by decide +kernel
theorem dX6_init_107 : decode cX6_init 107 = .ok (.putfield 40, 3) := by decide +kernel
theorem dX6_init_110 : decode cX6_init 110 = .ok (.aload_n 0, 1) := by decide +kernel
theorem dX6_init_111 : decode cX6_init 111 = .ok (.bipush 61, 2) := by decide +kernel
theorem dX6_init_113 : decode cX6_init 113 = .ok (.newarray .int, 2) := by decide +kernel
theorem dX6_init_115 : decode cX6_init 115 = .ok (.dup, 1) := by decide +kernel
theorem dX6_init_116 : decode cX6_init 116 = .ok (.iconst 0, 1) := by decide +kernel
theorem dX6_init_117 : decode cX6_init 117 = .ok (.bipush 114, 2) := by decide +kernel
theorem dX6_init_119 : decode cX6_init 119 = .ok (.iastore, 1) := by decide +kernel
theorem dX6_init_120 : decode cX6_init 120 = .ok (.dup, 1) := by decide +kernel
theorem dX6_init_121 : decode cX6_init 121 = .ok (.iconst 1, 1) := by decide +kernel
theorem dX6_init_122 : decode cX6_init 122 = .ok (.bipush 117, 2) := by decide +kernel
theorem dX6_init_124 : decode cX6_init 124 = .ok (.iastore, 1) := by decide +kernel
theorem dX6_init_125 : decode cX6_init 125 = .ok (.dup, 1) := by decide +kernel
theorem dX6_init_126 : decode cX6_init 126 = .ok (.iconst 2, 1) := by decide +kernel
theorem dX6_init_127 : decode cX6_init 127 = .ok (.bipush 98, 2) := by decide +kernel
theorem dX6_init_129 : decode cX6_init 129 = .ok (.iastore, 1) := by decide +kernel
theorem dX6_init_130 : decode cX6_init 130 = .ok (.dup, 1) := by decide +kernel
theorem dX6_init_131 : decode cX6_init 131 = .ok (.iconst 3, 1) := by decide +kernel
theorem dX6_init_132 : decode cX6_init 132 = .ok (.bipush 32, 2) := by decide +kernel
theorem dX6_init_134 : decode cX6_init 134 = .ok (.iastore, 1) := by decide +kernel
theorem dX6_init_135 : decode cX6_init 135 = .ok (.dup, 1) := by decide +kernel
theorem dX6_init_136 : decode cX6_init 136 = .ok (.iconst 4, 1) := by decide +kernel
theorem dX6_init_137 : decode cX6_init 137 = .ok (.bipush 49, 2) := by decide +kernel
theorem dX6_init_139 : decode cX6_init 139 = .ok (.iastore, 1) := by decide +kernel
theorem dX6_init_140 : decode cX6_init 140 = .ok (.dup, 1) := by decide +kernel
theorem dX6_init_141 : decode cX6_init 141 = .ok (.iconst 5, 1) := by decide +kernel
theorem dX6_init_142 : decode cX6_init 142 = .ok (.bipush 48, 2) := by decide +kernel
theorem dX6_init_144 : decode cX6_init 144 = .ok (.iastore, 1) := by decide +kernel
theorem dX6_init_145 : decode cX6_init 145 = .ok (.dup, 1) := by decide +kernel
theorem dX6_init_146 : decode cX6_init 146 = .ok (.bipush 6, 2) := by decide +kernel
theorem dX6_init_148 : decode cX6_init 148 = .ok (.bipush 32, 2) := by decide +kernel
theorem dX6_init_150 : decode cX6_init 150 = .ok (.iastore, 1) := by decide +kernel
theorem dX6_init_151 : decode cX6_init 151 = .ok (.dup, 1) := by decide +kernel
theorem dX6_init_152 : decode cX6_init 152 = .ok (.bipush 7, 2) := by decide +kernel
theorem dX6_init_154 : decode cX6_init 154 = .ok (.bipush 43, 2) := by decide +kernel
theorem dX6_init_156 : decode cX6_init 156 = .ok (.iastore, 1) := by decide +kernel
theorem dX6_init_157 : decode cX6_init 157 = .ok (.dup, 1) := by decide +kernel
theorem dX6_init_158 : decode cX6_init 158 = .ok (.bipush 8, 2) := by decide +kernel
theorem dX6_init_160 : decode cX6_init 160 = .ok (.bipush 32, 2) := by decide +kernel
theorem dX6_init_162 : decode cX6_init 162 = .ok (.iastore, 1) := by decide +kernel
theorem dX6_init_163 : decode cX6_init 163 = .ok (.dup, 1) := by decide +kernel
theorem dX6_init_164 : decode cX6_init 164 = .ok (.bipush 9, 2) := by decide +kernel
theorem dX6_init_166 : decode cX6_init 166 = .ok (.bipush 109, 2) := by decide +kernel
theorem dX6_init_168 : decode cX6_init 168 = .ok (.iastore, 1) := by decide +kernel
theorem dX6_init_169 : decode cX6_init 169 = .ok (.dup, 1) := by decide +kernel
theorem dX6_init_170 : decode cX6_init 170 = .ok (.bipush 10, 2) := by decide +kernel
theorem dX6_init_172 : decode cX6_init 172 = .ok (.bipush 111, 2) := by decide +kernel
theorem dX6_init_174 : decode cX6_init 174 = .ok (.iastore, 1) := by decide +kernel
theorem dX6_init_175 : decode cX6_init 175 = .ok (.dup, 1) := by decide +kernel
theorem dX6_init_176 : decode cX6_init 176 = .ok (.bipush 11, 2) := by decide +kernel
theorem dX6_init_178 : decode cX6_init 178 = .ok (.bipush 114, 2) := by decide +kernel
theorem dX6_init_180 : decode cX6_init 180 = .ok (.iastore, 1) := by decide +kernel
theorem dX6_init_181 : decode cX6_init 181 = .ok (.dup, 1) := by decide +kernel
theorem dX6_init_182 : decode cX6_init 182 = .ok (.bipush 12, 2) := by decide +kernel
theorem dX6_init_184 : decode cX6_init 184 = .ok (.bipush 101, 2) := by decide +kernel
theorem dX6_init_186 : decode cX6_init 186 = .ok (.iastore, 1) := by decide +kernel
theorem dX6_init_187 : decode cX6_init 187 = .ok (.dup, 1) := by decide +kernel
theorem dX6_init_188 : decode cX6_init 188 = .ok (.bipush 13, 2) := by decide +kernel
theorem dX6_init_190 : decode cX6_init 190 = .ok (.bipush 32, 2) := by decide +kernel
theorem dX6_init_192 : decode cX6_init 192 = .ok (.iastore, 1) := by decide +kernel
theorem dX6_init_193 : decode cX6_init 193 = .ok (.dup, 1) := by decide +kernel
theorem dX6_init_194 : decode cX6_init 194 = .ok (.bipush 14, 2) := by decide +kernel
theorem dX6_init_196 : decode cX6_init 196 = .ok (.bipush 45, 2) := by decide +kernel
theorem dX6_init_198 : decode cX6_init 198 = .ok (.iastore, 1) := by decide +kernel
theorem dX6_init_199 : decode cX6_init 199 = .ok (.dup, 1) := by decide +kernel
theorem dX6_init_200 : decode cX6_init 200 = .ok (.bipush 15, 2) := by decide +kernel
theorem dX6_init_202 : decode cX6_init 202 = .ok (.bipush 32, 2) := by decide +kernel
theorem dX6_init_204 : decode cX6_init 204 = .ok (.iastore, 1) := by decide +kernel
theorem dX6_init_205 : decode cX6_init 205 = .ok (.dup, 1) := by decide +kernel
theorem dX6_init_206 : decode cX6_init 206 = .ok (.bipush 16, 2) := by decide +kernel
theorem dX6_init_208 : decode cX6_init 208 = .ok (.bipush 102, 2) := by decide +kernel
theorem dX6_init_210 : decode cX6_init 210 = .ok (.iastore, 1) := by decide +kernel
theorem dX6_init_211 : decode cX6_init 211 = .ok (.dup, 1) := by decide +kernel
theorem dX6_init_212 : decode cX6_init 212 = .ok (.bipush 17, 2) := by decide +kernel
theorem dX6_init_214 : decode cX6_init 214 = .ok (.bipush 97, 2) := by decide +kernel
theorem dX6_init_216 : decode cX6_init 216 = .ok (.iastore, 1) := by decide +kernel
theorem dX6_init_217 : decode cX6_init 217 = .ok (.dup, 1) := by decide +kernel
theorem dX6_init_218 : decode cX6_init 218 = .ok (.bipush 18, 2) := by decide +kernel
theorem dX6_init_220 : decode cX6_init 220 = .ok (.bipush 99, 2) := by decide +kernel
theorem dX6_init_222 : decode cX6_init 222 = .ok (.iastore, 1) := by decide +kernel
theorem dX6_init_223 : decode cX6_init 223 = .ok (.dup, 1) := by decide +kernel
theorem dX6_init_224 : decode cX6_init 224 = .ok (.bipush 19, 2) := by decide +kernel
theorem dX6_init_226 : decode cX6_init 226 = .ok (.bipush 101, 2) := by decide +kernel
theorem dX6_init_228 : decode cX6_init 228 = .ok (.iastore, 1) := by decide +kernel
theorem dX6_init_229 : decode cX6_init 229 = .ok (.dup, 1) := by decide +kernel
theorem dX6_init_230 : decode cX6_init 230 = .ok (.bipush 20, 2) := by decide +kernel
theorem dX6_init_232 : decode cX6_init 232 = .ok (.bipush 32, 2) := by decide +kernel
theorem dX6_init_234 : decode cX6_init 234 = .ok (.iastore, 1) := by decide +kernel
theorem dX6_init_235 : decode cX6_init 235 = .ok (.dup, 1) := by decide +kernel
theorem dX6_init_236 : decode cX6_init 236 = .ok (.bipush 21, 2) := by decide +kernel
theorem dX6_init_238 : decode cX6_init 238 = .ok (.bipush 42, 2) := by decide +kernel
theorem dX6_init_240 : decode cX6_init 240 = .ok (.iastore, 1) := by decide +kernel
theorem dX6_init_241 : decode cX6_init 241 = .ok (.dup, 1) := by decide +kernel
theorem dX6_init_242 : decode cX6_init 242 = .ok (.bipush 22, 2) := by decide +kernel
theorem dX6_init_244 : decode cX6_init 244 = .ok (.bipush 32, 2) := by decide +kernel
theorem dX6_init_246 : decode cX6_init 246 = .ok (.iastore, 1) := by decide +kernel
theorem dX6_init_247 : decode cX6_init 247 = .ok (.dup, 1) := by decide +kernel
theorem dX6_init_248 : decode cX6_init 248 = .ok (.bipush 23, 2) := by decide +kernel
theorem dX6_init_250 : decode cX6_init 250 = .ok (.bipush 51, 2) := by decide +kernel
theorem dX6_init_252 : decode cX6_init 252 = .ok (.iastore, 1) := by decide +kernel
theorem dX6_init_253 : decode cX6_init 253 = .ok (.dup, 1) := by decide +kernel
theorem dX6_init_254 : decode cX6_init 254 = .ok (.bipush 24, 2) := by decide +kernel
theorem dX6_init_256 : decode cX6_init 256 = .ok (.bipush 32, 2) := by decide +kernel
theorem dX6_init_258 : decode cX6_init 258 = .ok (.iastore, 1) := by decide +kernel
theorem dX6_init_259 : decode cX6_init 259 = .ok (.dup, 1) := by decide +kernel
theorem dX6_init_260 : decode cX6_init 260 = .ok (.bipush 25, 2) := by decide +kernel
theorem dX6_init_262 : decode cX6_init 262 = .ok (.bipush 59, 2) := by decide +kernel
theorem dX6_init_264 : decode cX6_init 264 = .ok (.iastore, 1) := by decide +kernel
theorem dX6_init_265 : decode cX6_init 265 = .ok (.dup, 1) := by decide +kernel
theorem dX6_init_266 : decode cX6_init 266 = .ok (.bipush 26, 2) := by decide +kernel
theorem dX6_init_268 : decode cX6_init 268 = .ok (.bipush 32, 2) := by decide +kernel
theorem dX6_init_270 : decode cX6_init 270 = .ok (.iastore, 1) := by decide +kernel
theorem dX6_init_271 : decode cX6_init 271 = .ok (.dup, 1) := by decide +kernel
theorem dX6_init_272 : decode cX6_init 272 = .ok (.bipush 27, 2) := by decide +kernel
theorem dX6_init_274 : decode cX6_init 274 = .ok (.bipush 109, 2) := by decide +kernel
theorem dX6_init_276 : decode cX6_init 276 = .ok (.iastore, 1) := by decide +kernel
theorem dX6_init_277 : decode cX6_init 277 = .ok (.dup, 1) := by decide +kernel
theorem dX6_init_278 : decode cX6_init 278 = .ok (.bipush 28, 2) := by decide +kernel
theorem dX6_init_280 : decode cX6_init 280 = .ok (.bipush 105, 2) := by decide +kernel
theorem dX6_init_282 : decode cX6_init 282 = .ok (.iastore, 1) := by decide +kernel
theorem dX6_init_283 : decode cX6_init 283 = .ok (.dup, 1) := by decide +kernel
theorem dX6_init_284 : decode cX6_init 284 = .ok (.bipush 29, 2) := by decide +kernel
theorem dX6_init_286 : decode cX6_init 286 = .ok (.bipush 110, 2) := by decide +kernel
theorem dX6_init_288 : decode cX6_init 288 = .ok (.iastore, 1) := by decide +kernel
theorem dX6_init_289 : decode cX6_init 289 = .ok (.dup, 1) := by decide +kernel
theorem dX6_init_290 : decode cX6_init 290 = .ok (.bipush 30, 2) := by decide +kernel
theorem dX6_init_292 : decode cX6_init 292 = .ok (.bipush 117, 2) := by decide +kernel
theorem dX6_init_294 : decode cX6_init 294 = .ok (.iastore, 1) := by decide +kernel
theorem dX6_init_295 : decode cX6_init 295 = .ok (.dup, 1) := by decide +kernel
theorem dX6_init_296 : decode cX6_init 296 = .ok (.bipush 31, 2) := by decide +kernel
theorem dX6_init_298 : decode cX6_init 298 = .ok (.bipush 116, 2) := by decide +kernel
theorem dX6_init_300 : decode cX6_init 300 = .ok (.iastore, 1) := by decide +kernel
theorem dX6_init_301 : decode cX6_init 301 = .ok (.dup, 1) := by decide +kernel
theorem dX6_init_302 : decode cX6_init 302 = .ok (.bipush 32, 2) := by decide +kernel
theorem dX6_init_304 : decode cX6_init 304 = .ok (.bipush 101, 2) := by decide +kernel
theorem dX6_init_306 : decode cX6_init 306 = .ok (.iastore, 1) := by decide +kernel
theorem dX6_init_307 : decode cX6_init 307 = .ok (.dup, 1) := by decide +kernel
theorem dX6_init_308 : decode cX6_init 308 = .ok (.bipush 33, 2) := by decide +kernel
theorem dX6_init_310 : decode cX6_init 310 = .ok (.bipush 115, 2) := by decide +kernel
theorem dX6_init_312 : decode cX6_init 312 = .ok (.iastore, 1) := by decide +kernel
theorem dX6_init_313 : decode cX6_init 313 = .ok (.dup, 1) := by decide +kernel
theorem dX6_init_314 : decode cX6_init 314 = .ok (.bipush 34, 2) := by decide +kernel
theorem dX6_init_316 : decode cX6_init 316 = .ok (.bipush 32, 2) := by decide +kernel
theorem dX6_init_318 : decode cX6_init 318 = .ok (.iastore, 1) := by decide +kernel
theorem dX6_init_319 : decode cX6_init 319 = .ok (.dup, 1) := by decide +kernel
theorem dX6_init_320 : decode cX6_init 320 = .ok (.bipush 35, 2) := by decide +kernel
theorem dX6_init_322 : decode cX6_init 322 = .ok (.bipush 50, 2) := by decide +kernel
theorem dX6_init_324 : decode cX6_init 324 = .ok (.iastore, 1) := by decide +kernel
theorem dX6_init_325 : decode cX6_init 325 = .ok (.dup, 1) := by decide +kernel
theorem dX6_init_326 : decode cX6_init 326 = .ok (.bipush 36, 2) := by decide +kernel
theorem dX6_init_328 : decode cX6_init 328 = .ok (.bipush 32, 2) := by decide +kernel
theorem dX6_init_330 : decode cX6_init 330 = .ok (.iastore, 1) := by decide +kernel
theorem dX6_init_331 : decode cX6_init 331 = .ok (.dup, 1) := by decide +kernel
theorem dX6_init_332 : decode cX6_init 332 = .ok (.bipush 37, 2) := by decide +kernel
theorem dX6_init_334 : decode cX6_init 334 = .ok (.bipush 43, 2) := by decide +kernel
theorem dX6_init_336 : decode cX6_init 336 = .ok (.iastore, 1) := by decide +kernel
theorem dX6_init_337 : decode cX6_init 337 = .ok (.dup, 1) := by decide +kernel
theorem dX6_init_338 : decode cX6_init 338 = .ok (.bipush 38, 2) := by decide +kernel
theorem dX6_init_340 : decode cX6_init 340 = .ok (.bipush 32, 2) := by decide +kernel
theorem dX6_init_342 : decode cX6_init 342 = .ok (.iastore, 1) := by decide +kernel
theorem dX6_init_343 : decode cX6_init 343 = .ok (.dup, 1) := by decide +kernel
theorem dX6_init_344 : decode cX6_init 344 = .ok (.bipush 39, 2) := by decide +kernel
theorem dX6_init_346 : decode cX6_init 346 = .ok (.bipush 109, 2) := by decide +kernel
theorem dX6_init_348 : decode cX6_init 348 = .ok (.iastore, 1) := by decide +kernel
theorem dX6_init_349 : decode cX6_init 349 = .ok (.dup, 1) := by decide +kernel
theorem dX6_init_350 : decode cX6_init 350 = .ok (.bipush 40, 2) := by decide +kernel
theorem dX6_init_352 : decode cX6_init 352 = .ok (.bipush 111, 2) := by decide +kernel
theorem dX6_init_354 : decode cX6_init 354 = .ok (.iastore, 1) := by decide +kernel
theorem dX6_init_355 : decode cX6_init 355 = .ok (.dup, 1) := by decide +kernel
theorem dX6_init_356 : decode cX6_init 356 = .ok (.bipush 41, 2) := by decide +kernel
theorem dX6_init_358 : decode cX6_init 358 = .ok (.bipush 114, 2) := by decide +kernel
theorem dX6_init_360 : decode cX6_init 360 = .ok (.iastore, 1) := by decide +kernel
theorem dX6_init_361 : decode cX6_init 361 = .ok (.dup, 1) := by decide +kernel
theorem dX6_init_362 : decode cX6_init 362 = .ok (.bipush 42, 2) := by decide +kernel
theorem dX6_init_364 : decode cX6_init 364 = .ok (.bipush 101, 2) := by decide +kernel
theorem dX6_init_366 : decode cX6_init 366 = .ok (.iastore, 1) := by decide +kernel
theorem dX6_init_367 : decode cX6_init 367 = .ok (.dup, 1) := by decide +kernel
theorem dX6_init_368 : decode cX6_init 368 = .ok (.bipush 43, 2) := by decide +kernel
theorem dX6_init_370 : decode cX6_init 370 = .ok (.bipush 32, 2) := by decide +kernel
theorem dX6_init_372 : decode cX6_init 372 = .ok (.iastore, 1) := by decide +kernel
theorem dX6_init_373 : decode cX6_init 373 = .ok (.dup, 1) := by decide +kernel
theorem dX6_init_374 : decode cX6_init 374 = .ok (.bipush 44, 2) := by decide +kernel
theorem dX6_init_376 : decode cX6_init 376 = .ok (.bipush 59, 2) := by decide +kernel
theorem dX6_init_378 : decode cX6_init 378 = .ok (.iastore, 1) := by decide +kernel
theorem dX6_init_379 : decode cX6_init 379 = .ok (.dup, 1) := by decide +kernel
theorem dX6_init_380 : decode cX6_init 380 = .ok (.bipush 45, 2) := by decide +kernel
theorem dX6_init_382 : decode cX6_init 382 = .ok (.bipush 32, 2) := by decide +kernel
theorem dX6_init_384 : decode cX6_init 384 = .ok (.iastore, 1) := by decide +kernel
theorem dX6_init_385 : decode cX6_init 385 = .ok (.dup, 1) := by decide +kernel
theorem dX6_init_386 : decode cX6_init 386 = .ok (.bipush 46, 2) := by decide +kernel
theorem dX6_init_388 : decode cX6_init 388 = .ok (.bipush 115, 2) := by decide +kernel
theorem dX6_init_390 : decode cX6_init 390 = .ok (.iastore, 1) := by decide +kernel
theorem dX6_init_391 : decode cX6_init 391 = .ok (.dup, 1) := by decide +kernel
theorem dX6_init_392 : decode cX6_init 392 = .ok (.bipush 47, 2) := by decide +kernel
theorem dX6_init_394 : decode cX6_init 394 = .ok (.bipush 101, 2) := by decide +kernel
theorem dX6_init_396 : decode cX6_init 396 = .ok (.iastore, 1) := by decide +kernel
theorem dX6_init_397 : decode cX6_init 397 = .ok (.dup, 1) := by decide +kernel
theorem dX6_init_398 : decode cX6_init 398 = .ok (.bipush 48, 2) := by decide +kernel
theorem dX6_init_400 : decode cX6_init 400 = .ok (.bipush 101, 2) := by decide +kernel
theorem dX6_init_402 : decode cX6_init 402 = .ok (.iastore, 1) := by decide +kernel
theorem dX6_init_403 : decode cX6_init 403 = .ok (.dup, 1) := by decide +kernel
theorem dX6_init_404 : decode cX6_init 404 = .ok (.bipush 49, 2) := by decide +kernel
theorem dX6_init_406 : decode cX6_init 406 = .ok (.bipush 110, 2) := by decide +kernel
theorem dX6_init_408 : decode cX6_init 408 = .ok (.iastore, 1) := by decide +kernel
theorem dX6_init_409 : decode cX6_init 409 = .ok (.dup, 1) := by decide +kernel
theorem dX6_init_410 : decode cX6_init 410 = .ok (.bipush 50, 2) := by decide +kernel
theorem dX6_init_412 : decode cX6_init 412 = .ok (.bipush 32, 2) := by decide +kernel
theorem dX6_init_414 : decode cX6_init 414 = .ok (.iastore, 1) := by decide +kernel
theorem dX6_init_415 : decode cX6_init 415 = .ok (.dup, 1) := by decide +kernel
theorem dX6_init_416 : decode cX6_init 416 = .ok (.bipush 51, 2) := by decide +kernel
theorem dX6_init_418 : decode cX6_init 418 = .ok (.bipush 49, 2) := by decide +kernel
theorem dX6_init_420 : decode cX6_init 420 = .ok (.iastore, 1) := by decide +kernel
theorem dX6_init_421 : decode cX6_init 421 = .ok (.dup, 1) := by decide +kernel
theorem dX6_init_422 : decode cX6_init 422 = .ok (.bipush 52, 2) := by decide +kernel
theorem dX6_init_424 : decode cX6_init 424 = .ok (.bipush 32, 2) := by decide +kernel
theorem dX6_init_426 : decode cX6_init 426 = .ok (.iastore, 1) := by decide +kernel
theorem dX6_init_427 : decode cX6_init 427 = .ok (.dup, 1) := by decide +kernel
theorem dX6_init_428 : decode cX6_init 428 = .ok (.bipush 53, 2) := by decide +kernel
theorem dX6_init_430 : decode cX6_init 430 = .ok (.bipush 43, 2) := by decide +kernel
theorem dX6_init_432 : decode cX6_init 432 = .ok (.iastore, 1) := by decide +kernel
theorem dX6_init_433 : decode cX6_init 433 = .ok (.dup, 1) := by decide +kernel
theorem dX6_init_434 : decode cX6_init 434 = .ok (.bipush 54, 2) := by decide +kernel
theorem dX6_init_436 : decode cX6_init 436 = .ok (.bipush 32, 2) := by decide +kernel
theorem dX6_init_438 : decode cX6_init 438 = .ok (.iastore, 1) := by decide +kernel
theorem dX6_init_439 : decode cX6_init 439 = .ok (.dup, 1) := by decide +kernel
theorem dX6_init_440 : decode cX6_init 440 = .ok (.bipush 55, 2) := by decide +kernel
theorem dX6_init_442 : decode cX6_init 442 = .ok (.bipush 102, 2) := by decide +kernel
theorem dX6_init_444 : decode cX6_init 444 = .ok (.iastore, 1) := by decide +kernel
theorem dX6_init_445 : decode cX6_init 445 = .ok (.dup, 1) := by decide +kernel
theorem dX6_init_446 : decode cX6_init 446 = .ok (.bipush 56, 2) := by decide +kernel
theorem dX6_init_448 : decode cX6_init 448 = .ok (.bipush 97, 2) := by decide +kernel
theorem dX6_init_450 : decode cX6_init 450 = .ok (.iastore, 1) := by decide +kernel
theorem dX6_init_451 : decode cX6_init 451 = .ok (.dup, 1) := by decide +kernel
theorem dX6_init_452 : decode cX6_init 452 = .ok (.bipush 57, 2) := by decide +kernel
theorem dX6_init_454 : decode cX6_init 454 = .ok (.bipush 99, 2) := by decide +kernel
theorem dX6_init_456 : decode cX6_init 456 = .ok (.iastore, 1) := by decide +kernel
theorem dX6_init_457 : decode cX6_init 457 = .ok (.dup, 1) := by decide +kernel
theorem dX6_init_458 : decode cX6_init 458 = .ok (.bipush 58, 2) := by decide +kernel
theorem dX6_init_460 : decode cX6_init 460 = .ok (.bipush 101, 2) := by decide +kernel
theorem dX6_init_462 : decode cX6_init 462 = .ok (.iastore, 1) := by decide +kernel
theorem dX6_init_463 : decode cX6_init 463 = .ok (.dup, 1) := by decide +kernel
theorem dX6_init_464 : decode cX6_init 464 = .ok (.bipush 59, 2) := by decide +kernel
theorem dX6_init_466 : decode cX6_init 466 = .ok (.bipush 32, 2) := by decide +kernel
theorem dX6_init_468 : decode cX6_init 468 = .ok (.iastore, 1) := by decide +kernel
theorem dX6_init_469 : decode cX6_init 469 = .ok (.dup, 1) := by decide +kernel
theorem dX6_init_470 : decode cX6_init 470 = .ok (.bipush 60, 2) := by decide +kernel
theorem dX6_init_472 : decode cX6_init 472 = .ok (.bipush 59, 2) := by decide +kernel
theorem dX6_init_474 : decode cX6_init 474 = .ok (.iastore, 1) := by decide +kernel
theorem dX6_init_475 : decode cX6_init 475 = .ok (.putfield 43, 3) := by decide +kernel
theorem dX6_init_478 : decode cX6_init 478 = .ok (.aload_n 0, 1) := by decide +kernel
theorem dX6_init_479 : decode cX6_init 479 = .ok (.bipush 96, 2) := by decide +kernel
theorem dX6_init_481 : decode cX6_init 481 = .ok (.newarray .int, 2) := by decide +kernel
theorem dX6_init_483 : decode cX6_init 483 = .ok (.dup, 1) := by decide +kernel
theorem dX6_init_484 : decode cX6_init 484 = .ok (.iconst 0, 1) := by decide +kernel
theorem dX6_init_485 : decode cX6_init 485 = .ok (.bipush 114, 2) := by decide +kernel
theorem dX6_init_487 : decode cX6_init 487 = .ok (.iastore, 1) := by decide +kernel
theorem dX6_init_488 : decode cX6_init 488 = .ok (.dup, 1) := by decide +kernel
theorem dX6_init_489 : decode cX6_init 489 = .ok (.iconst 1, 1) := by decide +kernel
theorem dX6_init_490 : decode cX6_init 490 = .ok (.bipush 117, 2) := by decide +kernel
theorem dX6_init_492 : decode cX6_init 492 = .ok (.iastore, 1) := by decide +kernel
theorem dX6_init_493 : decode cX6_init 493 = .ok (.dup, 1) := by decide +kernel
theorem dX6_init_494 : decode cX6_init 494 = .ok (.iconst 2, 1) := by decide +kernel
theorem dX6_init_495 : decode cX6_init 495 = .ok (.bipush 98, 2) := by decide +kernel
theorem dX6_init_497 : decode cX6_init 497 = .ok (.iastore, 1) := by decide +kernel
theorem dX6_init_498 : decode cX6_init 498 = .ok (.dup, 1) := by decide +kernel
theorem dX6_init_499 : decode cX6_init 499 = .ok (.iconst 3, 1) := by decide +kernel
theorem dX6_init_500 : decode cX6_init 500 = .ok (.bipush 32, 2) := by decide +kernel
theorem dX6_init_502 : decode cX6_init 502 = .ok (.iastore, 1) := by decide +kernel
theorem dX6_init_503 : decode cX6_init 503 = .ok (.dup, 1) := by decide +kernel
theorem dX6_init_504 : decode cX6_init 504 = .ok (.iconst 4, 1) := by decide +kernel
theorem dX6_init_505 : decode cX6_init 505 = .ok (.bipush 32, 2) := by decide +kernel
theorem dX6_init_507 : decode cX6_init 507 = .ok (.iastore, 1) := by decide +kernel
theorem dX6_init_508 : decode cX6_init 508 = .ok (.dup, 1) := by decide +kernel
theorem dX6_init_509 : decode cX6_init 509 = .ok (.iconst 5, 1) := by decide +kernel
theorem dX6_init_510 : decode cX6_init 510 = .ok (.bipush 32, 2) := by decide +kernel
theorem dX6_init_512 : decode cX6_init 512 = .ok (.iastore, 1) := by decide +kernel
theorem dX6_init_513 : decode cX6_init 513 = .ok (.dup, 1) := by decide +kernel
theorem dX6_init_514 : decode cX6_init 514 = .ok (.bipush 6, 2) := by decide +kernel
theorem dX6_init_516 : decode cX6_init 516 = .ok (.bipush 32, 2) := by decide +kernel
theorem dX6_init_518 : decode cX6_init 518 = .ok (.iastore, 1) := by decide +kernel
theorem dX6_init_519 : decode cX6_init 519 = .ok (.dup, 1) := by decide +kernel
theorem dX6_init_520 : decode cX6_init 520 = .ok (.bipush 7, 2) := by decide +kernel
theorem dX6_init_522 : decode cX6_init 522 = .ok (.bipush 32, 2) := by decide +kernel
theorem dX6_init_524 : decode cX6_init 524 = .ok (.iastore, 1) := by decide +kernel
theorem dX6_init_525 : decode cX6_init 525 = .ok (.dup, 1) := by decide +kernel
theorem dX6_init_526 : decode cX6_init 526 = .ok (.bipush 8, 2) := by decide +kernel
theorem dX6_init_528 : decode cX6_init 528 = .ok (.bipush 109, 2) := by decide +kernel
theorem dX6_init_530 : decode cX6_init 530 = .ok (.iastore, 1) := by decide +kernel
theorem dX6_init_531 : decode cX6_init 531 = .ok (.dup, 1) := by decide +kernel
theorem dX6_init_532 : decode cX6_init 532 = .ok (.bipush 9, 2) := by decide +kernel
theorem dX6_init_534 : decode cX6_init 534 = .ok (.bipush 105, 2) := by decide +kernel
theorem dX6_init_536 : decode cX6_init 536 = .ok (.iastore, 1) := by decide +kernel
theorem dX6_init_537 : decode cX6_init 537 = .ok (.dup, 1) := by decide +kernel
theorem dX6_init_538 : decode cX6_init 538 = .ok (.bipush 10, 2) := by decide +kernel
theorem dX6_init_540 : decode cX6_init 540 = .ok (.bipush 110, 2) := by decide +kernel
theorem dX6_init_542 : decode cX6_init 542 = .ok (.iastore, 1) := by decide +kernel
theorem dX6_init_543 : decode cX6_init 543 = .ok (.dup, 1) := by decide +kernel
theorem dX6_init_544 : decode cX6_init 544 = .ok (.bipush 11, 2) := by decide +kernel
theorem dX6_init_546 : decode cX6_init 546 = .ok (.bipush 117, 2) := by decide +kernel
theorem dX6_init_548 : decode cX6_init 548 = .ok (.iastore, 1) := by decide +kernel
theorem dX6_init_549 : decode cX6_init 549 = .ok (.dup, 1) := by decide +kernel
theorem dX6_init_550 : decode cX6_init 550 = .ok (.bipush 12, 2) := by decide +kernel
theorem dX6_init_552 : decode cX6_init 552 = .ok (.bipush 116, 2) := by decide +kernel
theorem dX6_init_554 : decode cX6_init 554 = .ok (.iastore, 1) := by decide +kernel
theorem dX6_init_555 : decode cX6_init 555 = .ok (.dup, 1) := by decide +kernel
theorem dX6_init_556 : decode cX6_init 556 = .ok (.bipush 13, 2) := by decide +kernel
theorem dX6_init_558 : decode cX6_init 558 = .ok (.bipush 101, 2) := by decide +kernel
theorem dX6_init_560 : decode cX6_init 560 = .ok (.iastore, 1) := by decide +kernel
theorem dX6_init_561 : decode cX6_init 561 = .ok (.dup, 1) := by decide +kernel
theorem dX6_init_562 : decode cX6_init 562 = .ok (.bipush 14, 2) := by decide +kernel
theorem dX6_init_564 : decode cX6_init 564 = .ok (.bipush 115, 2) := by decide +kernel
theorem dX6_init_566 : decode cX6_init 566 = .ok (.iastore, 1) := by decide +kernel
theorem dX6_init_567 : decode cX6_init 567 = .ok (.dup, 1) := by decide +kernel
theorem dX6_init_568 : decode cX6_init 568 = .ok (.bipush 15, 2) := by decide +kernel
theorem dX6_init_570 : decode cX6_init 570 = .ok (.bipush 32, 2) := by decide +kernel
theorem dX6_init_572 : decode cX6_init 572 = .ok (.iastore, 1) := by decide +kernel
theorem dX6_init_573 : decode cX6_init 573 = .ok (.dup, 1) := by decide +kernel
theorem dX6_init_574 : decode cX6_init 574 = .ok (.bipush 16, 2) := by decide +kernel
theorem dX6_init_576 : decode cX6_init 576 = .ok (.bipush 115, 2) := by decide +kernel
theorem dX6_init_578 : decode cX6_init 578 = .ok (.iastore, 1) := by decide +kernel
theorem dX6_init_579 : decode cX6_init 579 = .ok (.dup, 1) := by decide +kernel
theorem dX6_init_580 : decode cX6_init 580 = .ok (.bipush 17, 2) := by decide +kernel
theorem dX6_init_582 : decode cX6_init 582 = .ok (.bipush 101, 2) := by decide +kernel
theorem dX6_init_584 : decode cX6_init 584 = .ok (.iastore, 1) := by decide +kernel
theorem dX6_init_585 : decode cX6_init 585 = .ok (.dup, 1) := by decide +kernel
theorem dX6_init_586 : decode cX6_init 586 = .ok (.bipush 18, 2) := by decide +kernel
theorem dX6_init_588 : decode cX6_init 588 = .ok (.bipush 101, 2) := by decide +kernel
theorem dX6_init_590 : decode cX6_init 590 = .ok (.iastore, 1) := by decide +kernel
theorem dX6_init_591 : decode cX6_init 591 = .ok (.dup, 1) := by decide +kernel
theorem dX6_init_592 : decode cX6_init 592 = .ok (.bipush 19, 2) := by decide +kernel
theorem dX6_init_594 : decode cX6_init 594 = .ok (.bipush 110, 2) := by decide +kernel
theorem dX6_init_596 : decode cX6_init 596 = .ok (.iastore, 1) := by decide +kernel
theorem dX6_init_597 : decode cX6_init 597 = .ok (.dup, 1) := by decide +kernel
theorem dX6_init_598 : decode cX6_init 598 = .ok (.bipush 20, 2) := by decide +kernel
theorem dX6_init_600 : decode cX6_init 600 = .ok (.bipush 32, 2) := by decide +kernel
theorem dX6_init_602 : decode cX6_init 602 = .ok (.iastore, 1) := by decide +kernel
theorem dX6_init_603 : decode cX6_init 603 = .ok (.dup, 1) := by decide +kernel
theorem dX6_init_604 : decode cX6_init 604 = .ok (.bipush 21, 2) := by decide +kernel
theorem dX6_init_606 : decode cX6_init 606 = .ok (.bipush 32, 2) := by decide +kernel
theorem dX6_init_608 : decode cX6_init 608 = .ok (.iastore, 1) := by decide +kernel
theorem dX6_init_609 : decode cX6_init 609 = .ok (.dup, 1) := by decide +kernel
theorem dX6_init_610 : decode cX6_init 610 = .ok (.bipush 22, 2) := by decide +kernel
theorem dX6_init_612 : decode cX6_init 612 = .ok (.bipush 32, 2) := by decide +kernel
theorem dX6_init_614 : decode cX6_init 614 = .ok (.iastore, 1) := by decide +kernel
theorem dX6_init_615 : decode cX6_init 615 = .ok (.dup, 1) := by decide +kernel
theorem dX6_init_616 : decode cX6_init 616 = .ok (.bipush 23, 2) := by decide +kernel
theorem dX6_init_618 : decode cX6_init 618 = .ok (.bipush 32, 2) := by decide +kernel
theorem dX6_init_620 : decode cX6_init 620 = .ok (.iastore, 1) := by decide +kernel
theorem dX6_init_621 : decode cX6_init 621 = .ok (.dup, 1) := by decide +kernel
theorem dX6_init_622 : decode cX6_init 622 = .ok (.bipush 24, 2) := by decide +kernel
theorem dX6_init_624 : decode cX6_init 624 = .ok (.bipush 114, 2) := by decide +kernel
theorem dX6_init_626 : decode cX6_init 626 = .ok (.iastore, 1) := by decide +kernel
theorem dX6_init_627 : decode cX6_init 627 = .ok (.dup, 1) := by decide +kernel
theorem dX6_init_628 : decode cX6_init 628 = .ok (.bipush 25, 2) := by decide +kernel
theorem dX6_init_630 : decode cX6_init 630 = .ok (.bipush 111, 2) := by decide +kernel
theorem dX6_init_632 : decode cX6_init 632 = .ok (.iastore, 1) := by decide +kernel
theorem dX6_init_633 : decode cX6_init 633 = .ok (.dup, 1) := by decide +kernel
theorem dX6_init_634 : decode cX6_init 634 = .ok (.bipush 26, 2) := by decide +kernel
theorem dX6_init_636 : decode cX6_init 636 = .ok (.bipush 119, 2) := by decide +kernel
theorem dX6_init_638 : decode cX6_init 638 = .ok (.iastore, 1) := by decide +kernel
theorem dX6_init_639 : decode cX6_init 639 = .ok (.dup, 1) := by decide +kernel
theorem dX6_init_640 : decode cX6_init 640 = .ok (.bipush 27, 2) := by decide +kernel
theorem dX6_init_642 : decode cX6_init 642 = .ok (.bipush 32, 2) := by decide +kernel
theorem dX6_init_644 : decode cX6_init 644 = .ok (.iastore, 1) := by decide +kernel
theorem dX6_init_645 : decode cX6_init 645 = .ok (.dup, 1) := by decide +kernel
theorem dX6_init_646 : decode cX6_init 646 = .ok (.bipush 28, 2) := by decide +kernel
theorem dX6_init_648 : decode cX6_init 648 = .ok (.bipush 32, 2) := by decide +kernel
theorem dX6_init_650 : decode cX6_init 650 = .ok (.iastore, 1) := by decide +kernel
theorem dX6_init_651 : decode cX6_init 651 = .ok (.dup, 1) := by decide +kernel
theorem dX6_init_652 : decode cX6_init 652 = .ok (.bipush 29, 2) := by decide +kernel
theorem dX6_init_654 : decode cX6_init 654 = .ok (.bipush 32, 2) := by decide +kernel
theorem dX6_init_656 : decode cX6_init 656 = .ok (.iastore, 1) := by decide +kernel
theorem dX6_init_657 : decode cX6_init 657 = .ok (.dup, 1) := by decide +kernel
theorem dX6_init_658 : decode cX6_init 658 = .ok (.bipush 30, 2) := by decide +kernel
theorem dX6_init_660 : decode cX6_init 660 = .ok (.bipush 32, 2) := by decide +kernel
theorem dX6_init_662 : decode cX6_init 662 = .ok (.iastore, 1) := by decide +kernel
theorem dX6_init_663 : decode cX6_init 663 = .ok (.dup, 1) := by decide +kernel
theorem dX6_init_664 : decode cX6_init 664 = .ok (.bipush 31, 2) := by decide +kernel
theorem dX6_init_666 : decode cX6_init 666 = .ok (.bipush 32, 2) := by decide +kernel
theorem dX6_init_668 : decode cX6_init 668 = .ok (.iastore, 1) := by decide +kernel
theorem dX6_init_669 : decode cX6_init 669 = .ok (.dup, 1) := by decide +kernel
theorem dX6_init_670 : decode cX6_init 670 = .ok (.bipush 32, 2) := by decide +kernel
theorem dX6_init_672 : decode cX6_init 672 = .ok (.bipush 112, 2) := by decide +kernel
theorem dX6_init_674 : decode cX6_init 674 = .ok (.iastore, 1) := by decide +kernel
theorem dX6_init_675 : decode cX6_init 675 = .ok (.dup, 1) := by decide +kernel
theorem dX6_init_676 : decode cX6_init 676 = .ok (.bipush 33, 2) := by decide +kernel
theorem dX6_init_678 : decode cX6_init 678 = .ok (.bipush 108, 2) := by decide +kernel
theorem dX6_init_680 : decode cX6_init 680 = .ok (.iastore, 1) := by decide +kernel
theorem dX6_init_681 : decode cX6_init 681 = .ok (.dup, 1) := by decide +kernel
theorem dX6_init_682 : decode cX6_init 682 = .ok (.bipush 34, 2) := by decide +kernel
theorem dX6_init_684 : decode cX6_init 684 = .ok (.bipush 97, 2) := by decide +kernel
theorem dX6_init_686 : decode cX6_init 686 = .ok (.iastore, 1) := by decide +kernel
theorem dX6_init_687 : decode cX6_init 687 = .ok (.dup, 1) := by decide +kernel
theorem dX6_init_688 : decode cX6_init 688 = .ok (.bipush 35, 2) := by decide +kernel
theorem dX6_init_690 : decode cX6_init 690 = .ok (.bipush 99, 2) := by decide +kernel
theorem dX6_init_692 : decode cX6_init 692 = .ok (.iastore, 1) := by decide +kernel
theorem dX6_init_693 : decode cX6_init 693 = .ok (.dup, 1) := by decide +kernel
theorem dX6_init_694 : decode cX6_init 694 = .ok (.bipush 36, 2) := by decide +kernel
theorem dX6_init_696 : decode cX6_init 696 = .ok (.bipush 101, 2) := by decide +kernel
theorem dX6_init_698 : decode cX6_init 698 = .ok (.iastore, 1) := by decide +kernel
theorem dX6_init_699 : decode cX6_init 699 = .ok (.dup, 1) := by decide +kernel
theorem dX6_init_700 : decode cX6_init 700 = .ok (.bipush 37, 2) := by decide +kernel
theorem dX6_init_702 : decode cX6_init 702 = .ok (.bipush 32, 2) := by decide +kernel
theorem dX6_init_704 : decode cX6_init 704 = .ok (.iastore, 1) := by decide +kernel
theorem dX6_init_705 : decode cX6_init 705 = .ok (.dup, 1) := by decide +kernel
theorem dX6_init_706 : decode cX6_init 706 = .ok (.bipush 38, 2) := by decide +kernel
theorem dX6_init_708 : decode cX6_init 708 = .ok (.bipush 32, 2) := by decide +kernel
theorem dX6_init_710 : decode cX6_init 710 = .ok (.iastore, 1) := by decide +kernel
theorem dX6_init_711 : decode cX6_init 711 = .ok (.dup, 1) := by decide +kernel
theorem dX6_init_712 : decode cX6_init 712 = .ok (.bipush 39, 2) := by decide +kernel
theorem dX6_init_714 : decode cX6_init 714 = .ok (.bipush 32, 2) := by decide +kernel
theorem dX6_init_716 : decode cX6_init 716 = .ok (.iastore, 1) := by decide +kernel
theorem dX6_init_717 : decode cX6_init 717 = .ok (.dup, 1) := by decide +kernel
theorem dX6_init_718 : decode cX6_init 718 = .ok (.bipush 40, 2) := by decide +kernel
theorem dX6_init_720 : decode cX6_init 720 = .ok (.bipush 109, 2) := by decide +kernel
theorem dX6_init_722 : decode cX6_init 722 = .ok (.iastore, 1) := by decide +kernel
theorem dX6_init_723 : decode cX6_init 723 = .ok (.dup, 1) := by decide +kernel
theorem dX6_init_724 : decode cX6_init 724 = .ok (.bipush 41, 2) := by decide +kernel
theorem dX6_init_726 : decode cX6_init 726 = .ok (.bipush 111, 2) := by decide +kernel
theorem dX6_init_728 : decode cX6_init 728 = .ok (.iastore, 1) := by decide +kernel
theorem dX6_init_729 : decode cX6_init 729 = .ok (.dup, 1) := by decide +kernel
theorem dX6_init_730 : decode cX6_init 730 = .ok (.bipush 42, 2) := by decide +kernel
theorem dX6_init_732 : decode cX6_init 732 = .ok (.bipush 114, 2) := by decide +kernel
theorem dX6_init_734 : decode cX6_init 734 = .ok (.iastore, 1) := by decide +kernel
theorem dX6_init_735 : decode cX6_init 735 = .ok (.dup, 1) := by decide +kernel
theorem dX6_init_736 : decode cX6_init 736 = .ok (.bipush 43, 2) := by decide +kernel
theorem dX6_init_738 : decode cX6_init 738 = .ok (.bipush 101, 2) := by decide +kernel
theorem dX6_init_740 : decode cX6_init 740 = .ok (.iastore, 1) := by decide +kernel
theorem dX6_init_741 : decode cX6_init 741 = .ok (.dup, 1) := by decide +kernel
theorem dX6_init_742 : decode cX6_init 742 = .ok (.bipush 44, 2) := by decide +kernel
theorem dX6_init_744 : decode cX6_init 744 = .ok (.bipush 32, 2) := by decide +kernel
theorem dX6_init_746 : decode cX6_init 746 = .ok (.iastore, 1) := by decide +kernel
theorem dX6_init_747 : decode cX6_init 747 = .ok (.dup, 1) := by decide +kernel
theorem dX6_init_748 : decode cX6_init 748 = .ok (.bipush 45, 2) := by decide +kernel
theorem dX6_init_750 : decode cX6_init 750 = .ok (.bipush 32, 2) := by decide +kernel
theorem dX6_init_752 : decode cX6_init 752 = .ok (.iastore, 1) := by decide +kernel
theorem dX6_init_753 : decode cX6_init 753 = .ok (.dup, 1) := by decide +kernel
theorem dX6_init_754 : decode cX6_init 754 = .ok (.bipush 46, 2) := by decide +kernel
theorem dX6_init_756 : decode cX6_init 756 = .ok (.bipush 32, 2) := by decide +kernel
theorem dX6_init_758 : decode cX6_init 758 = .ok (.iastore, 1) := by decide +kernel
theorem dX6_init_759 : decode cX6_init 759 = .ok (.dup, 1) := by decide +kernel
theorem dX6_init_760 : decode cX6_init 760 = .ok (.bipush 47, 2) := by decide +kernel
theorem dX6_init_762 : decode cX6_init 762 = .ok (.bipush 32, 2) := by decide +kernel
theorem dX6_init_764 : decode cX6_init 764 = .ok (.iastore, 1) := by decide +kernel
theorem dX6_init_765 : decode cX6_init 765 = .ok (.dup, 1) := by decide +kernel
theorem dX6_init_766 : decode cX6_init 766 = .ok (.bipush 48, 2) := by decide +kernel
theorem dX6_init_768 : decode cX6_init 768 = .ok (.bipush 112, 2) := by decide +kernel
theorem dX6_init_770 : decode cX6_init 770 = .ok (.iastore, 1) := by decide +kernel
theorem dX6_init_771 : decode cX6_init 771 = .ok (.dup, 1) := by decide +kernel
theorem dX6_init_772 : decode cX6_init 772 = .ok (.bipush 49, 2) := by decide +kernel
theorem dX6_init_774 : decode cX6_init 774 = .ok (.bipush 117, 2) := by decide +kernel
theorem dX6_init_776 : decode cX6_init 776 = .ok (.iastore, 1) := by decide +kernel
theorem dX6_init_777 : decode cX6_init 777 = .ok (.dup, 1) := by decide +kernel
theorem dX6_init_778 : decode cX6_init 778 = .ok (.bipush 50, 2) := by decide +kernel
theorem dX6_init_780 : decode cX6_init 780 = .ok (.bipush 108, 2) := by decide +kernel
theorem dX6_init_782 : decode cX6_init 782 = .ok (.iastore, 1) := by decide +kernel
theorem dX6_init_783 : decode cX6_init 783 = .ok (.dup, 1) := by decide +kernel
theorem dX6_init_784 : decode cX6_init 784 = .ok (.bipush 51, 2) := by decide +kernel
theorem dX6_init_786 : decode cX6_init 786 = .ok (.bipush 108, 2) := by decide +kernel
theorem dX6_init_788 : decode cX6_init 788 = .ok (.iastore, 1) := by decide +kernel
theorem dX6_init_789 : decode cX6_init 789 = .ok (.dup, 1) := by decide +kernel
theorem dX6_init_790 : decode cX6_init 790 = .ok (.bipush 52, 2) := by decide +kernel
theorem dX6_init_792 : decode cX6_init 792 = .ok (.bipush 32, 2) := by decide +kernel
theorem dX6_init_794 : decode cX6_init 794 = .ok (.iastore, 1) := by decide +kernel
theorem dX6_init_795 : decode cX6_init 795 = .ok (.dup, 1) := by decide +kernel
theorem dX6_init_796 : decode cX6_init 796 = .ok (.bipush 53, 2) := by decide +kernel
theorem dX6_init_798 : decode cX6_init 798 = .ok (.bipush 32, 2) := by decide +kernel
theorem dX6_init_800 : decode cX6_init 800 = .ok (.iastore, 1) := by decide +kernel
theorem dX6_init_801 : decode cX6_init 801 = .ok (.dup, 1) := by decide +kernel
theorem dX6_init_802 : decode cX6_init 802 = .ok (.bipush 54, 2) := by decide +kernel
theorem dX6_init_804 : decode cX6_init 804 = .ok (.bipush 32, 2) := by decide +kernel
theorem dX6_init_806 : decode cX6_init 806 = .ok (.iastore, 1) := by decide +kernel
theorem dX6_init_807 : decode cX6_init 807 = .ok (.dup, 1) := by decide +kernel
theorem dX6_init_808 : decode cX6_init 808 = .ok (.bipush 55, 2) := by decide +kernel
theorem dX6_init_810 : decode cX6_init 810 = .ok (.bipush 32, 2) := by decide +kernel
theorem dX6_init_812 : decode cX6_init 812 = .ok (.iastore, 1) := by decide +kernel
theorem dX6_init_813 : decode cX6_init 813 = .ok (.dup, 1) := by decide +kernel
theorem dX6_init_814 : decode cX6_init 814 = .ok (.bipush 56, 2) := by decide +kernel
theorem dX6_init_816 : decode cX6_init 816 = .ok (.bipush 102, 2) := by decide +kernel
theorem dX6_init_818 : decode cX6_init 818 = .ok (.iastore, 1) := by decide +kernel
theorem dX6_init_819 : decode cX6_init 819 = .ok (.dup, 1) := by decide +kernel
theorem dX6_init_820 : decode cX6_init 820 = .ok (.bipush 57, 2) := by decide +kernel
theorem dX6_init_822 : decode cX6_init 822 = .ok (.bipush 97, 2) := by decide +kernel
theorem dX6_init_824 : decode cX6_init 824 = .ok (.iastore, 1) := by decide +kernel
theorem dX6_init_825 : decode cX6_init 825 = .ok (.dup, 1) := by decide +kernel
theorem dX6_init_826 : decode cX6_init 826 = .ok (.bipush 58, 2) := by decide +kernel
theorem dX6_init_828 : decode cX6_init 828 = .ok (.bipush 99, 2) := by decide +kernel
theorem dX6_init_830 : decode cX6_init 830 = .ok (.iastore, 1) := by decide +kernel
theorem dX6_init_831 : decode cX6_init 831 = .ok (.dup, 1) := by decide +kernel
theorem dX6_init_832 : decode cX6_init 832 = .ok (.bipush 59, 2) := by decide +kernel
theorem dX6_init_834 : decode cX6_init 834 = .ok (.bipush 101, 2) := by decide +kernel
theorem dX6_init_836 : decode cX6_init 836 = .ok (.iastore, 1) := by decide +kernel
theorem dX6_init_837 : decode cX6_init 837 = .ok (.dup, 1) := by decide +kernel
theorem dX6_init_838 : decode cX6_init 838 = .ok (.bipush 60, 2) := by decide +kernel
theorem dX6_init_840 : decode cX6_init 840 = .ok (.bipush 32, 2) := by decide +kernel
theorem dX6_init_842 : decode cX6_init 842 = .ok (.iastore, 1) := by decide +kernel
theorem dX6_init_843 : decode cX6_init 843 = .ok (.dup, 1) := by decide +kernel
theorem dX6_init_844 : decode cX6_init 844 = .ok (.bipush 61, 2) := by decide +kernel
theorem dX6_init_846 : decode cX6_init 846 = .ok (.bipush 32, 2) := by decide +kernel
theorem dX6_init_848 : decode cX6_init 848 = .ok (.iastore, 1) := by decide +kernel
theorem dX6_init_849 : decode cX6_init 849 = .ok (.dup, 1) := by decide +kernel
theorem dX6_init_850 : decode cX6_init 850 = .ok (.bipush 62, 2) := by decide +kernel
theorem dX6_init_852 : decode cX6_init 852 = .ok (.bipush 32, 2) := by decide +kernel
theorem dX6_init_854 : decode cX6_init 854 = .ok (.iastore, 1) := by decide +kernel
theorem dX6_init_855 : decode cX6_init 855 = .ok (.dup, 1) := by decide +kernel
theorem dX6_init_856 : decode cX6_init 856 = .ok (.bipush 63, 2) := by decide +kernel
theorem dX6_init_858 : decode cX6_init 858 = .ok (.bipush 32, 2) := by decide +kernel
theorem dX6_init_860 : decode cX6_init 860 = .ok (.iastore, 1) := by decide +kernel
theorem dX6_init_861 : decode cX6_init 861 = .ok (.dup, 1) := by decide +kernel
theorem dX6_init_862 : decode cX6_init 862 = .ok (.bipush 64, 2) := by decide +kernel
theorem dX6_init_864 : decode cX6_init 864 = .ok (.bipush 109, 2) := by decide +kernel
theorem dX6_init_866 : decode cX6_init 866 = .ok (.iastore, 1) := by decide +kernel
theorem dX6_init_867 : decode cX6_init 867 = .ok (.dup, 1) := by decide +kernel
theorem dX6_init_868 : decode cX6_init 868 = .ok (.bipush 65, 2) := by decide +kernel
theorem dX6_init_870 : decode cX6_init 870 = .ok (.bipush 101, 2) := by decide +kernel
theorem dX6_init_872 : decode cX6_init 872 = .ok (.iastore, 1) := by decide +kernel
theorem dX6_init_873 : decode cX6_init 873 = .ok (.dup, 1) := by decide +kernel
theorem dX6_init_874 : decode cX6_init 874 = .ok (.bipush 66, 2) := by decide +kernel
theorem dX6_init_876 : decode cX6_init 876 = .ok (.bipush 110, 2) := by decide +kernel
theorem dX6_init_878 : decode cX6_init 878 = .ok (.iastore, 1) := by decide +kernel
theorem dX6_init_879 : decode cX6_init 879 = .ok (.dup, 1) := by decide +kernel
theorem dX6_init_880 : decode cX6_init 880 = .ok (.bipush 67, 2) := by decide +kernel
theorem dX6_init_882 : decode cX6_init 882 = .ok (.bipush 100, 2) := by decide +kernel
theorem dX6_init_884 : decode cX6_init 884 = .ok (.iastore, 1) := by decide +kernel
theorem dX6_init_885 : decode cX6_init 885 = .ok (.dup, 1) := by decide +kernel
theorem dX6_init_886 : decode cX6_init 886 = .ok (.bipush 68, 2) := by decide +kernel
theorem dX6_init_888 : decode cX6_init 888 = .ok (.bipush 101, 2) := by decide +kernel
theorem dX6_init_890 : decode cX6_init 890 = .ok (.iastore, 1) := by decide +kernel
theorem dX6_init_891 : decode cX6_init 891 = .ok (.dup, 1) := by decide +kernel
theorem dX6_init_892 : decode cX6_init 892 = .ok (.bipush 69, 2) := by decide +kernel
theorem dX6_init_894 : decode cX6_init 894 = .ok (.bipush 100, 2) := by decide +kernel
theorem dX6_init_896 : decode cX6_init 896 = .ok (.iastore, 1) := by decide +kernel
theorem dX6_init_897 : decode cX6_init 897 = .ok (.dup, 1) := by decide +kernel
theorem dX6_init_898 : decode cX6_init 898 = .ok (.bipush 70, 2) := by decide +kernel
theorem dX6_init_900 : decode cX6_init 900 = .ok (.bipush 32, 2) := by decide +kernel
theorem dX6_init_902 : decode cX6_init 902 = .ok (.iastore, 1) := by decide +kernel
theorem dX6_init_903 : decode cX6_init 903 = .ok (.dup, 1) := by decide +kernel
theorem dX6_init_904 : decode cX6_init 904 = .ok (.bipush 71, 2) := by decide +kernel
theorem dX6_init_906 : decode cX6_init 906 = .ok (.bipush 32, 2) := by decide +kernel
theorem dX6_init_908 : decode cX6_init 908 = .ok (.iastore, 1) := by decide +kernel
theorem dX6_init_909 : decode cX6_init 909 = .ok (.dup, 1) := by decide +kernel
theorem dX6_init_910 : decode cX6_init 910 = .ok (.bipush 72, 2) := by decide +kernel
theorem dX6_init_912 : decode cX6_init 912 = .ok (.bipush 111, 2) := by decide +kernel
theorem dX6_init_914 : decode cX6_init 914 = .ok (.iastore, 1) := by decide +kernel
theorem dX6_init_915 : decode cX6_init 915 = .ok (.dup, 1) := by decide +kernel
theorem dX6_init_916 : decode cX6_init 916 = .ok (.bipush 73, 2) := by decide +kernel
theorem dX6_init_918 : decode cX6_init 918 = .ok (.bipush 114, 2) := by decide +kernel
theorem dX6_init_920 : decode cX6_init 920 = .ok (.iastore, 1) := by decide +kernel
theorem dX6_init_921 : decode cX6_init 921 = .ok (.dup, 1) := by decide +kernel
theorem dX6_init_922 : decode cX6_init 922 = .ok (.bipush 74, 2) := by decide +kernel
theorem dX6_init_924 : decode cX6_init 924 = .ok (.bipush 32, 2) := by decide +kernel
theorem dX6_init_926 : decode cX6_init 926 = .ok (.iastore, 1) := by decide +kernel
theorem dX6_init_927 : decode cX6_init 927 = .ok (.dup, 1) := by decide +kernel
theorem dX6_init_928 : decode cX6_init 928 = .ok (.bipush 75, 2) := by decide +kernel
theorem dX6_init_930 : decode cX6_init 930 = .ok (.bipush 32, 2) := by decide +kernel
theorem dX6_init_932 : decode cX6_init 932 = .ok (.iastore, 1) := by decide +kernel
theorem dX6_init_933 : decode cX6_init 933 = .ok (.dup, 1) := by decide +kernel
theorem dX6_init_934 : decode cX6_init 934 = .ok (.bipush 76, 2) := by decide +kernel
theorem dX6_init_936 : decode cX6_init 936 = .ok (.bipush 32, 2) := by decide +kernel
theorem dX6_init_938 : decode cX6_init 938 = .ok (.iastore, 1) := by decide +kernel
theorem dX6_init_939 : decode cX6_init 939 = .ok (.dup, 1) := by decide +kernel
theorem dX6_init_940 : decode cX6_init 940 = .ok (.bipush 77, 2) := by decide +kernel
theorem dX6_init_942 : decode cX6_init 942 = .ok (.bipush 32, 2) := by decide +kernel
theorem dX6_init_944 : decode cX6_init 944 = .ok (.iastore, 1) := by decide +kernel
theorem dX6_init_945 : decode cX6_init 945 = .ok (.dup, 1) := by decide +kernel
theorem dX6_init_946 : decode cX6_init 946 = .ok (.bipush 78, 2) := by decide +kernel
theorem dX6_init_948 : decode cX6_init 948 = .ok (.bipush 32, 2) := by decide +kernel
theorem dX6_init_950 : decode cX6_init 950 = .ok (.iastore, 1) := by decide +kernel
theorem dX6_init_951 : decode cX6_init 951 = .ok (.dup, 1) := by decide +kernel
theorem dX6_init_952 : decode cX6_init 952 = .ok (.bipush 79, 2) := by decide +kernel
theorem dX6_init_954 : decode cX6_init 954 = .ok (.bipush 32, 2) := by decide +kernel
theorem dX6_init_956 : decode cX6_init 956 = .ok (.iastore, 1) := by decide +kernel
theorem dX6_init_957 : decode cX6_init 957 = .ok (.dup, 1) := by decide +kernel
theorem dX6_init_958 : decode cX6_init 958 = .ok (.bipush 80, 2) := by decide +kernel
theorem dX6_init_960 : decode cX6_init 960 = .ok (.bipush 97, 2) := by decide +kernel
theorem dX6_init_962 : decode cX6_init 962 = .ok (.iastore, 1) := by decide +kernel
theorem dX6_init_963 : decode cX6_init 963 = .ok (.dup, 1) := by decide +kernel
theorem dX6_init_964 : decode cX6_init 964 = .ok (.bipush 81, 2) := by decide +kernel
theorem dX6_init_966 : decode cX6_init 966 = .ok (.bipush 110, 2) := by decide +kernel
theorem dX6_init_968 : decode cX6_init 968 = .ok (.iastore, 1) := by decide +kernel
theorem dX6_init_969 : decode cX6_init 969 = .ok (.dup, 1) := by decide +kernel
theorem dX6_init_970 : decode cX6_init 970 = .ok (.bipush 82, 2) := by decide +kernel
theorem dX6_init_972 : decode cX6_init 972 = .ok (.bipush 100, 2) := by decide +kernel
theorem dX6_init_974 : decode cX6_init 974 = .ok (.iastore, 1) := by decide +kernel
theorem dX6_init_975 : decode cX6_init 975 = .ok (.dup, 1) := by decide +kernel
theorem dX6_init_976 : decode cX6_init 976 = .ok (.bipush 83, 2) := by decide +kernel
theorem dX6_init_978 : decode cX6_init 978 = .ok (.bipush 32, 2) := by decide +kernel
theorem dX6_init_980 : decode cX6_init 980 = .ok (.iastore, 1) := by decide +kernel
theorem dX6_init_981 : decode cX6_init 981 = .ok (.dup, 1) := by decide +kernel
theorem dX6_init_982 : decode cX6_init 982 = .ok (.bipush 84, 2) := by decide +kernel
theorem dX6_init_984 : decode cX6_init 984 = .ok (.bipush 32, 2) := by decide +kernel
theorem dX6_init_986 : decode cX6_init 986 = .ok (.iastore, 1) := by decide +kernel
theorem dX6_init_987 : decode cX6_init 987 = .ok (.dup, 1) := by decide +kernel
theorem dX6_init_988 : decode cX6_init 988 = .ok (.bipush 85, 2) := by decide +kernel
theorem dX6_init_990 : decode cX6_init 990 = .ok (.bipush 32, 2) := by decide +kernel
theorem dX6_init_992 : decode cX6_init 992 = .ok (.iastore, 1) := by decide +kernel
theorem dX6_init_993 : decode cX6_init 993 = .ok (.dup, 1) := by decide +kernel
theorem dX6_init_994 : decode cX6_init 994 = .ok (.bipush 86, 2) := by decide +kernel
theorem dX6_init_996 : decode cX6_init 996 = .ok (.bipush 32, 2) := by decide +kernel
theorem dX6_init_998 : decode cX6_init 998 = .ok (.iastore, 1) := by decide +kernel
theorem dX6_init_999 : decode cX6_init 999 = .ok (.dup, 1) := by decide +kernel
theorem dX6_init_1000 : decode cX6_init 1000 = .ok (.bipush 87, 2) := by decide +kernel
theorem dX6_init_1002 : decode cX6_init 1002 = .ok (.bipush 32, 2) := by decide +kernel
theorem dX6_init_1004 : decode cX6_init 1004 = .ok (.iastore, 1) := by decide +kernel
theorem dX6_init_1005 : decode cX6_init 1005 = .ok (.dup, 1) := by decide +kernel
theorem dX6_init_1006 : decode cX6_init 1006 = .ok (.bipush 88, 2) := by decide +kernel
theorem dX6_init_1008 : decode cX6_init 1008 = .ok (.bipush 110, 2) := by decide +kernel
theorem dX6_init_1010 : decode cX6_init 1010 = .ok (.iastore, 1) := by decide +kernel
theorem dX6_init_1011 : decode cX6_init 1011 = .ok (.dup, 1) := by decide +kernel
theorem dX6_init_1012 : decode cX6_init 1012 = .ok (.bipush 89, 2) := by decide +kernel
theorem dX6_init_1014 : decode cX6_init 1014 = .ok (.bipush 111, 2) := by decide +kernel
theorem dX6_init_1016 : decode cX6_init 1016 = .ok (.iastore, 1) := by decide +kernel
theorem dX6_init_1017 : decode cX6_init 1017 = .ok (.dup, 1) := by decide +kernel
theorem dX6_init_1018 : decode cX6_init 1018 = .ok (.bipush 90, 2) := by decide +kernel
theorem dX6_init_1020 : decode cX6_init 1020 = .ok (.bipush 116, 2) := by decide +kernel
theorem dX6_init_1022 : decode cX6_init 1022 = .ok (.iastore, 1) := by decide +kernel
theorem dX6_init_1023 : decode cX6_init 1023 = .ok (.dup, 1) := by decide +kernel
theorem dX6_init_1024 : decode cX6_init 1024 = .ok (.bipush 91, 2) := by decide +kernel
theorem dX6_init_1026 : decode cX6_init 1026 = .ok (.bipush 32, 2) := by decide +kernel
theorem dX6_init_1028 : decode cX6_init 1028 = .ok (.iastore, 1) := by decide +kernel
theorem dX6_init_1029 : decode cX6_init 1029 = .ok (.dup, 1) := by decide +kernel
theorem dX6_init_1030 : decode cX6_init 1030 = .ok (.bipush 92, 2) := by decide +kernel
theorem dX6_init_1032 : decode cX6_init 1032 = .ok (.bipush 32, 2) := by decide +kernel
theorem dX6_init_1034 : decode cX6_init 1034 = .ok (.iastore, 1) := by decide +kernel
theorem dX6_init_1035 : decode cX6_init 1035 = .ok (.dup, 1) := by decide +kernel
theorem dX6_init_1036 : decode cX6_init 1036 = .ok (.bipush 93, 2) := by decide +kernel
theorem dX6_init_1038 : decode cX6_init 1038 = .ok (.bipush 32, 2) := by decide +kernel
theorem dX6_init_1040 : decode cX6_init 1040 = .ok (.iastore, 1) := by decide +kernel
theorem dX6_init_1041 : decode cX6_init 1041 = .ok (.dup, 1) := by decide +kernel
theorem dX6_init_1042 : decode cX6_init 1042 = .ok (.bipush 94, 2) := by decide +kernel
theorem dX6_init_1044 : decode cX6_init 1044 = .ok (.bipush 32, 2) := by decide +kernel
theorem dX6_init_1046 : decode cX6_init 1046 = .ok (.iastore, 1) := by decide +kernel
theorem dX6_init_1047 : decode cX6_init 1047 = .ok (.dup, 1) := by decide +kernel
theorem dX6_init_1048 : decode cX6_init 1048 = .ok (.bipush 95, 2) := by decide +kernel
theorem dX6_init_1050 : decode cX6_init 1050 = .ok (.bipush 32, 2) := by decide +kernel
theorem dX6_init_1052 : decode cX6_init 1052 = .ok (.iastore, 1) := by decide +kernel
theorem dX6_init_1053 : decode cX6_init 1053 = .ok (.putfield 46, 3) := by decide +kernel
theorem dX6_init_1056 : decode cX6_init 1056 = .ok (.aload_n 0, 1) := by decide +kernel
theorem dX6_init_1057 : decode cX6_init 1057 = .ok (.sipush 200, 3) := by decide +kernel
theorem dX6_init_1060 : decode cX6_init 1060 = .ok (.newarray .int, 2) := by decide +kernel
theorem dX6_init_1062 : decode cX6_init 1062 = .ok (.putfield 49, 3) := by decide +kernel
theorem dX6_init_1065 : decode cX6_init 1065 = .ok (.aload_n 0, 1) := by decide +kernel
theorem dX6_init_1066 : decode cX6_init 1066 = .ok (.sipush 200, 3) := by decide +kernel
theorem dX6_init_1069 : decode cX6_init 1069 = .ok (.newarray .int, 2) := by decide +kernel
theorem dX6_init_1071 : decode cX6_init 1071 = .ok (.putfield 52, 3) := by decide +kernel
theorem dX6_init_1074 : decode cX6_init 1074 = .ok (.aload_n 0, 1) := by decide +kernel
theorem dX6_init_1075 : decode cX6_init 1075 = .ok (.bipush 6, 2) := by decide +kernel
theorem dX6_init_1077 : decode cX6_init 1077 = .ok (.newarray .int, 2) := by decide +kernel
theorem dX6_init_1079 : decode cX6_init 1079 = .ok (.putfield 55, 3) := by decide +kernel
theorem dX6_init_1082 : decode cX6_init 1082 = .ok (.aload_n 0, 1) := by decide +kernel
theorem dX6_init_1083 : decode cX6_init 1083 = .ok (.bipush 48, 2) := by decide +kernel
theorem dX6_init_1085 : decode cX6_init 1085 = .ok (.newarray .int, 2) := by decide +kernel
theorem dX6_init_1087 : decode cX6_init 1087 = .ok (.putfield 58, 3) := by decide +kernel
theorem dX6_init_1090 : decode cX6_init 1090 = .ok (.iconst 0, 1) := by decide +kernel
theorem dX6_init_1091 : decode cX6_init 1091 = .ok (.istore_n 1, 1) := by decide +kernel
theorem dX6_init_1092 : decode cX6_init 1092 = .ok (.iload_n 1, 1) := by decide +kernel
theorem dX6_init_1093 : decode cX6_init 1093 = .ok (.bipush 61, 2) := by decide +kernel
theorem dX6_init_1095 : decode cX6_init 1095 = .ok (.if_icmp .ge 21, 3) := by decide +kernel
theorem dX6_init_1098 : decode cX6_init 1098 = .ok (.aload_n 0, 1) := by decide +kernel
theorem dX6_init_1099 : decode cX6_init 1099 = .ok (.getfield 22, 3) := by decide +kernel
theorem dX6_init_1102 : decode cX6_init 1102 = .ok (.iload_n 1, 1) := by decide +kernel
theorem dX6_init_1103 : decode cX6_init 1103 = .ok (.aload_n 0, 1) := by decide +kernel
theorem dX6_init_1104 : decode cX6_init 1104 = .ok (.getfield 43, 3) := by decide +kernel
theorem dX6_init_1107 : decode cX6_init 1107 = .ok (.iload_n 1, 1) := by decide +kernel
theorem dX6_init_1108 : decode cX6_init 1108 = .ok (.iaload, 1) := by decide +kernel
theorem dX6_init_1109 : decode cX6_init 1109 = .ok (.iastore, 1) := by decide +kernel
theorem dX6_init_1110 : decode cX6_init 1110 = .ok (.iinc 1 1, 3) := by decide +kernel
theorem dX6_init_1113 : decode cX6_init 1113 = .ok (.goto (-21), 3) := by decide +kernel
theorem dX6_init_1116 : decode cX6_init 1116 = .ok (.aload_n 0, 1) := by decide +kernel
theorem dX6_init_1117 : decode cX6_init 1117 = .ok (.bipush 61, 2) := by decide +kernel
theorem dX6_init_1119 : decode cX6_init 1119 = .ok (.putfield 61, 3) := by decide +kernel
theorem dX6_init_1122 : decode cX6_init 1122 = .ok (.aload_n 0, 1) := by decide +kernel
theorem dX6_init_1123 : decode cX6_init 1123 = .ok (.invokevirtual 65, 3) := by decide +kernel
theorem dX6_init_1126 : decode cX6_init 1126 = .ok (.pop, 1) := by decide +kernel
theorem dX6_init_1127 : decode cX6_init 1127 = .ok (.return_, 1) := by decide +kernel
theorem dX6_in_0 : decode cX6_in 0 = .ok (.iload_n 0, 1) := by decide +kernel
theorem dX6_in_1 : decode cX6_in 1 = .ok (.iload_n 1, 1) := by decide +kernel
theorem dX6_in_2 : decode cX6_in 2 = .ok (.if_icmp .lt 12, 3) := by decide +kernel
theorem dX6_in_5 : decode cX6_in 5 = .ok (.iload_n 0, 1) := by decide +kernel
theorem dX6_in_6 : decode cX6_in 6 = .ok (.iload_n 2, 1) := by decide +kernel
theorem dX6_in_7 : decode cX6_in 7 = .ok (.if_icmp .gt 7, 3) := by decide +kernel
theorem dX6_in_10 : decode cX6_in 10 = .ok (.iconst 1, 1) := by decide +kernel
theorem dX6_in_11 : decode cX6_in 11 = .ok (.goto 4, 3) := by decide +kernel
theorem dX6_in_14 : decode cX6_in 14 = .ok (.iconst 0, 1) := by decide +kernel
theorem dX6_in_15 : decode cX6_in 15 = .ok (.ireturn, 1) := by decide +kernel
theorem dX6_within_0 : decode cX6_within 0 = .ok (.iload_n 0, 1) := by decide +kernel
theorem dX6_within_1 : decode cX6_within 1 = .ok (.iload_n 1, 1) := by decide +kernel
theorem dX6_within_2 : decode cX6_within 2 = .ok (.if_icmp .ge 7, 3) := by decide +kernel
theorem dX6_within_5 : decode cX6_within 5 = .ok (.iload_n 1, 1) := by decide +kernel
theorem dX6_within_6 : decode cX6_within 6 = .ok (.goto 13, 3) := by decide +kernel
theorem dX6_within_9 : decode cX6_within 9 = .ok (.iload_n 0, 1) := by decide +kernel
theorem dX6_within_10 : decode cX6_within 10 = .ok (.iload_n 2, 1) := by decide +kernel
theorem dX6_within_11 : decode cX6_within 11 = .ok (.if_icmp .le 7, 3) := by decide +kernel
theorem dX6_within_14 : decode cX6_within 14 = .ok (.iload_n 2, 1) := by decide +kernel
theorem dX6_within_15 : decode cX6_within 15 = .ok (.goto 4, 3) := by decide +kernel
theorem dX6_within_18 : decode cX6_within 18 = .ok (.iload_n 0, 1) := by decide +kernel
theorem dX6_within_19 : decode cX6_within 19 = .ok (.ireturn, 1) := by decide +kernel
theorem dX6_isLoop_0 : decode cX6_isLoop 0 = .ok (.iload_n 0, 1) := by decide +kernel
theorem dX6_isLoop_1 : decode cX6_isLoop 1 = .ok (.iconst 0, 1) := by decide +kernel
theorem dX6_isLoop_2 : decode cX6_isLoop 2 = .ok (.bipush 47, 2) := by decide +kernel
theorem dX6_isLoop_4 : decode cX6_isLoop 4 = .ok (.invokestatic 69, 3) := by decide +kernel
theorem dX6_isLoop_7 : decode cX6_isLoop 7 = .ok (.ireturn, 1) := by decide +kernel
theorem dX6_isPull_0 : decode cX6_isPull 0 = .ok (.iload_n 0, 1) := by decide +kernel
theorem dX6_isPull_1 : decode cX6_isPull 1 = .ok (.iconst 0, 1) := by decide +kernel
theorem dX6_isPull_2 : decode cX6_isPull 2 = .ok (.bipush 99, 2) := by decide +kernel
theorem dX6_isPull_4 : decode cX6_isPull 4 = .ok (.invokestatic 69, 3) := by decide +kernel
theorem dX6_isPull_7 : decode cX6_isPull 7 = .ok (.ireturn, 1) := by decide +kernel
theorem dX6_manyIn_0 : decode cX6_manyIn 0 = .ok (.iconst 0, 1) := by decide +kernel
theorem dX6_manyIn_1 : decode cX6_manyIn 1 = .ok (.istore_n 2, 1) := by decide +kernel
theorem dX6_manyIn_2 : decode cX6_manyIn 2 = .ok (.iconst 0, 1) := by decide +kernel
theorem dX6_manyIn_3 : decode cX6_manyIn 3 = .ok (.istore_n 3, 1) := by decide +kernel
theorem dX6_manyIn_4 : decode cX6_manyIn 4 = .ok (.iload_n 3, 1) := by decide +kernel
theorem dX6_manyIn_5 : decode cX6_manyIn 5 = .ok (.bipush 48, 2) := by decide +kernel
theorem dX6_manyIn_7 : decode cX6_manyIn 7 = .ok (.if_icmp .ge 31, 3) := by decide +kernel
theorem dX6_manyIn_10 : decode cX6_manyIn 10 = .ok (.iload_n 2, 1) := by decide +kernel
theorem dX6_manyIn_11 : decode cX6_manyIn 11 = .ok (.iload_n 1, 1) := by decide +kernel
theorem dX6_manyIn_12 : decode cX6_manyIn 12 = .ok (.ifCond .ne 12, 3) := by decide +kernel
theorem dX6_manyIn_15 : decode cX6_manyIn 15 = .ok (.aload_n 0, 1) := by decide +kernel
theorem dX6_manyIn_16 : decode cX6_manyIn 16 = .ok (.getfield 16, 3) := by decide +kernel
theorem dX6_manyIn_19 : decode cX6_manyIn 19 = .ok (.iload_n 3, 1) := by decide +kernel
theorem dX6_manyIn_20 : decode cX6_manyIn 20 = .ok (.iaload, 1) := by decide +kernel
theorem dX6_manyIn_21 : decode cX6_manyIn 21 = .ok (.goto 9, 3) := by decide +kernel
theorem dX6_manyIn_24 : decode cX6_manyIn 24 = .ok (.aload_n 0, 1) := by decide +kernel
theorem dX6_manyIn_25 : decode cX6_manyIn 25 = .ok (.getfield 19, 3) := by decide +kernel
theorem dX6_manyIn_28 : decode cX6_manyIn 28 = .ok (.iload_n 3, 1) := by decide +kernel
theorem dX6_manyIn_29 : decode cX6_manyIn 29 = .ok (.iaload, 1) := by decide +kernel
theorem dX6_manyIn_30 : decode cX6_manyIn 30 = .ok (.iadd, 1) := by decide +kernel
theorem dX6_manyIn_31 : decode cX6_manyIn 31 = .ok (.istore_n 2, 1) := by decide +kernel
theorem dX6_manyIn_32 : decode cX6_manyIn 32 = .ok (.iinc 3 1, 3) := by decide +kernel
theorem dX6_manyIn_35 : decode cX6_manyIn 35 = .ok (.goto (-31), 3) := by decide +kernel
theorem dX6_manyIn_38 : decode cX6_manyIn 38 = .ok (.iload_n 2, 1) := by decide +kernel
theorem dX6_manyIn_39 : decode cX6_manyIn 39 = .ok (.ireturn, 1) := by decide +kernel
theorem dX6_count_0 : decode cX6_count 0 = .ok (.iload_n 1, 1) := by decide +kernel
theorem dX6_count_1 : decode cX6_count 1 = .ok (.tableswitch 56 0 4 #[35, 35, 41, 46, 51], 35) := by decide +kernel
theorem dX6_count_36 : decode cX6_count 36 = .ok (.aload_n 0, 1) := by decide +kernel
theorem dX6_count_37 : decode cX6_count 37 = .ok (.iload_n 1, 1) := by decide +kernel
theorem dX6_count_38 : decode cX6_count 38 = .ok (.invokevirtual 73, 3) := by decide +kernel
theorem dX6_count_41 : decode cX6_count 41 = .ok (.ireturn, 1) := by decide +kernel
theorem dX6_count_42 : decode cX6_count 42 = .ok (.aload_n 0, 1) := by decide +kernel
theorem dX6_count_43 : decode cX6_count 43 = .ok (.getfield 77, 3) := by decide +kernel
theorem dX6_count_46 : decode cX6_count 46 = .ok (.ireturn, 1) := by decide +kernel
theorem dX6_count_47 : decode cX6_count 47 = .ok (.aload_n 0, 1) := by decide +kernel
theorem dX6_count_48 : decode cX6_count 48 = .ok (.getfield 80, 3) := by decide +kernel
theorem dX6_count_51 : decode cX6_count 51 = .ok (.ireturn, 1) := by decide +kernel
theorem dX6_count_52 : decode cX6_count 52 = .ok (.aload_n 0, 1) := by decide +kernel
theorem dX6_count_53 : decode cX6_count 53 = .ok (.getfield 61, 3) := by decide +kernel
theorem dX6_count_56 : decode cX6_count 56 = .ok (.ireturn, 1) := by decide +kernel
theorem dX6_count_57 : decode cX6_count 57 = .ok (.bipush (-2), 2) := by decide +kernel
theorem dX6_count_59 : decode cX6_count 59 = .ok (.ireturn, 1) := by decide +kernel
theorem dX6_isByte_0 : decode cX6_isByte 0 = .ok (.iload_n 0, 1) := by decide +kernel
theorem dX6_isByte_1 : decode cX6_isByte 1 = .ok (.iconst 0, 1) := by decide +kernel
theorem dX6_isByte_2 : decode cX6_isByte 2 = .ok (.sipush 255, 3) := by decide +kernel
theorem dX6_isByte_5 : decode cX6_isByte 5 = .ok (.invokestatic 69, 3) := by decide +kernel
theorem dX6_isByte_8 : decode cX6_isByte 8 = .ok (.ireturn, 1) := by decide +kernel
theorem dX6_feed_0 : decode cX6_feed 0 = .ok (.iload_n 1, 1) := by decide +kernel
theorem dX6_feed_1 : decode cX6_feed 1 = .ok (.iconst 1, 1) := by decide +kernel
theorem dX6_feed_2 : decode cX6_feed 2 = .ok (.iconst 5, 1) := by decide +kernel
theorem dX6_feed_3 : decode cX6_feed 3 = .ok (.invokestatic 69, 3) := by decide +kernel
theorem dX6_feed_6 : decode cX6_feed 6 = .ok (.ifCond .eq 41, 3) := by decide +kernel
theorem dX6_feed_9 : decode cX6_feed 9 = .ok (.iload_n 2, 1) := by decide +kernel
theorem dX6_feed_10 : decode cX6_feed 10 = .ok (.invokestatic 83, 3) := by decide +kernel
theorem dX6_feed_13 : decode cX6_feed 13 = .ok (.ifCond .eq 34, 3) := by decide +kernel
theorem dX6_feed_16 : decode cX6_feed 16 = .ok (.iload_n 3, 1) := by decide +kernel
theorem dX6_feed_17 : decode cX6_feed 17 = .ok (.invokestatic 83, 3) := by decide +kernel
theorem dX6_feed_20 : decode cX6_feed 20 = .ok (.ifCond .eq 27, 3) := by decide +kernel
theorem dX6_feed_23 : decode cX6_feed 23 = .ok (.iload 4, 2) := by decide +kernel
theorem dX6_feed_25 : decode cX6_feed 25 = .ok (.invokestatic 83, 3) := by decide +kernel
theorem dX6_feed_28 : decode cX6_feed 28 = .ok (.ifCond .eq 19, 3) := by decide +kernel
theorem dX6_feed_31 : decode cX6_feed 31 = .ok (.iload 5, 2) := by decide +kernel
theorem dX6_feed_33 : decode cX6_feed 33 = .ok (.invokestatic 83, 3) := by decide +kernel
theorem dX6_feed_36 : decode cX6_feed 36 = .ok (.ifCond .eq 11, 3) := by decide +kernel
theorem dX6_feed_39 : decode cX6_feed 39 = .ok (.iload 6, 2) := by decide +kernel
theorem dX6_feed_41 : decode cX6_feed 41 = .ok (.invokestatic 83, 3) := by decide +kernel
theorem dX6_feed_44 : decode cX6_feed 44 = .ok (.ifCond .ne 6, 3) := by decide +kernel
theorem dX6_feed_47 : decode cX6_feed 47 = .ok (.bipush (-2), 2) := by decide +kernel
theorem dX6_feed_49 : decode cX6_feed 49 = .ok (.ireturn, 1) := by decide +kernel
theorem dX6_feed_50 : decode cX6_feed 50 = .ok (.aload_n 0, 1) := by decide +kernel
theorem dX6_feed_51 : decode cX6_feed 51 = .ok (.getfield 61, 3) := by decide +kernel
theorem dX6_feed_54 : decode cX6_feed 54 = .ok (.iload_n 1, 1) := by decide +kernel
theorem dX6_feed_55 : decode cX6_feed 55 = .ok (.iadd, 1) := by decide +kernel
theorem dX6_feed_56 : decode cX6_feed 56 = .ok (.sipush 160, 3) := by decide +kernel
theorem dX6_feed_59 : decode cX6_feed 59 = .ok (.if_icmp .le 6, 3) := by decide +kernel
theorem dX6_feed_62 : decode cX6_feed 62 = .ok (.bipush (-4), 2) := by decide +kernel
theorem dX6_feed_64 : decode cX6_feed 64 = .ok (.ireturn, 1) := by decide +kernel
theorem dX6_feed_65 : decode cX6_feed 65 = .ok (.iconst 0, 1) := by decide +kernel
theorem dX6_feed_66 : decode cX6_feed 66 = .ok (.istore 7, 2) := by decide +kernel
theorem dX6_feed_68 : decode cX6_feed 68 = .ok (.iload 7, 2) := by decide +kernel
theorem dX6_feed_70 : decode cX6_feed 70 = .ok (.iload_n 1, 1) := by decide +kernel
theorem dX6_feed_71 : decode cX6_feed 71 = .ok (.if_icmp .ge 71, 3) := by decide +kernel
theorem dX6_feed_74 : decode cX6_feed 74 = .ok (.aload_n 0, 1) := by decide +kernel
theorem dX6_feed_75 : decode cX6_feed 75 = .ok (.getfield 22, 3) := by decide +kernel
theorem dX6_feed_78 : decode cX6_feed 78 = .ok (.aload_n 0, 1) := by decide +kernel
theorem dX6_feed_79 : decode cX6_feed 79 = .ok (.getfield 61, 3) := by decide +kernel
theorem dX6_feed_82 : decode cX6_feed 82 = .ok (.iload 7, 2) := by decide +kernel
theorem dX6_feed_84 : decode cX6_feed 84 = .ok (.ifCond .ne 7, 3) := by decide +kernel
theorem dX6_feed_87 : decode cX6_feed 87 = .ok (.iload_n 2, 1) := by decide +kernel
theorem dX6_feed_88 : decode cX6_feed 88 = .ok (.goto 37, 3) := by decide +kernel
theorem dX6_feed_91 : decode cX6_feed 91 = .ok (.iload 7, 2) := by decide +kernel
theorem dX6_feed_93 : decode cX6_feed 93 = .ok (.iconst 1, 1) := by decide +kernel
theorem dX6_feed_94 : decode cX6_feed 94 = .ok (.if_icmp .ne 7, 3) := by decide +kernel
theorem dX6_feed_97 : decode cX6_feed 97 = .ok (.iload_n 3, 1) := by decide +kernel
theorem dX6_feed_98 : decode cX6_feed 98 = .ok (.goto 27, 3) := by decide +kernel
theorem dX6_feed_101 : decode cX6_feed 101 = .ok (.iload 7, 2) := by decide +kernel
theorem dX6_feed_103 : decode cX6_feed 103 = .ok (.iconst 2, 1) := by decide +kernel
theorem dX6_feed_104 : decode cX6_feed 104 = .ok (.if_icmp .ne 8, 3) := by decide +kernel
theorem dX6_feed_107 : decode cX6_feed 107 = .ok (.iload 4, 2) := by decide +kernel
theorem dX6_feed_109 : decode cX6_feed 109 = .ok (.goto 16, 3) := by decide +kernel
theorem dX6_feed_112 : decode cX6_feed 112 = .ok (.iload 7, 2) := by decide +kernel
theorem dX6_feed_114 : decode cX6_feed 114 = .ok (.iconst 3, 1) := by decide +kernel
theorem dX6_feed_115 : decode cX6_feed 115 = .ok (.if_icmp .ne 8, 3) := by decide +kernel
theorem dX6_feed_118 : decode cX6_feed 118 = .ok (.iload 5, 2) := by decide +kernel
theorem dX6_feed_120 : decode cX6_feed 120 = .ok (.goto 5, 3) := by decide +kernel
theorem dX6_feed_123 : decode cX6_feed 123 = .ok (.iload 6, 2) := by decide +kernel
theorem dX6_feed_125 : decode cX6_feed 125 = .ok (.iastore, 1) := by decide +kernel
theorem dX6_feed_126 : decode cX6_feed 126 = .ok (.aload_n 0, 1) := by decide +kernel
theorem dX6_feed_127 : decode cX6_feed 127 = .ok (.dup, 1) := by decide +kernel
theorem dX6_feed_128 : decode cX6_feed 128 = .ok (.getfield 61, 3) := by decide +kernel
theorem dX6_feed_131 : decode cX6_feed 131 = .ok (.iconst 1, 1) := by decide +kernel
theorem dX6_feed_132 : decode cX6_feed 132 = .ok (.iadd, 1) := by decide +kernel
theorem dX6_feed_133 : decode cX6_feed 133 = .ok (.putfield 61, 3) := by decide +kernel
theorem dX6_feed_136 : decode cX6_feed 136 = .ok (.iinc 7 1, 3) := by decide +kernel
theorem dX6_feed_139 : decode cX6_feed 139 = .ok (.goto (-71), 3) := by decide +kernel
theorem dX6_feed_142 : decode cX6_feed 142 = .ok (.aload_n 0, 1) := by decide +kernel
theorem dX6_feed_143 : decode cX6_feed 143 = .ok (.getfield 61, 3) := by decide +kernel
theorem dX6_feed_146 : decode cX6_feed 146 = .ok (.ireturn, 1) := by decide +kernel
theorem dX6_wordFrom_0 : decode cX6_wordFrom 0 = .ok (.iconst 0, 1) := by decide +kernel
theorem dX6_wordFrom_1 : decode cX6_wordFrom 1 = .ok (.istore_n 3, 1) := by decide +kernel
theorem dX6_wordFrom_2 : decode cX6_wordFrom 2 = .ok (.iload_n 3, 1) := by decide +kernel
theorem dX6_wordFrom_3 : decode cX6_wordFrom 3 = .ok (.bipush 12, 2) := by decide +kernel
theorem dX6_wordFrom_5 : decode cX6_wordFrom 5 = .ok (.if_icmp .ge 96, 3) := by decide +kernel
theorem dX6_wordFrom_8 : decode cX6_wordFrom 8 = .ok (.iload_n 2, 1) := by decide +kernel
theorem dX6_wordFrom_9 : decode cX6_wordFrom 9 = .ok (.iload_n 1, 1) := by decide +kernel
theorem dX6_wordFrom_10 : decode cX6_wordFrom 10 = .ok (.isub, 1) := by decide +kernel
theorem dX6_wordFrom_11 : decode cX6_wordFrom 11 = .ok (.bipush 8, 2) := by decide +kernel
theorem dX6_wordFrom_13 : decode cX6_wordFrom 13 = .ok (.if_icmp .gt 7, 3) := by decide +kernel
theorem dX6_wordFrom_16 : decode cX6_wordFrom 16 = .ok (.iconst 1, 1) := by decide +kernel
theorem dX6_wordFrom_17 : decode cX6_wordFrom 17 = .ok (.goto 4, 3) := by decide +kernel
theorem dX6_wordFrom_20 : decode cX6_wordFrom 20 = .ok (.iconst 0, 1) := by decide +kernel
theorem dX6_wordFrom_21 : decode cX6_wordFrom 21 = .ok (.istore 4, 2) := by decide +kernel
theorem dX6_wordFrom_23 : decode cX6_wordFrom 23 = .ok (.iconst 0, 1) := by decide +kernel
theorem dX6_wordFrom_24 : decode cX6_wordFrom 24 = .ok (.istore 5, 2) := by decide +kernel
theorem dX6_wordFrom_26 : decode cX6_wordFrom 26 = .ok (.iload 5, 2) := by decide +kernel
theorem dX6_wordFrom_28 : decode cX6_wordFrom 28 = .ok (.bipush 8, 2) := by decide +kernel
theorem dX6_wordFrom_30 : decode cX6_wordFrom 30 = .ok (.if_icmp .ge 58, 3) := by decide +kernel
theorem dX6_wordFrom_33 : decode cX6_wordFrom 33 = .ok (.iload 4, 2) := by decide +kernel
theorem dX6_wordFrom_35 : decode cX6_wordFrom 35 = .ok (.ifCond .eq 53, 3) := by decide +kernel
theorem dX6_wordFrom_38 : decode cX6_wordFrom 38 = .ok (.aload_n 0, 1) := by decide +kernel
theorem dX6_wordFrom_39 : decode cX6_wordFrom 39 = .ok (.getfield 46, 3) := by decide +kernel
theorem dX6_wordFrom_42 : decode cX6_wordFrom 42 = .ok (.bipush 8, 2) := by decide +kernel
theorem dX6_wordFrom_44 : decode cX6_wordFrom 44 = .ok (.iload_n 3, 1) := by decide +kernel
theorem dX6_wordFrom_45 : decode cX6_wordFrom 45 = .ok (.imul, 1) := by decide +kernel
theorem dX6_wordFrom_46 : decode cX6_wordFrom 46 = .ok (.iload 5, 2) := by decide +kernel
theorem dX6_wordFrom_48 : decode cX6_wordFrom 48 = .ok (.iadd, 1) := by decide +kernel
theorem dX6_wordFrom_49 : decode cX6_wordFrom 49 = .ok (.iaload, 1) := by decide +kernel
theorem dX6_wordFrom_50 : decode cX6_wordFrom 50 = .ok (.iload_n 1, 1) := by decide +kernel
theorem dX6_wordFrom_51 : decode cX6_wordFrom 51 = .ok (.iload 5, 2) := by decide +kernel
theorem dX6_wordFrom_53 : decode cX6_wordFrom 53 = .ok (.iadd, 1) := by decide +kernel
theorem dX6_wordFrom_54 : decode cX6_wordFrom 54 = .ok (.iload_n 2, 1) := by decide +kernel
theorem dX6_wordFrom_55 : decode cX6_wordFrom 55 = .ok (.if_icmp .ge 15, 3) := by decide +kernel
theorem dX6_wordFrom_58 : decode cX6_wordFrom 58 = .ok (.aload_n 0, 1) := by decide +kernel
theorem dX6_wordFrom_59 : decode cX6_wordFrom 59 = .ok (.getfield 22, 3) := by decide +kernel
theorem dX6_wordFrom_62 : decode cX6_wordFrom 62 = .ok (.iload_n 1, 1) := by decide +kernel
theorem dX6_wordFrom_63 : decode cX6_wordFrom 63 = .ok (.iload 5, 2) := by decide +kernel
theorem dX6_wordFrom_65 : decode cX6_wordFrom 65 = .ok (.iadd, 1) := by decide +kernel
theorem dX6_wordFrom_66 : decode cX6_wordFrom 66 = .ok (.iaload, 1) := by decide +kernel
theorem dX6_wordFrom_67 : decode cX6_wordFrom 67 = .ok (.goto 5, 3) := by decide +kernel
theorem dX6_wordFrom_70 : decode cX6_wordFrom 70 = .ok (.bipush 32, 2) := by decide +kernel
theorem dX6_wordFrom_72 : decode cX6_wordFrom 72 = .ok (.if_icmp .ne 7, 3) := by decide +kernel
theorem dX6_wordFrom_75 : decode cX6_wordFrom 75 = .ok (.iconst 1, 1) := by decide +kernel
theorem dX6_wordFrom_76 : decode cX6_wordFrom 76 = .ok (.goto 4, 3) := by decide +kernel
theorem dX6_wordFrom_79 : decode cX6_wordFrom 79 = .ok (.iconst 0, 1) := by decide +kernel
theorem dX6_wordFrom_80 : decode cX6_wordFrom 80 = .ok (.istore 4, 2) := by decide +kernel
theorem dX6_wordFrom_82 : decode cX6_wordFrom 82 = .ok (.iinc 5 1, 3) := by decide +kernel
theorem dX6_wordFrom_85 : decode cX6_wordFrom 85 = .ok (.goto (-59), 3) := by decide +kernel
theorem dX6_wordFrom_88 : decode cX6_wordFrom 88 = .ok (.iload 4, 2) := by decide +kernel
theorem dX6_wordFrom_90 : decode cX6_wordFrom 90 = .ok (.ifCond .eq 5, 3) := by decide +kernel
theorem dX6_wordFrom_93 : decode cX6_wordFrom 93 = .ok (.iload_n 3, 1) := by decide +kernel
theorem dX6_wordFrom_94 : decode cX6_wordFrom 94 = .ok (.ireturn, 1) := by decide +kernel
theorem dX6_wordFrom_95 : decode cX6_wordFrom 95 = .ok (.iinc 3 1, 3) := by decide +kernel
theorem dX6_wordFrom_98 : decode cX6_wordFrom 98 = .ok (.goto (-96), 3) := by decide +kernel
theorem dX6_wordFrom_101 : decode cX6_wordFrom 101 = .ok (.bipush 12, 2) := by decide +kernel
theorem dX6_wordFrom_103 : decode cX6_wordFrom 103 = .ok (.ireturn, 1) := by decide +kernel
theorem dX6_next_0 : decode cX6_next 0 = .ok (.aload_n 0, 1) := by decide +kernel
theorem dX6_next_1 : decode cX6_next 1 = .ok (.getfield 87, 3) := by decide +kernel
theorem dX6_next_4 : decode cX6_next 4 = .ok (.aload_n 0, 1) := by decide +kernel
theorem dX6_next_5 : decode cX6_next 5 = .ok (.getfield 61, 3) := by decide +kernel
theorem dX6_next_8 : decode cX6_next 8 = .ok (.if_icmp .ge 44, 3) := by decide +kernel
theorem dX6_next_11 : decode cX6_next 11 = .ok (.aload_n 0, 1) := by decide +kernel
theorem dX6_next_12 : decode cX6_next 12 = .ok (.getfield 22, 3) := by decide +kernel
theorem dX6_next_15 : decode cX6_next 15 = .ok (.aload_n 0, 1) := by decide +kernel
theorem dX6_next_16 : decode cX6_next 16 = .ok (.getfield 87, 3) := by decide +kernel
theorem dX6_next_19 : decode cX6_next 19 = .ok (.iaload, 1) := by decide +kernel
theorem dX6_next_20 : decode cX6_next 20 = .ok (.bipush 32, 2) := by decide +kernel
theorem dX6_next_22 : decode cX6_next 22 = .ok (.if_icmp .eq 17, 3) := by decide +kernel
theorem dX6_next_25 : decode cX6_next 25 = .ok (.aload_n 0, 1) := by decide +kernel
theorem dX6_next_26 : decode cX6_next 26 = .ok (.getfield 22, 3) := by decide +kernel
theorem dX6_next_29 : decode cX6_next 29 = .ok (.aload_n 0, 1) := by decide +kernel
theorem dX6_next_30 : decode cX6_next 30 = .ok (.getfield 87, 3) := by decide +kernel
theorem dX6_next_33 : decode cX6_next 33 = .ok (.iaload, 1) := by decide +kernel
theorem dX6_next_34 : decode cX6_next 34 = .ok (.bipush 10, 2) := by decide +kernel
theorem dX6_next_36 : decode cX6_next 36 = .ok (.if_icmp .ne 16, 3) := by decide +kernel
theorem dX6_next_39 : decode cX6_next 39 = .ok (.aload_n 0, 1) := by decide +kernel
theorem dX6_next_40 : decode cX6_next 40 = .ok (.dup, 1) := by decide +kernel
theorem dX6_next_41 : decode cX6_next 41 = .ok (.getfield 87, 3) := by decide +kernel
theorem dX6_next_44 : decode cX6_next 44 = .ok (.iconst 1, 1) := by decide +kernel
theorem dX6_next_45 : decode cX6_next 45 = .ok (.iadd, 1) := by decide +kernel
theorem dX6_next_46 : decode cX6_next 46 = .ok (.putfield 87, 3) := by decide +kernel
theorem dX6_next_49 : decode cX6_next 49 = .ok (.goto (-49), 3) := by decide +kernel
theorem dX6_next_52 : decode cX6_next 52 = .ok (.aload_n 0, 1) := by decide +kernel
theorem dX6_next_53 : decode cX6_next 53 = .ok (.aload_n 0, 1) := by decide +kernel
theorem dX6_next_54 : decode cX6_next 54 = .ok (.getfield 87, 3) := by decide +kernel
theorem dX6_next_57 : decode cX6_next 57 = .ok (.putfield 90, 3) := by decide +kernel
theorem dX6_next_60 : decode cX6_next 60 = .ok (.aload_n 0, 1) := by decide +kernel
theorem dX6_next_61 : decode cX6_next 61 = .ok (.iconst 0, 1) := by decide +kernel
theorem dX6_next_62 : decode cX6_next 62 = .ok (.putfield 93, 3) := by decide +kernel
theorem dX6_next_65 : decode cX6_next 65 = .ok (.aload_n 0, 1) := by decide +kernel
theorem dX6_next_66 : decode cX6_next 66 = .ok (.iconst 0, 1) := by decide +kernel
theorem dX6_next_67 : decode cX6_next 67 = .ok (.putfield 96, 3) := by decide +kernel
theorem dX6_next_70 : decode cX6_next 70 = .ok (.aload_n 0, 1) := by decide +kernel
theorem dX6_next_71 : decode cX6_next 71 = .ok (.getfield 87, 3) := by decide +kernel
theorem dX6_next_74 : decode cX6_next 74 = .ok (.aload_n 0, 1) := by decide +kernel
theorem dX6_next_75 : decode cX6_next 75 = .ok (.getfield 61, 3) := by decide +kernel
theorem dX6_next_78 : decode cX6_next 78 = .ok (.if_icmp .ne 4, 3) := by decide +kernel
theorem dX6_next_81 : decode cX6_next 81 = .ok (.return_, 1) := by decide +kernel
theorem dX6_next_82 : decode cX6_next 82 = .ok (.aload_n 0, 1) := by decide +kernel
theorem dX6_next_83 : decode cX6_next 83 = .ok (.getfield 22, 3) := by decide +kernel
theorem dX6_next_86 : decode cX6_next 86 = .ok (.aload_n 0, 1) := by decide +kernel
theorem dX6_next_87 : decode cX6_next 87 = .ok (.getfield 87, 3) := by decide +kernel
theorem dX6_next_90 : decode cX6_next 90 = .ok (.iaload, 1) := by decide +kernel
theorem dX6_next_91 : decode cX6_next 91 = .ok (.istore_n 1, 1) := by decide +kernel
theorem dX6_next_92 : decode cX6_next 92 = .ok (.iload_n 1, 1) := by decide +kernel
theorem dX6_next_93 : decode cX6_next 93 = .ok (.bipush 97, 2) := by decide +kernel
theorem dX6_next_95 : decode cX6_next 95 = .ok (.bipush 122, 2) := by decide +kernel
theorem dX6_next_97 : decode cX6_next 97 = .ok (.invokestatic 69, 3) := by decide +kernel
theorem dX6_next_100 : decode cX6_next 100 = .ok (.ifCond .eq 117, 3) := by decide +kernel
theorem dX6_next_103 : decode cX6_next 103 = .ok (.aload_n 0, 1) := by decide +kernel
theorem dX6_next_104 : decode cX6_next 104 = .ok (.getfield 87, 3) := by decide +kernel
theorem dX6_next_107 : decode cX6_next 107 = .ok (.aload_n 0, 1) := by decide +kernel
theorem dX6_next_108 : decode cX6_next 108 = .ok (.getfield 61, 3) := by decide +kernel
theorem dX6_next_111 : decode cX6_next 111 = .ok (.if_icmp .ge 35, 3) := by decide +kernel
theorem dX6_next_114 : decode cX6_next 114 = .ok (.aload_n 0, 1) := by decide +kernel
theorem dX6_next_115 : decode cX6_next 115 = .ok (.getfield 22, 3) := by decide +kernel
theorem dX6_next_118 : decode cX6_next 118 = .ok (.aload_n 0, 1) := by decide +kernel
theorem dX6_next_119 : decode cX6_next 119 = .ok (.getfield 87, 3) := by decide +kernel
theorem dX6_next_122 : decode cX6_next 122 = .ok (.iaload, 1) := by decide +kernel
theorem dX6_next_123 : decode cX6_next 123 = .ok (.bipush 97, 2) := by decide +kernel
theorem dX6_next_125 : decode cX6_next 125 = .ok (.bipush 122, 2) := by decide +kernel
theorem dX6_next_127 : decode cX6_next 127 = .ok (.invokestatic 69, 3) := by decide +kernel
theorem dX6_next_130 : decode cX6_next 130 = .ok (.ifCond .eq 16, 3) := by decide +kernel
theorem dX6_next_133 : decode cX6_next 133 = .ok (.aload_n 0, 1) := by decide +kernel
theorem dX6_next_134 : decode cX6_next 134 = .ok (.dup, 1) := by decide +kernel
theorem dX6_next_135 : decode cX6_next 135 = .ok (.getfield 87, 3) := by decide +kernel
theorem dX6_next_138 : decode cX6_next 138 = .ok (.iconst 1, 1) := by decide +kernel
theorem dX6_next_139 : decode cX6_next 139 = .ok (.iadd, 1) := by decide +kernel
theorem dX6_next_140 : decode cX6_next 140 = .ok (.putfield 87, 3) := by decide +kernel
theorem dX6_next_143 : decode cX6_next 143 = .ok (.goto (-40), 3) := by decide +kernel
theorem dX6_next_146 : decode cX6_next 146 = .ok (.aload_n 0, 1) := by decide +kernel
theorem dX6_next_147 : decode cX6_next 147 = .ok (.aload_n 0, 1) := by decide +kernel
theorem dX6_next_148 : decode cX6_next 148 = .ok (.getfield 90, 3) := by decide +kernel
theorem dX6_next_151 : decode cX6_next 151 = .ok (.aload_n 0, 1) := by decide +kernel
theorem dX6_next_152 : decode cX6_next 152 = .ok (.getfield 87, 3) := by decide +kernel
theorem dX6_next_155 : decode cX6_next 155 = .ok (.invokevirtual 99, 3) := by decide +kernel
theorem dX6_next_158 : decode cX6_next 158 = .ok (.istore_n 2, 1) := by decide +kernel
theorem dX6_next_159 : decode cX6_next 159 = .ok (.aload_n 0, 1) := by decide +kernel
theorem dX6_next_160 : decode cX6_next 160 = .ok (.iload_n 2, 1) := by decide +kernel
theorem dX6_next_161 : decode cX6_next 161 = .ok (.iconst 3, 1) := by decide +kernel
theorem dX6_next_162 : decode cX6_next 162 = .ok (.if_icmp .ge 7, 3) := by decide +kernel
theorem dX6_next_165 : decode cX6_next 165 = .ok (.iconst 3, 1) := by decide +kernel
theorem dX6_next_166 : decode cX6_next 166 = .ok (.goto 29, 3) := by decide +kernel
theorem dX6_next_169 : decode cX6_next 169 = .ok (.iload_n 2, 1) := by decide +kernel
theorem dX6_next_170 : decode cX6_next 170 = .ok (.bipush 9, 2) := by decide +kernel
theorem dX6_next_172 : decode cX6_next 172 = .ok (.if_icmp .ge 7, 3) := by decide +kernel
theorem dX6_next_175 : decode cX6_next 175 = .ok (.iconst 2, 1) := by decide +kernel
theorem dX6_next_176 : decode cX6_next 176 = .ok (.goto 19, 3) := by decide +kernel
theorem dX6_next_179 : decode cX6_next 179 = .ok (.iload_n 2, 1) := by decide +kernel
theorem dX6_next_180 : decode cX6_next 180 = .ok (.bipush 12, 2) := by decide +kernel
theorem dX6_next_182 : decode cX6_next 182 = .ok (.if_icmp .ne 7, 3) := by decide +kernel
theorem dX6_next_185 : decode cX6_next 185 = .ok (.iconst (-1), 1) := by decide +kernel
theorem dX6_next_186 : decode cX6_next 186 = .ok (.goto 9, 3) := by decide +kernel
theorem dX6_next_189 : decode cX6_next 189 = .ok (.iconst 4, 1) := by decide +kernel
theorem dX6_next_190 : decode cX6_next 190 = .ok (.iload_n 2, 1) := by decide +kernel
theorem dX6_next_191 : decode cX6_next 191 = .ok (.iadd, 1) := by decide +kernel
theorem dX6_next_192 : decode cX6_next 192 = .ok (.bipush 9, 2) := by decide +kernel
theorem dX6_next_194 : decode cX6_next 194 = .ok (.isub, 1) := by decide +kernel
theorem dX6_next_195 : decode cX6_next 195 = .ok (.putfield 93, 3) := by decide +kernel
theorem dX6_next_198 : decode cX6_next 198 = .ok (.aload_n 0, 1) := by decide +kernel
theorem dX6_next_199 : decode cX6_next 199 = .ok (.iload_n 2, 1) := by decide +kernel
theorem dX6_next_200 : decode cX6_next 200 = .ok (.iconst 3, 1) := by decide +kernel
theorem dX6_next_201 : decode cX6_next 201 = .ok (.if_icmp .ge 7, 3) := by decide +kernel
theorem dX6_next_204 : decode cX6_next 204 = .ok (.iload_n 2, 1) := by decide +kernel
theorem dX6_next_205 : decode cX6_next 205 = .ok (.goto 6, 3) := by decide +kernel
theorem dX6_next_208 : decode cX6_next 208 = .ok (.iload_n 2, 1) := by decide +kernel
theorem dX6_next_209 : decode cX6_next 209 = .ok (.iconst 3, 1) := by decide +kernel
theorem dX6_next_210 : decode cX6_next 210 = .ok (.isub, 1) := by decide +kernel
theorem dX6_next_211 : decode cX6_next 211 = .ok (.putfield 96, 3) := by decide +kernel
theorem dX6_next_214 : decode cX6_next 214 = .ok (.goto 189, 3) := by decide +kernel
theorem dX6_next_217 : decode cX6_next 217 = .ok (.iload_n 1, 1) := by decide +kernel
theorem dX6_next_218 : decode cX6_next 218 = .ok (.bipush 48, 2) := by decide +kernel
theorem dX6_next_220 : decode cX6_next 220 = .ok (.bipush 57, 2) := by decide +kernel
theorem dX6_next_222 : decode cX6_next 222 = .ok (.invokestatic 69, 3) := by decide +kernel
theorem dX6_next_225 : decode cX6_next 225 = .ok (.ifCond .eq 101, 3) := by decide +kernel
theorem dX6_next_228 : decode cX6_next 228 = .ok (.iconst 0, 1) := by decide +kernel
theorem dX6_next_229 : decode cX6_next 229 = .ok (.istore_n 2, 1) := by decide +kernel
theorem dX6_next_230 : decode cX6_next 230 = .ok (.aload_n 0, 1) := by decide +kernel
theorem dX6_next_231 : decode cX6_next 231 = .ok (.getfield 87, 3) := by decide +kernel
theorem dX6_next_234 : decode cX6_next 234 = .ok (.aload_n 0, 1) := by decide +kernel
theorem dX6_next_235 : decode cX6_next 235 = .ok (.getfield 61, 3) := by decide +kernel
theorem dX6_next_238 : decode cX6_next 238 = .ok (.if_icmp .ge 71, 3) := by decide +kernel
theorem dX6_next_241 : decode cX6_next 241 = .ok (.aload_n 0, 1) := by decide +kernel
theorem dX6_next_242 : decode cX6_next 242 = .ok (.getfield 22, 3) := by decide +kernel
theorem dX6_next_245 : decode cX6_next 245 = .ok (.aload_n 0, 1) := by decide +kernel
theorem dX6_next_246 : decode cX6_next 246 = .ok (.getfield 87, 3) := by decide +kernel
theorem dX6_next_249 : decode cX6_next 249 = .ok (.iaload, 1) := by decide +kernel
theorem dX6_next_250 : decode cX6_next 250 = .ok (.bipush 48, 2) := by decide +kernel
theorem dX6_next_252 : decode cX6_next 252 = .ok (.bipush 57, 2) := by decide +kernel
theorem dX6_next_254 : decode cX6_next 254 = .ok (.invokestatic 69, 3) := by decide +kernel
theorem dX6_next_257 : decode cX6_next 257 = .ok (.ifCond .eq 52, 3) := by decide +kernel
theorem dX6_next_260 : decode cX6_next 260 = .ok (.aload_n 0, 1) := by decide +kernel
theorem dX6_next_261 : decode cX6_next 261 = .ok (.iload_n 2, 1) := by decide +kernel
theorem dX6_next_262 : decode cX6_next 262 = .ok (.iconst 4, 1) := by decide +kernel
theorem dX6_next_263 : decode cX6_next 263 = .ok (.if_icmp .ge 26, 3) := by decide +kernel
theorem dX6_next_266 : decode cX6_next 266 = .ok (.bipush 10, 2) := by decide +kernel
theorem dX6_next_268 : decode cX6_next 268 = .ok (.aload_n 0, 1) := by decide +kernel
theorem dX6_next_269 : decode cX6_next 269 = .ok (.getfield 96, 3) := by decide +kernel
theorem dX6_next_272 : decode cX6_next 272 = .ok (.imul, 1) := by decide +kernel
theorem dX6_next_273 : decode cX6_next 273 = .ok (.aload_n 0, 1) := by decide +kernel
theorem dX6_next_274 : decode cX6_next 274 = .ok (.getfield 22, 3) := by decide +kernel
theorem dX6_next_277 : decode cX6_next 277 = .ok (.aload_n 0, 1) := by decide +kernel
theorem dX6_next_278 : decode cX6_next 278 = .ok (.getfield 87, 3) := by decide +kernel
theorem dX6_next_281 : decode cX6_next 281 = .ok (.iaload, 1) := by decide +kernel
theorem dX6_next_282 : decode cX6_next 282 = .ok (.iadd, 1) := by decide +kernel
theorem dX6_next_283 : decode cX6_next 283 = .ok (.bipush 48, 2) := by decide +kernel
theorem dX6_next_285 : decode cX6_next 285 = .ok (.isub, 1) := by decide +kernel
theorem dX6_next_286 : decode cX6_next 286 = .ok (.goto 4, 3) := by decide +kernel
theorem dX6_next_289 : decode cX6_next 289 = .ok (.iconst 0, 1) := by decide +kernel
theorem dX6_next_290 : decode cX6_next 290 = .ok (.putfield 96, 3) := by decide +kernel
theorem dX6_next_293 : decode cX6_next 293 = .ok (.iinc 2 1, 3) := by decide +kernel
theorem dX6_next_296 : decode cX6_next 296 = .ok (.aload_n 0, 1) := by decide +kernel
theorem dX6_next_297 : decode cX6_next 297 = .ok (.dup, 1) := by decide +kernel
theorem dX6_next_298 : decode cX6_next 298 = .ok (.getfield 87, 3) := by decide +kernel
theorem dX6_next_301 : decode cX6_next 301 = .ok (.iconst 1, 1) := by decide +kernel
theorem dX6_next_302 : decode cX6_next 302 = .ok (.iadd, 1) := by decide +kernel
theorem dX6_next_303 : decode cX6_next 303 = .ok (.putfield 87, 3) := by decide +kernel
theorem dX6_next_306 : decode cX6_next 306 = .ok (.goto (-76), 3) := by decide +kernel
theorem dX6_next_309 : decode cX6_next 309 = .ok (.aload_n 0, 1) := by decide +kernel
theorem dX6_next_310 : decode cX6_next 310 = .ok (.iload_n 2, 1) := by decide +kernel
theorem dX6_next_311 : decode cX6_next 311 = .ok (.iconst 4, 1) := by decide +kernel
theorem dX6_next_312 : decode cX6_next 312 = .ok (.if_icmp .le 7, 3) := by decide +kernel
theorem dX6_next_315 : decode cX6_next 315 = .ok (.iconst (-1), 1) := by decide +kernel
theorem dX6_next_316 : decode cX6_next 316 = .ok (.goto 4, 3) := by decide +kernel
theorem dX6_next_319 : decode cX6_next 319 = .ok (.iconst 1, 1) := by decide +kernel
theorem dX6_next_320 : decode cX6_next 320 = .ok (.putfield 93, 3) := by decide +kernel
theorem dX6_next_323 : decode cX6_next 323 = .ok (.goto 80, 3) := by decide +kernel
theorem dX6_next_326 : decode cX6_next 326 = .ok (.iload_n 1, 1) := by decide +kernel
theorem dX6_next_327 : decode cX6_next 327 = .ok (.bipush 40, 2) := by decide +kernel
theorem dX6_next_329 : decode cX6_next 329 = .ok (.if_icmp .eq 45, 3) := by decide +kernel
theorem dX6_next_332 : decode cX6_next 332 = .ok (.iload_n 1, 1) := by decide +kernel
theorem dX6_next_333 : decode cX6_next 333 = .ok (.bipush 41, 2) := by decide +kernel
theorem dX6_next_335 : decode cX6_next 335 = .ok (.if_icmp .eq 39, 3) := by decide +kernel
theorem dX6_next_338 : decode cX6_next 338 = .ok (.iload_n 1, 1) := by decide +kernel
theorem dX6_next_339 : decode cX6_next 339 = .ok (.bipush 59, 2) := by decide +kernel
theorem dX6_next_341 : decode cX6_next 341 = .ok (.if_icmp .eq 33, 3) := by decide +kernel
theorem dX6_next_344 : decode cX6_next 344 = .ok (.iload_n 1, 1) := by decide +kernel
theorem dX6_next_345 : decode cX6_next 345 = .ok (.bipush 43, 2) := by decide +kernel
theorem dX6_next_347 : decode cX6_next 347 = .ok (.if_icmp .eq 27, 3) := by decide +kernel
theorem dX6_next_350 : decode cX6_next 350 = .ok (.iload_n 1, 1) := by decide +kernel
theorem dX6_next_351 : decode cX6_next 351 = .ok (.bipush 45, 2) := by decide +kernel
theorem dX6_next_353 : decode cX6_next 353 = .ok (.if_icmp .eq 21, 3) := by decide +kernel
theorem dX6_next_356 : decode cX6_next 356 = .ok (.iload_n 1, 1) := by decide +kernel
theorem dX6_next_357 : decode cX6_next 357 = .ok (.bipush 42, 2) := by decide +kernel
theorem dX6_next_359 : decode cX6_next 359 = .ok (.if_icmp .eq 15, 3) := by decide +kernel
theorem dX6_next_362 : decode cX6_next 362 = .ok (.iload_n 1, 1) := by decide +kernel
theorem dX6_next_363 : decode cX6_next 363 = .ok (.bipush 60, 2) := by decide +kernel
theorem dX6_next_365 : decode cX6_next 365 = .ok (.if_icmp .eq 9, 3) := by decide +kernel
theorem dX6_next_368 : decode cX6_next 368 = .ok (.iload_n 1, 1) := by decide +kernel
theorem dX6_next_369 : decode cX6_next 369 = .ok (.bipush 61, 2) := by decide +kernel
theorem dX6_next_371 : decode cX6_next 371 = .ok (.if_icmp .ne 7, 3) := by decide +kernel
theorem dX6_next_374 : decode cX6_next 374 = .ok (.iconst 1, 1) := by decide +kernel
theorem dX6_next_375 : decode cX6_next 375 = .ok (.goto 4, 3) := by decide +kernel
theorem dX6_next_378 : decode cX6_next 378 = .ok (.iconst 0, 1) := by decide +kernel
theorem dX6_next_379 : decode cX6_next 379 = .ok (.istore_n 2, 1) := by decide +kernel
theorem dX6_next_380 : decode cX6_next 380 = .ok (.aload_n 0, 1) := by decide +kernel
theorem dX6_next_381 : decode cX6_next 381 = .ok (.iload_n 2, 1) := by decide +kernel
theorem dX6_next_382 : decode cX6_next 382 = .ok (.ifCond .eq 7, 3) := by decide +kernel
theorem dX6_next_385 : decode cX6_next 385 = .ok (.iload_n 1, 1) := by decide +kernel
theorem dX6_next_386 : decode cX6_next 386 = .ok (.goto 4, 3) := by decide +kernel
theorem dX6_next_389 : decode cX6_next 389 = .ok (.iconst (-1), 1) := by decide +kernel
theorem dX6_next_390 : decode cX6_next 390 = .ok (.putfield 93, 3) := by decide +kernel
theorem dX6_next_393 : decode cX6_next 393 = .ok (.aload_n 0, 1) := by decide +kernel
theorem dX6_next_394 : decode cX6_next 394 = .ok (.dup, 1) := by decide +kernel
theorem dX6_next_395 : decode cX6_next 395 = .ok (.getfield 87, 3) := by decide +kernel
theorem dX6_next_398 : decode cX6_next 398 = .ok (.iconst 1, 1) := by decide +kernel
theorem dX6_next_399 : decode cX6_next 399 = .ok (.iadd, 1) := by decide +kernel
theorem dX6_next_400 : decode cX6_next 400 = .ok (.putfield 87, 3) := by decide +kernel
theorem dX6_next_403 : decode cX6_next 403 = .ok (.return_, 1) := by decide +kernel
theorem dX6_rank_0 : decode cX6_rank 0 = .ok (.iload_n 0, 1) := by decide +kernel
theorem dX6_rank_1 : decode cX6_rank 1 = .ok (.ifCond .ne 7, 3) := by decide +kernel
theorem dX6_rank_4 : decode cX6_rank 4 = .ok (.iconst 0, 1) := by decide +kernel
theorem dX6_rank_5 : decode cX6_rank 5 = .ok (.goto 66, 3) := by decide +kernel
theorem dX6_rank_8 : decode cX6_rank 8 = .ok (.iload_n 0, 1) := by decide +kernel
theorem dX6_rank_9 : decode cX6_rank 9 = .ok (.bipush 11, 2) := by decide +kernel
theorem dX6_rank_11 : decode cX6_rank 11 = .ok (.if_icmp .ne 7, 3) := by decide +kernel
theorem dX6_rank_14 : decode cX6_rank 14 = .ok (.iconst 1, 1) := by decide +kernel
theorem dX6_rank_15 : decode cX6_rank 15 = .ok (.goto 56, 3) := by decide +kernel
theorem dX6_rank_18 : decode cX6_rank 18 = .ok (.iload_n 0, 1) := by decide +kernel
theorem dX6_rank_19 : decode cX6_rank 19 = .ok (.bipush 12, 2) := by decide +kernel
theorem dX6_rank_21 : decode cX6_rank 21 = .ok (.if_icmp .ne 7, 3) := by decide +kernel
theorem dX6_rank_24 : decode cX6_rank 24 = .ok (.iconst 2, 1) := by decide +kernel
theorem dX6_rank_25 : decode cX6_rank 25 = .ok (.goto 46, 3) := by decide +kernel
theorem dX6_rank_28 : decode cX6_rank 28 = .ok (.iload_n 0, 1) := by decide +kernel
theorem dX6_rank_29 : decode cX6_rank 29 = .ok (.bipush 13, 2) := by decide +kernel
theorem dX6_rank_31 : decode cX6_rank 31 = .ok (.if_icmp .ne 7, 3) := by decide +kernel
theorem dX6_rank_34 : decode cX6_rank 34 = .ok (.iconst 3, 1) := by decide +kernel
theorem dX6_rank_35 : decode cX6_rank 35 = .ok (.goto 36, 3) := by decide +kernel
theorem dX6_rank_38 : decode cX6_rank 38 = .ok (.iload_n 0, 1) := by decide +kernel
theorem dX6_rank_39 : decode cX6_rank 39 = .ok (.bipush 15, 2) := by decide +kernel
theorem dX6_rank_41 : decode cX6_rank 41 = .ok (.if_icmp .gt 7, 3) := by decide +kernel
theorem dX6_rank_44 : decode cX6_rank 44 = .ok (.iconst 4, 1) := by decide +kernel
theorem dX6_rank_45 : decode cX6_rank 45 = .ok (.goto 26, 3) := by decide +kernel
theorem dX6_rank_48 : decode cX6_rank 48 = .ok (.iload_n 0, 1) := by decide +kernel
theorem dX6_rank_49 : decode cX6_rank 49 = .ok (.bipush 17, 2) := by decide +kernel
theorem dX6_rank_51 : decode cX6_rank 51 = .ok (.if_icmp .gt 7, 3) := by decide +kernel
theorem dX6_rank_54 : decode cX6_rank 54 = .ok (.iconst 5, 1) := by decide +kernel
theorem dX6_rank_55 : decode cX6_rank 55 = .ok (.goto 16, 3) := by decide +kernel
theorem dX6_rank_58 : decode cX6_rank 58 = .ok (.iload_n 0, 1) := by decide +kernel
theorem dX6_rank_59 : decode cX6_rank 59 = .ok (.bipush 18, 2) := by decide +kernel
theorem dX6_rank_61 : decode cX6_rank 61 = .ok (.if_icmp .ne 8, 3) := by decide +kernel
theorem dX6_rank_64 : decode cX6_rank 64 = .ok (.bipush 6, 2) := by decide +kernel
theorem dX6_rank_66 : decode cX6_rank 66 = .ok (.goto 5, 3) := by decide +kernel
theorem dX6_rank_69 : decode cX6_rank 69 = .ok (.bipush 7, 2) := by decide +kernel
theorem dX6_rank_71 : decode cX6_rank 71 = .ok (.ireturn, 1) := by decide +kernel
theorem dX6_puts_0 : decode cX6_puts 0 = .ok (.aload_n 0, 1) := by decide +kernel
theorem dX6_puts_1 : decode cX6_puts 1 = .ok (.getfield 25, 3) := by decide +kernel
theorem dX6_puts_4 : decode cX6_puts 4 = .ok (.sipush 200, 3) := by decide +kernel
theorem dX6_puts_7 : decode cX6_puts 7 = .ok (.aload_n 0, 1) := by decide +kernel
theorem dX6_puts_8 : decode cX6_puts 8 = .ok (.getfield 77, 3) := by decide +kernel
theorem dX6_puts_11 : decode cX6_puts 11 = .ok (.imul, 1) := by decide +kernel
theorem dX6_puts_12 : decode cX6_puts 12 = .ok (.aload_n 0, 1) := by decide +kernel
theorem dX6_puts_13 : decode cX6_puts 13 = .ok (.getfield 103, 3) := by decide +kernel
theorem dX6_puts_16 : decode cX6_puts 16 = .ok (.iadd, 1) := by decide +kernel
theorem dX6_puts_17 : decode cX6_puts 17 = .ok (.iload_n 1, 1) := by decide +kernel
theorem dX6_puts_18 : decode cX6_puts 18 = .ok (.iastore, 1) := by decide +kernel
theorem dX6_puts_19 : decode cX6_puts 19 = .ok (.aload_n 0, 1) := by decide +kernel
theorem dX6_puts_20 : decode cX6_puts 20 = .ok (.dup, 1) := by decide +kernel
theorem dX6_puts_21 : decode cX6_puts 21 = .ok (.getfield 103, 3) := by decide +kernel
theorem dX6_puts_24 : decode cX6_puts 24 = .ok (.iconst 1, 1) := by decide +kernel
theorem dX6_puts_25 : decode cX6_puts 25 = .ok (.iadd, 1) := by decide +kernel
theorem dX6_puts_26 : decode cX6_puts 26 = .ok (.putfield 103, 3) := by decide +kernel
theorem dX6_puts_29 : decode cX6_puts 29 = .ok (.return_, 1) := by decide +kernel
theorem dX6_unwinds_0 : decode cX6_unwinds 0 = .ok (.aload_n 0, 1) := by decide +kernel
theorem dX6_unwinds_1 : decode cX6_unwinds 1 = .ok (.getfield 106, 3) := by decide +kernel
theorem dX6_unwinds_4 : decode cX6_unwinds 4 = .ok (.ifCond .le 75, 3) := by decide +kernel
theorem dX6_unwinds_7 : decode cX6_unwinds 7 = .ok (.aload_n 0, 1) := by decide +kernel
theorem dX6_unwinds_8 : decode cX6_unwinds 8 = .ok (.getfield 49, 3) := by decide +kernel
theorem dX6_unwinds_11 : decode cX6_unwinds 11 = .ok (.aload_n 0, 1) := by decide +kernel
theorem dX6_unwinds_12 : decode cX6_unwinds 12 = .ok (.getfield 106, 3) := by decide +kernel
theorem dX6_unwinds_15 : decode cX6_unwinds 15 = .ok (.iconst 1, 1) := by decide +kernel
theorem dX6_unwinds_16 : decode cX6_unwinds 16 = .ok (.isub, 1) := by decide +kernel
theorem dX6_unwinds_17 : decode cX6_unwinds 17 = .ok (.iaload, 1) := by decide +kernel
theorem dX6_unwinds_18 : decode cX6_unwinds 18 = .ok (.invokestatic 109, 3) := by decide +kernel
theorem dX6_unwinds_21 : decode cX6_unwinds 21 = .ok (.iload_n 1, 1) := by decide +kernel
theorem dX6_unwinds_22 : decode cX6_unwinds 22 = .ok (.if_icmp .lt 57, 3) := by decide +kernel
theorem dX6_unwinds_25 : decode cX6_unwinds 25 = .ok (.aload_n 0, 1) := by decide +kernel
theorem dX6_unwinds_26 : decode cX6_unwinds 26 = .ok (.dup, 1) := by decide +kernel
theorem dX6_unwinds_27 : decode cX6_unwinds 27 = .ok (.getfield 106, 3) := by decide +kernel
theorem dX6_unwinds_30 : decode cX6_unwinds 30 = .ok (.iconst 1, 1) := by decide +kernel
theorem dX6_unwinds_31 : decode cX6_unwinds 31 = .ok (.isub, 1) := by decide +kernel
theorem dX6_unwinds_32 : decode cX6_unwinds 32 = .ok (.putfield 106, 3) := by decide +kernel
theorem dX6_unwinds_35 : decode cX6_unwinds 35 = .ok (.aload_n 0, 1) := by decide +kernel
theorem dX6_unwinds_36 : decode cX6_unwinds 36 = .ok (.getfield 49, 3) := by decide +kernel
theorem dX6_unwinds_39 : decode cX6_unwinds 39 = .ok (.aload_n 0, 1) := by decide +kernel
theorem dX6_unwinds_40 : decode cX6_unwinds 40 = .ok (.getfield 106, 3) := by decide +kernel
theorem dX6_unwinds_43 : decode cX6_unwinds 43 = .ok (.iaload, 1) := by decide +kernel
theorem dX6_unwinds_44 : decode cX6_unwinds 44 = .ok (.istore_n 2, 1) := by decide +kernel
theorem dX6_unwinds_45 : decode cX6_unwinds 45 = .ok (.aload_n 0, 1) := by decide +kernel
theorem dX6_unwinds_46 : decode cX6_unwinds 46 = .ok (.dup, 1) := by decide +kernel
theorem dX6_unwinds_47 : decode cX6_unwinds 47 = .ok (.getfield 112, 3) := by decide +kernel
theorem dX6_unwinds_50 : decode cX6_unwinds 50 = .ok (.iload_n 2, 1) := by decide +kernel
theorem dX6_unwinds_51 : decode cX6_unwinds 51 = .ok (.bipush 13, 2) := by decide +kernel
theorem dX6_unwinds_53 : decode cX6_unwinds 53 = .ok (.if_icmp .eq 9, 3) := by decide +kernel
theorem dX6_unwinds_56 : decode cX6_unwinds 56 = .ok (.iload_n 2, 1) := by decide +kernel
theorem dX6_unwinds_57 : decode cX6_unwinds 57 = .ok (.bipush 19, 2) := by decide +kernel
theorem dX6_unwinds_59 : decode cX6_unwinds 59 = .ok (.if_icmp .ne 7, 3) := by decide +kernel
theorem dX6_unwinds_62 : decode cX6_unwinds 62 = .ok (.iconst 1, 1) := by decide +kernel
theorem dX6_unwinds_63 : decode cX6_unwinds 63 = .ok (.goto 4, 3) := by decide +kernel
theorem dX6_unwinds_66 : decode cX6_unwinds 66 = .ok (.iconst 0, 1) := by decide +kernel
theorem dX6_unwinds_67 : decode cX6_unwinds 67 = .ok (.isub, 1) := by decide +kernel
theorem dX6_unwinds_68 : decode cX6_unwinds 68 = .ok (.putfield 112, 3) := by decide +kernel
theorem dX6_unwinds_71 : decode cX6_unwinds 71 = .ok (.aload_n 0, 1) := by decide +kernel
theorem dX6_unwinds_72 : decode cX6_unwinds 72 = .ok (.iload_n 2, 1) := by decide +kernel
theorem dX6_unwinds_73 : decode cX6_unwinds 73 = .ok (.invokevirtual 115, 3) := by decide +kernel
theorem dX6_unwinds_76 : decode cX6_unwinds 76 = .ok (.goto (-76), 3) := by decide +kernel
theorem dX6_unwinds_79 : decode cX6_unwinds 79 = .ok (.return_, 1) := by decide +kernel
theorem dX6_holds_0 : decode cX6_holds 0 = .ok (.aload_n 0, 1) := by decide +kernel
theorem dX6_holds_1 : decode cX6_holds 1 = .ok (.getfield 49, 3) := by decide +kernel
theorem dX6_holds_4 : decode cX6_holds 4 = .ok (.aload_n 0, 1) := by decide +kernel
theorem dX6_holds_5 : decode cX6_holds 5 = .ok (.getfield 106, 3) := by decide +kernel
theorem dX6_holds_8 : decode cX6_holds 8 = .ok (.iload_n 1, 1) := by decide +kernel
theorem dX6_holds_9 : decode cX6_holds 9 = .ok (.iastore, 1) := by decide +kernel
theorem dX6_holds_10 : decode cX6_holds 10 = .ok (.aload_n 0, 1) := by decide +kernel
theorem dX6_holds_11 : decode cX6_holds 11 = .ok (.dup, 1) := by decide +kernel
theorem dX6_holds_12 : decode cX6_holds 12 = .ok (.getfield 106, 3) := by decide +kernel
theorem dX6_holds_15 : decode cX6_holds 15 = .ok (.iconst 1, 1) := by decide +kernel
theorem dX6_holds_16 : decode cX6_holds 16 = .ok (.iadd, 1) := by decide +kernel
theorem dX6_holds_17 : decode cX6_holds 17 = .ok (.putfield 106, 3) := by decide +kernel
theorem dX6_holds_20 : decode cX6_holds 20 = .ok (.return_, 1) := by decide +kernel
theorem dX6_opensOne_0 : decode cX6_opensOne 0 = .ok (.aload_n 0, 1) := by decide +kernel
theorem dX6_opensOne_1 : decode cX6_opensOne 1 = .ok (.getfield 112, 3) := by decide +kernel
theorem dX6_opensOne_4 : decode cX6_opensOne 4 = .ok (.iconst 5, 1) := by decide +kernel
theorem dX6_opensOne_5 : decode cX6_opensOne 5 = .ok (.if_icmp .ne 5, 3) := by decide +kernel
theorem dX6_opensOne_8 : decode cX6_opensOne 8 = .ok (.iconst 0, 1) := by decide +kernel
theorem dX6_opensOne_9 : decode cX6_opensOne 9 = .ok (.ireturn, 1) := by decide +kernel
theorem dX6_opensOne_10 : decode cX6_opensOne 10 = .ok (.aload_n 0, 1) := by decide +kernel
theorem dX6_opensOne_11 : decode cX6_opensOne 11 = .ok (.dup, 1) := by decide +kernel
theorem dX6_opensOne_12 : decode cX6_opensOne 12 = .ok (.getfield 112, 3) := by decide +kernel
theorem dX6_opensOne_15 : decode cX6_opensOne 15 = .ok (.iconst 1, 1) := by decide +kernel
theorem dX6_opensOne_16 : decode cX6_opensOne 16 = .ok (.iadd, 1) := by decide +kernel
theorem dX6_opensOne_17 : decode cX6_opensOne 17 = .ok (.putfield 112, 3) := by decide +kernel
theorem dX6_opensOne_20 : decode cX6_opensOne 20 = .ok (.aload_n 0, 1) := by decide +kernel
theorem dX6_opensOne_21 : decode cX6_opensOne 21 = .ok (.iload_n 1, 1) := by decide +kernel
theorem dX6_opensOne_22 : decode cX6_opensOne 22 = .ok (.invokevirtual 119, 3) := by decide +kernel
theorem dX6_opensOne_25 : decode cX6_opensOne 25 = .ok (.iconst 1, 1) := by decide +kernel
theorem dX6_opensOne_26 : decode cX6_opensOne 26 = .ok (.ireturn, 1) := by decide +kernel
theorem dX6_between_0 : decode cX6_between 0 = .ok (.aload_n 0, 1) := by decide +kernel
theorem dX6_between_1 : decode cX6_between 1 = .ok (.iload_n 1, 1) := by decide +kernel
theorem dX6_between_2 : decode cX6_between 2 = .ok (.invokestatic 109, 3) := by decide +kernel
theorem dX6_between_5 : decode cX6_between 5 = .ok (.iconst 4, 1) := by decide +kernel
theorem dX6_between_6 : decode cX6_between 6 = .ok (.if_icmp .ne 7, 3) := by decide +kernel
theorem dX6_between_9 : decode cX6_between 9 = .ok (.iconst 5, 1) := by decide +kernel
theorem dX6_between_10 : decode cX6_between 10 = .ok (.goto 7, 3) := by decide +kernel
theorem dX6_between_13 : decode cX6_between 13 = .ok (.iload_n 1, 1) := by decide +kernel
theorem dX6_between_14 : decode cX6_between 14 = .ok (.invokestatic 109, 3) := by decide +kernel
theorem dX6_between_17 : decode cX6_between 17 = .ok (.invokevirtual 122, 3) := by decide +kernel
theorem dX6_between_20 : decode cX6_between 20 = .ok (.iload_n 1, 1) := by decide +kernel
theorem dX6_between_21 : decode cX6_between 21 = .ok (.invokestatic 109, 3) := by decide +kernel
theorem dX6_between_24 : decode cX6_between 24 = .ok (.iconst 4, 1) := by decide +kernel
theorem dX6_between_25 : decode cX6_between 25 = .ok (.if_icmp .ne 30, 3) := by decide +kernel
theorem dX6_between_28 : decode cX6_between 28 = .ok (.aload_n 0, 1) := by decide +kernel
theorem dX6_between_29 : decode cX6_between 29 = .ok (.getfield 106, 3) := by decide +kernel
theorem dX6_between_32 : decode cX6_between 32 = .ok (.ifCond .le 23, 3) := by decide +kernel
theorem dX6_between_35 : decode cX6_between 35 = .ok (.aload_n 0, 1) := by decide +kernel
theorem dX6_between_36 : decode cX6_between 36 = .ok (.getfield 49, 3) := by decide +kernel
theorem dX6_between_39 : decode cX6_between 39 = .ok (.aload_n 0, 1) := by decide +kernel
theorem dX6_between_40 : decode cX6_between 40 = .ok (.getfield 106, 3) := by decide +kernel
theorem dX6_between_43 : decode cX6_between 43 = .ok (.iconst 1, 1) := by decide +kernel
theorem dX6_between_44 : decode cX6_between 44 = .ok (.isub, 1) := by decide +kernel
theorem dX6_between_45 : decode cX6_between 45 = .ok (.iaload, 1) := by decide +kernel
theorem dX6_between_46 : decode cX6_between 46 = .ok (.invokestatic 109, 3) := by decide +kernel
theorem dX6_between_49 : decode cX6_between 49 = .ok (.iconst 4, 1) := by decide +kernel
theorem dX6_between_50 : decode cX6_between 50 = .ok (.if_icmp .ne 5, 3) := by decide +kernel
theorem dX6_between_53 : decode cX6_between 53 = .ok (.iconst 0, 1) := by decide +kernel
theorem dX6_between_54 : decode cX6_between 54 = .ok (.ireturn, 1) := by decide +kernel
theorem dX6_between_55 : decode cX6_between 55 = .ok (.aload_n 0, 1) := by decide +kernel
theorem dX6_between_56 : decode cX6_between 56 = .ok (.iload_n 1, 1) := by decide +kernel
theorem dX6_between_57 : decode cX6_between 57 = .ok (.invokevirtual 119, 3) := by decide +kernel
theorem dX6_between_60 : decode cX6_between 60 = .ok (.iconst 1, 1) := by decide +kernel
theorem dX6_between_61 : decode cX6_between 61 = .ok (.ireturn, 1) := by decide +kernel
theorem dX6_signOf_0 : decode cX6_signOf 0 = .ok (.aload_n 0, 1) := by decide +kernel
theorem dX6_signOf_1 : decode cX6_signOf 1 = .ok (.getfield 93, 3) := by decide +kernel
theorem dX6_signOf_4 : decode cX6_signOf 4 = .ok (.iconst 4, 1) := by decide +kernel
theorem dX6_signOf_5 : decode cX6_signOf 5 = .ok (.if_icmp .ne 8, 3) := by decide +kernel
theorem dX6_signOf_8 : decode cX6_signOf 8 = .ok (.bipush 11, 2) := by decide +kernel
theorem dX6_signOf_10 : decode cX6_signOf 10 = .ok (.goto 87, 3) := by decide +kernel
theorem dX6_signOf_13 : decode cX6_signOf 13 = .ok (.aload_n 0, 1) := by decide +kernel
theorem dX6_signOf_14 : decode cX6_signOf 14 = .ok (.getfield 93, 3) := by decide +kernel
theorem dX6_signOf_17 : decode cX6_signOf 17 = .ok (.iconst 5, 1) := by decide +kernel
theorem dX6_signOf_18 : decode cX6_signOf 18 = .ok (.if_icmp .ne 8, 3) := by decide +kernel
theorem dX6_signOf_21 : decode cX6_signOf 21 = .ok (.bipush 12, 2) := by decide +kernel
theorem dX6_signOf_23 : decode cX6_signOf 23 = .ok (.goto 74, 3) := by decide +kernel
theorem dX6_signOf_26 : decode cX6_signOf 26 = .ok (.aload_n 0, 1) := by decide +kernel
theorem dX6_signOf_27 : decode cX6_signOf 27 = .ok (.getfield 93, 3) := by decide +kernel
theorem dX6_signOf_30 : decode cX6_signOf 30 = .ok (.bipush 60, 2) := by decide +kernel
theorem dX6_signOf_32 : decode cX6_signOf 32 = .ok (.if_icmp .ne 8, 3) := by decide +kernel
theorem dX6_signOf_35 : decode cX6_signOf 35 = .ok (.bipush 14, 2) := by decide +kernel
theorem dX6_signOf_37 : decode cX6_signOf 37 = .ok (.goto 60, 3) := by decide +kernel
theorem dX6_signOf_40 : decode cX6_signOf 40 = .ok (.aload_n 0, 1) := by decide +kernel
theorem dX6_signOf_41 : decode cX6_signOf 41 = .ok (.getfield 93, 3) := by decide +kernel
theorem dX6_signOf_44 : decode cX6_signOf 44 = .ok (.bipush 61, 2) := by decide +kernel
theorem dX6_signOf_46 : decode cX6_signOf 46 = .ok (.if_icmp .ne 8, 3) := by decide +kernel
theorem dX6_signOf_49 : decode cX6_signOf 49 = .ok (.bipush 15, 2) := by decide +kernel
theorem dX6_signOf_51 : decode cX6_signOf 51 = .ok (.goto 46, 3) := by decide +kernel
theorem dX6_signOf_54 : decode cX6_signOf 54 = .ok (.aload_n 0, 1) := by decide +kernel
theorem dX6_signOf_55 : decode cX6_signOf 55 = .ok (.getfield 93, 3) := by decide +kernel
theorem dX6_signOf_58 : decode cX6_signOf 58 = .ok (.bipush 43, 2) := by decide +kernel
theorem dX6_signOf_60 : decode cX6_signOf 60 = .ok (.if_icmp .ne 8, 3) := by decide +kernel
theorem dX6_signOf_63 : decode cX6_signOf 63 = .ok (.bipush 16, 2) := by decide +kernel
theorem dX6_signOf_65 : decode cX6_signOf 65 = .ok (.goto 32, 3) := by decide +kernel
theorem dX6_signOf_68 : decode cX6_signOf 68 = .ok (.aload_n 0, 1) := by decide +kernel
theorem dX6_signOf_69 : decode cX6_signOf 69 = .ok (.getfield 93, 3) := by decide +kernel
theorem dX6_signOf_72 : decode cX6_signOf 72 = .ok (.bipush 45, 2) := by decide +kernel
theorem dX6_signOf_74 : decode cX6_signOf 74 = .ok (.if_icmp .ne 8, 3) := by decide +kernel
theorem dX6_signOf_77 : decode cX6_signOf 77 = .ok (.bipush 17, 2) := by decide +kernel
theorem dX6_signOf_79 : decode cX6_signOf 79 = .ok (.goto 18, 3) := by decide +kernel
theorem dX6_signOf_82 : decode cX6_signOf 82 = .ok (.aload_n 0, 1) := by decide +kernel
theorem dX6_signOf_83 : decode cX6_signOf 83 = .ok (.getfield 93, 3) := by decide +kernel
theorem dX6_signOf_86 : decode cX6_signOf 86 = .ok (.bipush 42, 2) := by decide +kernel
theorem dX6_signOf_88 : decode cX6_signOf 88 = .ok (.if_icmp .ne 8, 3) := by decide +kernel
theorem dX6_signOf_91 : decode cX6_signOf 91 = .ok (.bipush 18, 2) := by decide +kernel
theorem dX6_signOf_93 : decode cX6_signOf 93 = .ok (.goto 4, 3) := by decide +kernel
theorem dX6_signOf_96 : decode cX6_signOf 96 = .ok (.iconst (-1), 1) := by decide +kernel
theorem dX6_signOf_97 : decode cX6_signOf 97 = .ok (.ireturn, 1) := by decide +kernel
theorem dX6_eRead_0 : decode cX6_eRead 0 = .ok (.aload_n 0, 1) := by decide +kernel
theorem dX6_eRead_1 : decode cX6_eRead 1 = .ok (.iconst 0, 1) := by decide +kernel
theorem dX6_eRead_2 : decode cX6_eRead 2 = .ok (.putfield 106, 3) := by decide +kernel
theorem dX6_eRead_5 : decode cX6_eRead 5 = .ok (.aload_n 0, 1) := by decide +kernel
theorem dX6_eRead_6 : decode cX6_eRead 6 = .ok (.iconst 0, 1) := by decide +kernel
theorem dX6_eRead_7 : decode cX6_eRead 7 = .ok (.putfield 112, 3) := by decide +kernel
theorem dX6_eRead_10 : decode cX6_eRead 10 = .ok (.iconst 1, 1) := by decide +kernel
theorem dX6_eRead_11 : decode cX6_eRead 11 = .ok (.istore_n 1, 1) := by decide +kernel
theorem dX6_eRead_12 : decode cX6_eRead 12 = .ok (.iconst 1, 1) := by decide +kernel
theorem dX6_eRead_13 : decode cX6_eRead 13 = .ok (.istore_n 2, 1) := by decide +kernel
theorem dX6_eRead_14 : decode cX6_eRead 14 = .ok (.aload_n 0, 1) := by decide +kernel
theorem dX6_eRead_15 : decode cX6_eRead 15 = .ok (.invokevirtual 125, 3) := by decide +kernel
theorem dX6_eRead_18 : decode cX6_eRead 18 = .ok (.iload_n 1, 1) := by decide +kernel
theorem dX6_eRead_19 : decode cX6_eRead 19 = .ok (.ifCond .eq 131, 3) := by decide +kernel
theorem dX6_eRead_22 : decode cX6_eRead 22 = .ok (.aload_n 0, 1) := by decide +kernel
theorem dX6_eRead_23 : decode cX6_eRead 23 = .ok (.getfield 93, 3) := by decide +kernel
theorem dX6_eRead_26 : decode cX6_eRead 26 = .ok (.iconst 1, 1) := by decide +kernel
theorem dX6_eRead_27 : decode cX6_eRead 27 = .ok (.if_icmp .eq 11, 3) := by decide +kernel
theorem dX6_eRead_30 : decode cX6_eRead 30 = .ok (.aload_n 0, 1) := by decide +kernel
theorem dX6_eRead_31 : decode cX6_eRead 31 = .ok (.getfield 93, 3) := by decide +kernel
theorem dX6_eRead_34 : decode cX6_eRead 34 = .ok (.iconst 2, 1) := by decide +kernel
theorem dX6_eRead_35 : decode cX6_eRead 35 = .ok (.if_icmp .ne 40, 3) := by decide +kernel
theorem dX6_eRead_38 : decode cX6_eRead 38 = .ok (.aload_n 0, 1) := by decide +kernel
theorem dX6_eRead_39 : decode cX6_eRead 39 = .ok (.aload_n 0, 1) := by decide +kernel
theorem dX6_eRead_40 : decode cX6_eRead 40 = .ok (.getfield 93, 3) := by decide +kernel
theorem dX6_eRead_43 : decode cX6_eRead 43 = .ok (.iconst 1, 1) := by decide +kernel
theorem dX6_eRead_44 : decode cX6_eRead 44 = .ok (.if_icmp .ne 13, 3) := by decide +kernel
theorem dX6_eRead_47 : decode cX6_eRead 47 = .ok (.ldc 128, 2) := by decide +kernel
theorem dX6_eRead_49 : decode cX6_eRead 49 = .ok (.aload_n 0, 1) := by decide +kernel
theorem dX6_eRead_50 : decode cX6_eRead 50 = .ok (.getfield 96, 3) := by decide +kernel
theorem dX6_eRead_53 : decode cX6_eRead 53 = .ok (.iadd, 1) := by decide +kernel
theorem dX6_eRead_54 : decode cX6_eRead 54 = .ok (.goto 7, 3) := by decide +kernel
theorem dX6_eRead_57 : decode cX6_eRead 57 = .ok (.aload_n 0, 1) := by decide +kernel
theorem dX6_eRead_58 : decode cX6_eRead 58 = .ok (.getfield 96, 3) := by decide +kernel
theorem dX6_eRead_61 : decode cX6_eRead 61 = .ok (.invokevirtual 115, 3) := by decide +kernel
theorem dX6_eRead_64 : decode cX6_eRead 64 = .ok (.aload_n 0, 1) := by decide +kernel
theorem dX6_eRead_65 : decode cX6_eRead 65 = .ok (.bipush 7, 2) := by decide +kernel
theorem dX6_eRead_67 : decode cX6_eRead 67 = .ok (.invokevirtual 122, 3) := by decide +kernel
theorem dX6_eRead_70 : decode cX6_eRead 70 = .ok (.iconst 0, 1) := by decide +kernel
theorem dX6_eRead_71 : decode cX6_eRead 71 = .ok (.istore_n 1, 1) := by decide +kernel
theorem dX6_eRead_72 : decode cX6_eRead 72 = .ok (.goto (-58), 3) := by decide +kernel
theorem dX6_eRead_75 : decode cX6_eRead 75 = .ok (.aload_n 0, 1) := by decide +kernel
theorem dX6_eRead_76 : decode cX6_eRead 76 = .ok (.getfield 93, 3) := by decide +kernel
theorem dX6_eRead_79 : decode cX6_eRead 79 = .ok (.bipush 6, 2) := by decide +kernel
theorem dX6_eRead_81 : decode cX6_eRead 81 = .ok (.if_icmp .ne 18, 3) := by decide +kernel
theorem dX6_eRead_84 : decode cX6_eRead 84 = .ok (.iload_n 2, 1) := by decide +kernel
theorem dX6_eRead_85 : decode cX6_eRead 85 = .ok (.ifCond .eq 14, 3) := by decide +kernel
theorem dX6_eRead_88 : decode cX6_eRead 88 = .ok (.aload_n 0, 1) := by decide +kernel
theorem dX6_eRead_89 : decode cX6_eRead 89 = .ok (.bipush 13, 2) := by decide +kernel
theorem dX6_eRead_91 : decode cX6_eRead 91 = .ok (.invokevirtual 129, 3) := by decide +kernel
theorem dX6_eRead_94 : decode cX6_eRead 94 = .ok (.ifCond .ne (-80), 3) := by decide +kernel
theorem dX6_eRead_97 : decode cX6_eRead 97 = .ok (.iconst 0, 1) := by decide +kernel
theorem dX6_eRead_98 : decode cX6_eRead 98 = .ok (.ireturn, 1) := by decide +kernel
theorem dX6_eRead_99 : decode cX6_eRead 99 = .ok (.aload_n 0, 1) := by decide +kernel
theorem dX6_eRead_100 : decode cX6_eRead 100 = .ok (.getfield 93, 3) := by decide +kernel
theorem dX6_eRead_103 : decode cX6_eRead 103 = .ok (.bipush 45, 2) := by decide +kernel
theorem dX6_eRead_105 : decode cX6_eRead 105 = .ok (.if_icmp .ne 19, 3) := by decide +kernel
theorem dX6_eRead_108 : decode cX6_eRead 108 = .ok (.aload_n 0, 1) := by decide +kernel
theorem dX6_eRead_109 : decode cX6_eRead 109 = .ok (.bipush 19, 2) := by decide +kernel
theorem dX6_eRead_111 : decode cX6_eRead 111 = .ok (.invokevirtual 129, 3) := by decide +kernel
theorem dX6_eRead_114 : decode cX6_eRead 114 = .ok (.ifCond .ne 5, 3) := by decide +kernel
theorem dX6_eRead_117 : decode cX6_eRead 117 = .ok (.iconst 0, 1) := by decide +kernel
theorem dX6_eRead_118 : decode cX6_eRead 118 = .ok (.ireturn, 1) := by decide +kernel
theorem dX6_eRead_119 : decode cX6_eRead 119 = .ok (.iconst 0, 1) := by decide +kernel
theorem dX6_eRead_120 : decode cX6_eRead 120 = .ok (.istore_n 2, 1) := by decide +kernel
theorem dX6_eRead_121 : decode cX6_eRead 121 = .ok (.goto (-107), 3) := by decide +kernel
theorem dX6_eRead_124 : decode cX6_eRead 124 = .ok (.aload_n 0, 1) := by decide +kernel
theorem dX6_eRead_125 : decode cX6_eRead 125 = .ok (.getfield 93, 3) := by decide +kernel
theorem dX6_eRead_128 : decode cX6_eRead 128 = .ok (.bipush 40, 2) := by decide +kernel
theorem dX6_eRead_130 : decode cX6_eRead 130 = .ok (.if_icmp .ne 18, 3) := by decide +kernel
theorem dX6_eRead_133 : decode cX6_eRead 133 = .ok (.aload_n 0, 1) := by decide +kernel
theorem dX6_eRead_134 : decode cX6_eRead 134 = .ok (.iconst 0, 1) := by decide +kernel
theorem dX6_eRead_135 : decode cX6_eRead 135 = .ok (.invokevirtual 129, 3) := by decide +kernel
theorem dX6_eRead_138 : decode cX6_eRead 138 = .ok (.ifCond .ne 5, 3) := by decide +kernel
theorem dX6_eRead_141 : decode cX6_eRead 141 = .ok (.iconst 0, 1) := by decide +kernel
theorem dX6_eRead_142 : decode cX6_eRead 142 = .ok (.ireturn, 1) := by decide +kernel
theorem dX6_eRead_143 : decode cX6_eRead 143 = .ok (.iconst 1, 1) := by decide +kernel
theorem dX6_eRead_144 : decode cX6_eRead 144 = .ok (.istore_n 2, 1) := by decide +kernel
theorem dX6_eRead_145 : decode cX6_eRead 145 = .ok (.goto (-131), 3) := by decide +kernel
theorem dX6_eRead_148 : decode cX6_eRead 148 = .ok (.iconst 0, 1) := by decide +kernel
theorem dX6_eRead_149 : decode cX6_eRead 149 = .ok (.ireturn, 1) := by decide +kernel
theorem dX6_eRead_150 : decode cX6_eRead 150 = .ok (.aload_n 0, 1) := by decide +kernel
theorem dX6_eRead_151 : decode cX6_eRead 151 = .ok (.getfield 93, 3) := by decide +kernel
theorem dX6_eRead_154 : decode cX6_eRead 154 = .ok (.bipush 59, 2) := by decide +kernel
theorem dX6_eRead_156 : decode cX6_eRead 156 = .ok (.if_icmp .ne 21, 3) := by decide +kernel
theorem dX6_eRead_159 : decode cX6_eRead 159 = .ok (.aload_n 0, 1) := by decide +kernel
theorem dX6_eRead_160 : decode cX6_eRead 160 = .ok (.iconst 1, 1) := by decide +kernel
theorem dX6_eRead_161 : decode cX6_eRead 161 = .ok (.invokevirtual 122, 3) := by decide +kernel
theorem dX6_eRead_164 : decode cX6_eRead 164 = .ok (.aload_n 0, 1) := by decide +kernel
theorem dX6_eRead_165 : decode cX6_eRead 165 = .ok (.getfield 106, 3) := by decide +kernel
theorem dX6_eRead_168 : decode cX6_eRead 168 = .ok (.ifCond .ne 7, 3) := by decide +kernel
theorem dX6_eRead_171 : decode cX6_eRead 171 = .ok (.iconst 1, 1) := by decide +kernel
theorem dX6_eRead_172 : decode cX6_eRead 172 = .ok (.goto 4, 3) := by decide +kernel
theorem dX6_eRead_175 : decode cX6_eRead 175 = .ok (.iconst 0, 1) := by decide +kernel
theorem dX6_eRead_176 : decode cX6_eRead 176 = .ok (.ireturn, 1) := by decide +kernel
theorem dX6_eRead_177 : decode cX6_eRead 177 = .ok (.aload_n 0, 1) := by decide +kernel
theorem dX6_eRead_178 : decode cX6_eRead 178 = .ok (.getfield 93, 3) := by decide +kernel
theorem dX6_eRead_181 : decode cX6_eRead 181 = .ok (.bipush 41, 2) := by decide +kernel
theorem dX6_eRead_183 : decode cX6_eRead 183 = .ok (.if_icmp .ne 46, 3) := by decide +kernel
theorem dX6_eRead_186 : decode cX6_eRead 186 = .ok (.aload_n 0, 1) := by decide +kernel
theorem dX6_eRead_187 : decode cX6_eRead 187 = .ok (.iconst 1, 1) := by decide +kernel
theorem dX6_eRead_188 : decode cX6_eRead 188 = .ok (.invokevirtual 122, 3) := by decide +kernel
theorem dX6_eRead_191 : decode cX6_eRead 191 = .ok (.aload_n 0, 1) := by decide +kernel
theorem dX6_eRead_192 : decode cX6_eRead 192 = .ok (.getfield 106, 3) := by decide +kernel
theorem dX6_eRead_195 : decode cX6_eRead 195 = .ok (.ifCond .ne 5, 3) := by decide +kernel
theorem dX6_eRead_198 : decode cX6_eRead 198 = .ok (.iconst 0, 1) := by decide +kernel
theorem dX6_eRead_199 : decode cX6_eRead 199 = .ok (.ireturn, 1) := by decide +kernel
theorem dX6_eRead_200 : decode cX6_eRead 200 = .ok (.aload_n 0, 1) := by decide +kernel
theorem dX6_eRead_201 : decode cX6_eRead 201 = .ok (.dup, 1) := by decide +kernel
theorem dX6_eRead_202 : decode cX6_eRead 202 = .ok (.getfield 106, 3) := by decide +kernel
theorem dX6_eRead_205 : decode cX6_eRead 205 = .ok (.iconst 1, 1) := by decide +kernel
theorem dX6_eRead_206 : decode cX6_eRead 206 = .ok (.isub, 1) := by decide +kernel
theorem dX6_eRead_207 : decode cX6_eRead 207 = .ok (.putfield 106, 3) := by decide +kernel
theorem dX6_eRead_210 : decode cX6_eRead 210 = .ok (.aload_n 0, 1) := by decide +kernel
theorem dX6_eRead_211 : decode cX6_eRead 211 = .ok (.dup, 1) := by decide +kernel
theorem dX6_eRead_212 : decode cX6_eRead 212 = .ok (.getfield 112, 3) := by decide +kernel
theorem dX6_eRead_215 : decode cX6_eRead 215 = .ok (.iconst 1, 1) := by decide +kernel
theorem dX6_eRead_216 : decode cX6_eRead 216 = .ok (.isub, 1) := by decide +kernel
theorem dX6_eRead_217 : decode cX6_eRead 217 = .ok (.putfield 112, 3) := by decide +kernel
theorem dX6_eRead_220 : decode cX6_eRead 220 = .ok (.aload_n 0, 1) := by decide +kernel
theorem dX6_eRead_221 : decode cX6_eRead 221 = .ok (.bipush 7, 2) := by decide +kernel
theorem dX6_eRead_223 : decode cX6_eRead 223 = .ok (.invokevirtual 122, 3) := by decide +kernel
theorem dX6_eRead_226 : decode cX6_eRead 226 = .ok (.goto (-212), 3) := by decide +kernel
theorem dX6_eRead_229 : decode cX6_eRead 229 = .ok (.aload_n 0, 1) := by decide +kernel
theorem dX6_eRead_230 : decode cX6_eRead 230 = .ok (.invokevirtual 132, 3) := by decide +kernel
theorem dX6_eRead_233 : decode cX6_eRead 233 = .ok (.istore_n 3, 1) := by decide +kernel
theorem dX6_eRead_234 : decode cX6_eRead 234 = .ok (.iload_n 3, 1) := by decide +kernel
theorem dX6_eRead_235 : decode cX6_eRead 235 = .ok (.iconst (-1), 1) := by decide +kernel
theorem dX6_eRead_236 : decode cX6_eRead 236 = .ok (.if_icmp .eq 11, 3) := by decide +kernel
theorem dX6_eRead_239 : decode cX6_eRead 239 = .ok (.aload_n 0, 1) := by decide +kernel
theorem dX6_eRead_240 : decode cX6_eRead 240 = .ok (.iload_n 3, 1) := by decide +kernel
theorem dX6_eRead_241 : decode cX6_eRead 241 = .ok (.invokevirtual 135, 3) := by decide +kernel
theorem dX6_eRead_244 : decode cX6_eRead 244 = .ok (.ifCond .ne 5, 3) := by decide +kernel
theorem dX6_eRead_247 : decode cX6_eRead 247 = .ok (.iconst 0, 1) := by decide +kernel
theorem dX6_eRead_248 : decode cX6_eRead 248 = .ok (.ireturn, 1) := by decide +kernel
theorem dX6_eRead_249 : decode cX6_eRead 249 = .ok (.iconst 1, 1) := by decide +kernel
theorem dX6_eRead_250 : decode cX6_eRead 250 = .ok (.istore_n 1, 1) := by decide +kernel
theorem dX6_eRead_251 : decode cX6_eRead 251 = .ok (.iload_n 3, 1) := by decide +kernel
theorem dX6_eRead_252 : decode cX6_eRead 252 = .ok (.bipush 12, 2) := by decide +kernel
theorem dX6_eRead_254 : decode cX6_eRead 254 = .ok (.if_icmp .gt 7, 3) := by decide +kernel
theorem dX6_eRead_257 : decode cX6_eRead 257 = .ok (.iconst 1, 1) := by decide +kernel
theorem dX6_eRead_258 : decode cX6_eRead 258 = .ok (.goto 4, 3) := by decide +kernel
theorem dX6_eRead_261 : decode cX6_eRead 261 = .ok (.iconst 0, 1) := by decide +kernel
theorem dX6_eRead_262 : decode cX6_eRead 262 = .ok (.istore_n 2, 1) := by decide +kernel
theorem dX6_eRead_263 : decode cX6_eRead 263 = .ok (.goto (-249), 3) := by decide +kernel
theorem dX6_text_0 : decode cX6_text 0 = .ok (.aload_n 0, 1) := by decide +kernel
theorem dX6_text_1 : decode cX6_text 1 = .ok (.getfield 77, 3) := by decide +kernel
theorem dX6_text_4 : decode cX6_text 4 = .ok (.bipush 6, 2) := by decide +kernel
theorem dX6_text_6 : decode cX6_text 6 = .ok (.if_icmp .ne 6, 3) := by decide +kernel
theorem dX6_text_9 : decode cX6_text 9 = .ok (.bipush (-4), 2) := by decide +kernel
theorem dX6_text_11 : decode cX6_text 11 = .ok (.ireturn, 1) := by decide +kernel
theorem dX6_text_12 : decode cX6_text 12 = .ok (.aload_n 0, 1) := by decide +kernel
theorem dX6_text_13 : decode cX6_text 13 = .ok (.iconst 0, 1) := by decide +kernel
theorem dX6_text_14 : decode cX6_text 14 = .ok (.putfield 87, 3) := by decide +kernel
theorem dX6_text_17 : decode cX6_text 17 = .ok (.aload_n 0, 1) := by decide +kernel
theorem dX6_text_18 : decode cX6_text 18 = .ok (.iconst 0, 1) := by decide +kernel
theorem dX6_text_19 : decode cX6_text 19 = .ok (.putfield 103, 3) := by decide +kernel
theorem dX6_text_22 : decode cX6_text 22 = .ok (.iconst 1, 1) := by decide +kernel
theorem dX6_text_23 : decode cX6_text 23 = .ok (.istore_n 1, 1) := by decide +kernel
theorem dX6_text_24 : decode cX6_text 24 = .ok (.iconst 0, 1) := by decide +kernel
theorem dX6_text_25 : decode cX6_text 25 = .ok (.istore_n 2, 1) := by decide +kernel
theorem dX6_text_26 : decode cX6_text 26 = .ok (.iload_n 2, 1) := by decide +kernel
theorem dX6_text_27 : decode cX6_text 27 = .ok (.iconst 3, 1) := by decide +kernel
theorem dX6_text_28 : decode cX6_text 28 = .ok (.if_icmp .ge 73, 3) := by decide +kernel
theorem dX6_text_31 : decode cX6_text 31 = .ok (.iload_n 1, 1) := by decide +kernel
theorem dX6_text_32 : decode cX6_text 32 = .ok (.ifCond .eq 69, 3) := by decide +kernel
theorem dX6_text_35 : decode cX6_text 35 = .ok (.aload_n 0, 1) := by decide +kernel
theorem dX6_text_36 : decode cX6_text 36 = .ok (.invokevirtual 125, 3) := by decide +kernel
theorem dX6_text_39 : decode cX6_text 39 = .ok (.aload_n 0, 1) := by decide +kernel
theorem dX6_text_40 : decode cX6_text 40 = .ok (.getfield 93, 3) := by decide +kernel
theorem dX6_text_43 : decode cX6_text 43 = .ok (.iconst 3, 1) := by decide +kernel
theorem dX6_text_44 : decode cX6_text 44 = .ok (.if_icmp .ne 15, 3) := by decide +kernel
theorem dX6_text_47 : decode cX6_text 47 = .ok (.aload_n 0, 1) := by decide +kernel
theorem dX6_text_48 : decode cX6_text 48 = .ok (.getfield 96, 3) := by decide +kernel
theorem dX6_text_51 : decode cX6_text 51 = .ok (.iload_n 2, 1) := by decide +kernel
theorem dX6_text_52 : decode cX6_text 52 = .ok (.if_icmp .ne 7, 3) := by decide +kernel
theorem dX6_text_55 : decode cX6_text 55 = .ok (.iconst 1, 1) := by decide +kernel
theorem dX6_text_56 : decode cX6_text 56 = .ok (.goto 4, 3) := by decide +kernel
theorem dX6_text_59 : decode cX6_text 59 = .ok (.iconst 0, 1) := by decide +kernel
theorem dX6_text_60 : decode cX6_text 60 = .ok (.istore_n 1, 1) := by decide +kernel
theorem dX6_text_61 : decode cX6_text 61 = .ok (.aload_n 0, 1) := by decide +kernel
theorem dX6_text_62 : decode cX6_text 62 = .ok (.getfield 28, 3) := by decide +kernel
theorem dX6_text_65 : decode cX6_text 65 = .ok (.iconst 4, 1) := by decide +kernel
theorem dX6_text_66 : decode cX6_text 66 = .ok (.aload_n 0, 1) := by decide +kernel
theorem dX6_text_67 : decode cX6_text 67 = .ok (.getfield 77, 3) := by decide +kernel
theorem dX6_text_70 : decode cX6_text 70 = .ok (.imul, 1) := by decide +kernel
theorem dX6_text_71 : decode cX6_text 71 = .ok (.iload_n 2, 1) := by decide +kernel
theorem dX6_text_72 : decode cX6_text 72 = .ok (.iadd, 1) := by decide +kernel
theorem dX6_text_73 : decode cX6_text 73 = .ok (.aload_n 0, 1) := by decide +kernel
theorem dX6_text_74 : decode cX6_text 74 = .ok (.getfield 103, 3) := by decide +kernel
theorem dX6_text_77 : decode cX6_text 77 = .ok (.iastore, 1) := by decide +kernel
theorem dX6_text_78 : decode cX6_text 78 = .ok (.iload_n 1, 1) := by decide +kernel
theorem dX6_text_79 : decode cX6_text 79 = .ok (.ifCond .eq 14, 3) := by decide +kernel
theorem dX6_text_82 : decode cX6_text 82 = .ok (.aload_n 0, 1) := by decide +kernel
theorem dX6_text_83 : decode cX6_text 83 = .ok (.invokevirtual 138, 3) := by decide +kernel
theorem dX6_text_86 : decode cX6_text 86 = .ok (.ifCond .eq 7, 3) := by decide +kernel
theorem dX6_text_89 : decode cX6_text 89 = .ok (.iconst 1, 1) := by decide +kernel
theorem dX6_text_90 : decode cX6_text 90 = .ok (.goto 4, 3) := by decide +kernel
theorem dX6_text_93 : decode cX6_text 93 = .ok (.iconst 0, 1) := by decide +kernel
theorem dX6_text_94 : decode cX6_text 94 = .ok (.istore_n 1, 1) := by decide +kernel
theorem dX6_text_95 : decode cX6_text 95 = .ok (.iinc 2 1, 3) := by decide +kernel
theorem dX6_text_98 : decode cX6_text 98 = .ok (.goto (-72), 3) := by decide +kernel
theorem dX6_text_101 : decode cX6_text 101 = .ok (.iload_n 1, 1) := by decide +kernel
theorem dX6_text_102 : decode cX6_text 102 = .ok (.ifCond .eq 20, 3) := by decide +kernel
theorem dX6_text_105 : decode cX6_text 105 = .ok (.aload_n 0, 1) := by decide +kernel
theorem dX6_text_106 : decode cX6_text 106 = .ok (.invokevirtual 125, 3) := by decide +kernel
theorem dX6_text_109 : decode cX6_text 109 = .ok (.aload_n 0, 1) := by decide +kernel
theorem dX6_text_110 : decode cX6_text 110 = .ok (.getfield 93, 3) := by decide +kernel
theorem dX6_text_113 : decode cX6_text 113 = .ok (.ifCond .ne 7, 3) := by decide +kernel
theorem dX6_text_116 : decode cX6_text 116 = .ok (.iconst 1, 1) := by decide +kernel
theorem dX6_text_117 : decode cX6_text 117 = .ok (.goto 4, 3) := by decide +kernel
theorem dX6_text_120 : decode cX6_text 120 = .ok (.iconst 0, 1) := by decide +kernel
theorem dX6_text_121 : decode cX6_text 121 = .ok (.istore_n 1, 1) := by decide +kernel
theorem dX6_text_122 : decode cX6_text 122 = .ok (.aload_n 0, 1) := by decide +kernel
theorem dX6_text_123 : decode cX6_text 123 = .ok (.getfield 28, 3) := by decide +kernel
theorem dX6_text_126 : decode cX6_text 126 = .ok (.iconst 4, 1) := by decide +kernel
theorem dX6_text_127 : decode cX6_text 127 = .ok (.aload_n 0, 1) := by decide +kernel
theorem dX6_text_128 : decode cX6_text 128 = .ok (.getfield 77, 3) := by decide +kernel
theorem dX6_text_131 : decode cX6_text 131 = .ok (.imul, 1) := by decide +kernel
theorem dX6_text_132 : decode cX6_text 132 = .ok (.iconst 3, 1) := by decide +kernel
theorem dX6_text_133 : decode cX6_text 133 = .ok (.iadd, 1) := by decide +kernel
theorem dX6_text_134 : decode cX6_text 134 = .ok (.aload_n 0, 1) := by decide +kernel
theorem dX6_text_135 : decode cX6_text 135 = .ok (.getfield 103, 3) := by decide +kernel
theorem dX6_text_138 : decode cX6_text 138 = .ok (.iastore, 1) := by decide +kernel
theorem dX6_text_139 : decode cX6_text 139 = .ok (.aload_n 0, 1) := by decide +kernel
theorem dX6_text_140 : decode cX6_text 140 = .ok (.iconst 0, 1) := by decide +kernel
theorem dX6_text_141 : decode cX6_text 141 = .ok (.putfield 61, 3) := by decide +kernel
theorem dX6_text_144 : decode cX6_text 144 = .ok (.iload_n 1, 1) := by decide +kernel
theorem dX6_text_145 : decode cX6_text 145 = .ok (.ifCond .ne 11, 3) := by decide +kernel
theorem dX6_text_148 : decode cX6_text 148 = .ok (.bipush (-100), 2) := by decide +kernel
theorem dX6_text_150 : decode cX6_text 150 = .ok (.aload_n 0, 1) := by decide +kernel
theorem dX6_text_151 : decode cX6_text 151 = .ok (.getfield 90, 3) := by decide +kernel
theorem dX6_text_154 : decode cX6_text 154 = .ok (.isub, 1) := by decide +kernel
theorem dX6_text_155 : decode cX6_text 155 = .ok (.ireturn, 1) := by decide +kernel
theorem dX6_text_156 : decode cX6_text 156 = .ok (.aload_n 0, 1) := by decide +kernel
theorem dX6_text_157 : decode cX6_text 157 = .ok (.dup, 1) := by decide +kernel
theorem dX6_text_158 : decode cX6_text 158 = .ok (.getfield 77, 3) := by decide +kernel
theorem dX6_text_161 : decode cX6_text 161 = .ok (.iconst 1, 1) := by decide +kernel
theorem dX6_text_162 : decode cX6_text 162 = .ok (.iadd, 1) := by decide +kernel
theorem dX6_text_163 : decode cX6_text 163 = .ok (.putfield 77, 3) := by decide +kernel
theorem dX6_text_166 : decode cX6_text 166 = .ok (.aload_n 0, 1) := by decide +kernel
theorem dX6_text_167 : decode cX6_text 167 = .ok (.getfield 77, 3) := by decide +kernel
theorem dX6_text_170 : decode cX6_text 170 = .ok (.iconst 1, 1) := by decide +kernel
theorem dX6_text_171 : decode cX6_text 171 = .ok (.isub, 1) := by decide +kernel
theorem dX6_text_172 : decode cX6_text 172 = .ok (.ireturn, 1) := by decide +kernel
theorem dX6_two_0 : decode cX6_two 0 = .ok (.iload_n 0, 1) := by decide +kernel
theorem dX6_two_1 : decode cX6_two 1 = .ok (.tableswitch 101 11 17 #[43, 57, 101, 71, 82, 93, 97], 43) := by decide +kernel
theorem dX6_two_44 : decode cX6_two 44 = .ok (.iload_n 1, 1) := by decide +kernel
theorem dX6_two_45 : decode cX6_two 45 = .ok (.ifCond .ne 7, 3) := by decide +kernel
theorem dX6_two_48 : decode cX6_two 48 = .ok (.iload_n 2, 1) := by decide +kernel
theorem dX6_two_49 : decode cX6_two 49 = .ok (.ifCond .eq 7, 3) := by decide +kernel
theorem dX6_two_52 : decode cX6_two 52 = .ok (.iconst 1, 1) := by decide +kernel
theorem dX6_two_53 : decode cX6_two 53 = .ok (.goto 4, 3) := by decide +kernel
theorem dX6_two_56 : decode cX6_two 56 = .ok (.iconst 0, 1) := by decide +kernel
theorem dX6_two_57 : decode cX6_two 57 = .ok (.ireturn, 1) := by decide +kernel
theorem dX6_two_58 : decode cX6_two 58 = .ok (.iload_n 1, 1) := by decide +kernel
theorem dX6_two_59 : decode cX6_two 59 = .ok (.ifCond .eq 11, 3) := by decide +kernel
theorem dX6_two_62 : decode cX6_two 62 = .ok (.iload_n 2, 1) := by decide +kernel
theorem dX6_two_63 : decode cX6_two 63 = .ok (.ifCond .eq 7, 3) := by decide +kernel
theorem dX6_two_66 : decode cX6_two 66 = .ok (.iconst 1, 1) := by decide +kernel
theorem dX6_two_67 : decode cX6_two 67 = .ok (.goto 4, 3) := by decide +kernel
theorem dX6_two_70 : decode cX6_two 70 = .ok (.iconst 0, 1) := by decide +kernel
theorem dX6_two_71 : decode cX6_two 71 = .ok (.ireturn, 1) := by decide +kernel
theorem dX6_two_72 : decode cX6_two 72 = .ok (.iload_n 1, 1) := by decide +kernel
theorem dX6_two_73 : decode cX6_two 73 = .ok (.iload_n 2, 1) := by decide +kernel
theorem dX6_two_74 : decode cX6_two 74 = .ok (.if_icmp .ge 7, 3) := by decide +kernel
theorem dX6_two_77 : decode cX6_two 77 = .ok (.iconst 1, 1) := by decide +kernel
theorem dX6_two_78 : decode cX6_two 78 = .ok (.goto 4, 3) := by decide +kernel
theorem dX6_two_81 : decode cX6_two 81 = .ok (.iconst 0, 1) := by decide +kernel
theorem dX6_two_82 : decode cX6_two 82 = .ok (.ireturn, 1) := by decide +kernel
theorem dX6_two_83 : decode cX6_two 83 = .ok (.iload_n 1, 1) := by decide +kernel
theorem dX6_two_84 : decode cX6_two 84 = .ok (.iload_n 2, 1) := by decide +kernel
theorem dX6_two_85 : decode cX6_two 85 = .ok (.if_icmp .ne 7, 3) := by decide +kernel
theorem dX6_two_88 : decode cX6_two 88 = .ok (.iconst 1, 1) := by decide +kernel
theorem dX6_two_89 : decode cX6_two 89 = .ok (.goto 4, 3) := by decide +kernel
theorem dX6_two_92 : decode cX6_two 92 = .ok (.iconst 0, 1) := by decide +kernel
theorem dX6_two_93 : decode cX6_two 93 = .ok (.ireturn, 1) := by decide +kernel
theorem dX6_two_94 : decode cX6_two 94 = .ok (.iload_n 1, 1) := by decide +kernel
theorem dX6_two_95 : decode cX6_two 95 = .ok (.iload_n 2, 1) := by decide +kernel
theorem dX6_two_96 : decode cX6_two 96 = .ok (.iadd, 1) := by decide +kernel
theorem dX6_two_97 : decode cX6_two 97 = .ok (.ireturn, 1) := by decide +kernel
theorem dX6_two_98 : decode cX6_two 98 = .ok (.iload_n 1, 1) := by decide +kernel
theorem dX6_two_99 : decode cX6_two 99 = .ok (.iload_n 2, 1) := by decide +kernel
theorem dX6_two_100 : decode cX6_two 100 = .ok (.isub, 1) := by decide +kernel
theorem dX6_two_101 : decode cX6_two 101 = .ok (.ireturn, 1) := by decide +kernel
theorem dX6_two_102 : decode cX6_two 102 = .ok (.iload_n 1, 1) := by decide +kernel
theorem dX6_two_103 : decode cX6_two 103 = .ok (.iload_n 2, 1) := by decide +kernel
theorem dX6_two_104 : decode cX6_two 104 = .ok (.imul, 1) := by decide +kernel
theorem dX6_two_105 : decode cX6_two 105 = .ok (.ireturn, 1) := by decide +kernel
theorem dX6_worth_0 : decode cX6_worth 0 = .ok (.iconst 0, 1) := by decide +kernel
theorem dX6_worth_1 : decode cX6_worth 1 = .ok (.istore_n 2, 1) := by decide +kernel
theorem dX6_worth_2 : decode cX6_worth 2 = .ok (.aload_n 0, 1) := by decide +kernel
theorem dX6_worth_3 : decode cX6_worth 3 = .ok (.getfield 28, 3) := by decide +kernel
theorem dX6_worth_6 : decode cX6_worth 6 = .ok (.iconst 4, 1) := by decide +kernel
theorem dX6_worth_7 : decode cX6_worth 7 = .ok (.aload_n 0, 1) := by decide +kernel
theorem dX6_worth_8 : decode cX6_worth 8 = .ok (.getfield 80, 3) := by decide +kernel
theorem dX6_worth_11 : decode cX6_worth 11 = .ok (.imul, 1) := by decide +kernel
theorem dX6_worth_12 : decode cX6_worth 12 = .ok (.iload_n 1, 1) := by decide +kernel
theorem dX6_worth_13 : decode cX6_worth 13 = .ok (.iadd, 1) := by decide +kernel
theorem dX6_worth_14 : decode cX6_worth 14 = .ok (.iaload, 1) := by decide +kernel
theorem dX6_worth_15 : decode cX6_worth 15 = .ok (.istore_n 3, 1) := by decide +kernel
theorem dX6_worth_16 : decode cX6_worth 16 = .ok (.iload_n 3, 1) := by decide +kernel
theorem dX6_worth_17 : decode cX6_worth 17 = .ok (.aload_n 0, 1) := by decide +kernel
theorem dX6_worth_18 : decode cX6_worth 18 = .ok (.getfield 28, 3) := by decide +kernel
theorem dX6_worth_21 : decode cX6_worth 21 = .ok (.iconst 4, 1) := by decide +kernel
theorem dX6_worth_22 : decode cX6_worth 22 = .ok (.aload_n 0, 1) := by decide +kernel
theorem dX6_worth_23 : decode cX6_worth 23 = .ok (.getfield 80, 3) := by decide +kernel
theorem dX6_worth_26 : decode cX6_worth 26 = .ok (.imul, 1) := by decide +kernel
theorem dX6_worth_27 : decode cX6_worth 27 = .ok (.iload_n 1, 1) := by decide +kernel
theorem dX6_worth_28 : decode cX6_worth 28 = .ok (.iadd, 1) := by decide +kernel
theorem dX6_worth_29 : decode cX6_worth 29 = .ok (.iconst 1, 1) := by decide +kernel
theorem dX6_worth_30 : decode cX6_worth 30 = .ok (.iadd, 1) := by decide +kernel
theorem dX6_worth_31 : decode cX6_worth 31 = .ok (.iaload, 1) := by decide +kernel
theorem dX6_worth_32 : decode cX6_worth 32 = .ok (.if_icmp .ge 165, 3) := by decide +kernel
theorem dX6_worth_35 : decode cX6_worth 35 = .ok (.aload_n 0, 1) := by decide +kernel
theorem dX6_worth_36 : decode cX6_worth 36 = .ok (.getfield 25, 3) := by decide +kernel
theorem dX6_worth_39 : decode cX6_worth 39 = .ok (.sipush 200, 3) := by decide +kernel
theorem dX6_worth_42 : decode cX6_worth 42 = .ok (.aload_n 0, 1) := by decide +kernel
theorem dX6_worth_43 : decode cX6_worth 43 = .ok (.getfield 80, 3) := by decide +kernel
theorem dX6_worth_46 : decode cX6_worth 46 = .ok (.imul, 1) := by decide +kernel
theorem dX6_worth_47 : decode cX6_worth 47 = .ok (.iload_n 3, 1) := by decide +kernel
theorem dX6_worth_48 : decode cX6_worth 48 = .ok (.iadd, 1) := by decide +kernel
theorem dX6_worth_49 : decode cX6_worth 49 = .ok (.iaload, 1) := by decide +kernel
theorem dX6_worth_50 : decode cX6_worth 50 = .ok (.istore 4, 2) := by decide +kernel
theorem dX6_worth_52 : decode cX6_worth 52 = .ok (.iload 4, 2) := by decide +kernel
theorem dX6_worth_54 : decode cX6_worth 54 = .ok (.ldc 128, 2) := by decide +kernel
theorem dX6_worth_56 : decode cX6_worth 56 = .ok (.if_icmp .ge 10, 3) := by decide +kernel
theorem dX6_worth_59 : decode cX6_worth 59 = .ok (.iload 4, 2) := by decide +kernel
theorem dX6_worth_61 : decode cX6_worth 61 = .ok (.bipush 11, 2) := by decide +kernel
theorem dX6_worth_63 : decode cX6_worth 63 = .ok (.if_icmp .ge 37, 3) := by decide +kernel
theorem dX6_worth_66 : decode cX6_worth 66 = .ok (.aload_n 0, 1) := by decide +kernel
theorem dX6_worth_67 : decode cX6_worth 67 = .ok (.getfield 52, 3) := by decide +kernel
theorem dX6_worth_70 : decode cX6_worth 70 = .ok (.iload_n 2, 1) := by decide +kernel
theorem dX6_worth_71 : decode cX6_worth 71 = .ok (.iload 4, 2) := by decide +kernel
theorem dX6_worth_73 : decode cX6_worth 73 = .ok (.bipush 11, 2) := by decide +kernel
theorem dX6_worth_75 : decode cX6_worth 75 = .ok (.if_icmp .ge 13, 3) := by decide +kernel
theorem dX6_worth_78 : decode cX6_worth 78 = .ok (.aload_n 0, 1) := by decide +kernel
theorem dX6_worth_79 : decode cX6_worth 79 = .ok (.getfield 55, 3) := by decide +kernel
theorem dX6_worth_82 : decode cX6_worth 82 = .ok (.iload 4, 2) := by decide +kernel
theorem dX6_worth_84 : decode cX6_worth 84 = .ok (.iaload, 1) := by decide +kernel
theorem dX6_worth_85 : decode cX6_worth 85 = .ok (.goto 8, 3) := by decide +kernel
theorem dX6_worth_88 : decode cX6_worth 88 = .ok (.iload 4, 2) := by decide +kernel
theorem dX6_worth_90 : decode cX6_worth 90 = .ok (.ldc 128, 2) := by decide +kernel
theorem dX6_worth_92 : decode cX6_worth 92 = .ok (.isub, 1) := by decide +kernel
theorem dX6_worth_93 : decode cX6_worth 93 = .ok (.iastore, 1) := by decide +kernel
theorem dX6_worth_94 : decode cX6_worth 94 = .ok (.iinc 2 1, 3) := by decide +kernel
theorem dX6_worth_97 : decode cX6_worth 97 = .ok (.goto 94, 3) := by decide +kernel
theorem dX6_worth_100 : decode cX6_worth 100 = .ok (.iload 4, 2) := by decide +kernel
theorem dX6_worth_102 : decode cX6_worth 102 = .ok (.bipush 13, 2) := by decide +kernel
theorem dX6_worth_104 : decode cX6_worth 104 = .ok (.if_icmp .ne 30, 3) := by decide +kernel
theorem dX6_worth_107 : decode cX6_worth 107 = .ok (.aload_n 0, 1) := by decide +kernel
theorem dX6_worth_108 : decode cX6_worth 108 = .ok (.getfield 52, 3) := by decide +kernel
theorem dX6_worth_111 : decode cX6_worth 111 = .ok (.iload_n 2, 1) := by decide +kernel
theorem dX6_worth_112 : decode cX6_worth 112 = .ok (.iconst 1, 1) := by decide +kernel
theorem dX6_worth_113 : decode cX6_worth 113 = .ok (.isub, 1) := by decide +kernel
theorem dX6_worth_114 : decode cX6_worth 114 = .ok (.aload_n 0, 1) := by decide +kernel
theorem dX6_worth_115 : decode cX6_worth 115 = .ok (.getfield 52, 3) := by decide +kernel
theorem dX6_worth_118 : decode cX6_worth 118 = .ok (.iload_n 2, 1) := by decide +kernel
theorem dX6_worth_119 : decode cX6_worth 119 = .ok (.iconst 1, 1) := by decide +kernel
theorem dX6_worth_120 : decode cX6_worth 120 = .ok (.isub, 1) := by decide +kernel
theorem dX6_worth_121 : decode cX6_worth 121 = .ok (.iaload, 1) := by decide +kernel
theorem dX6_worth_122 : decode cX6_worth 122 = .ok (.ifCond .ne 7, 3) := by decide +kernel
theorem dX6_worth_125 : decode cX6_worth 125 = .ok (.iconst 1, 1) := by decide +kernel
theorem dX6_worth_126 : decode cX6_worth 126 = .ok (.goto 4, 3) := by decide +kernel
theorem dX6_worth_129 : decode cX6_worth 129 = .ok (.iconst 0, 1) := by decide +kernel
theorem dX6_worth_130 : decode cX6_worth 130 = .ok (.iastore, 1) := by decide +kernel
theorem dX6_worth_131 : decode cX6_worth 131 = .ok (.goto 60, 3) := by decide +kernel
theorem dX6_worth_134 : decode cX6_worth 134 = .ok (.iload 4, 2) := by decide +kernel
theorem dX6_worth_136 : decode cX6_worth 136 = .ok (.bipush 19, 2) := by decide +kernel
theorem dX6_worth_138 : decode cX6_worth 138 = .ok (.if_icmp .ne 23, 3) := by decide +kernel
theorem dX6_worth_141 : decode cX6_worth 141 = .ok (.aload_n 0, 1) := by decide +kernel
theorem dX6_worth_142 : decode cX6_worth 142 = .ok (.getfield 52, 3) := by decide +kernel
theorem dX6_worth_145 : decode cX6_worth 145 = .ok (.iload_n 2, 1) := by decide +kernel
theorem dX6_worth_146 : decode cX6_worth 146 = .ok (.iconst 1, 1) := by decide +kernel
theorem dX6_worth_147 : decode cX6_worth 147 = .ok (.isub, 1) := by decide +kernel
theorem dX6_worth_148 : decode cX6_worth 148 = .ok (.aload_n 0, 1) := by decide +kernel
theorem dX6_worth_149 : decode cX6_worth 149 = .ok (.getfield 52, 3) := by decide +kernel
theorem dX6_worth_152 : decode cX6_worth 152 = .ok (.iload_n 2, 1) := by decide +kernel
theorem dX6_worth_153 : decode cX6_worth 153 = .ok (.iconst 1, 1) := by decide +kernel
theorem dX6_worth_154 : decode cX6_worth 154 = .ok (.isub, 1) := by decide +kernel
theorem dX6_worth_155 : decode cX6_worth 155 = .ok (.iaload, 1) := by decide +kernel
theorem dX6_worth_156 : decode cX6_worth 156 = .ok (.ineg, 1) := by decide +kernel
theorem dX6_worth_157 : decode cX6_worth 157 = .ok (.iastore, 1) := by decide +kernel
theorem dX6_worth_158 : decode cX6_worth 158 = .ok (.goto 33, 3) := by decide +kernel
theorem dX6_worth_161 : decode cX6_worth 161 = .ok (.iinc 2 (-1), 3) := by decide +kernel
theorem dX6_worth_164 : decode cX6_worth 164 = .ok (.aload_n 0, 1) := by decide +kernel
theorem dX6_worth_165 : decode cX6_worth 165 = .ok (.getfield 52, 3) := by decide +kernel
theorem dX6_worth_168 : decode cX6_worth 168 = .ok (.iload_n 2, 1) := by decide +kernel
theorem dX6_worth_169 : decode cX6_worth 169 = .ok (.iconst 1, 1) := by decide +kernel
theorem dX6_worth_170 : decode cX6_worth 170 = .ok (.isub, 1) := by decide +kernel
theorem dX6_worth_171 : decode cX6_worth 171 = .ok (.iload 4, 2) := by decide +kernel
theorem dX6_worth_173 : decode cX6_worth 173 = .ok (.aload_n 0, 1) := by decide +kernel
theorem dX6_worth_174 : decode cX6_worth 174 = .ok (.getfield 52, 3) := by decide +kernel
theorem dX6_worth_177 : decode cX6_worth 177 = .ok (.iload_n 2, 1) := by decide +kernel
theorem dX6_worth_178 : decode cX6_worth 178 = .ok (.iconst 1, 1) := by decide +kernel
theorem dX6_worth_179 : decode cX6_worth 179 = .ok (.isub, 1) := by decide +kernel
theorem dX6_worth_180 : decode cX6_worth 180 = .ok (.iaload, 1) := by decide +kernel
theorem dX6_worth_181 : decode cX6_worth 181 = .ok (.aload_n 0, 1) := by decide +kernel
theorem dX6_worth_182 : decode cX6_worth 182 = .ok (.getfield 52, 3) := by decide +kernel
theorem dX6_worth_185 : decode cX6_worth 185 = .ok (.iload_n 2, 1) := by decide +kernel
theorem dX6_worth_186 : decode cX6_worth 186 = .ok (.iaload, 1) := by decide +kernel
theorem dX6_worth_187 : decode cX6_worth 187 = .ok (.invokestatic 142, 3) := by decide +kernel
theorem dX6_worth_190 : decode cX6_worth 190 = .ok (.iastore, 1) := by decide +kernel
theorem dX6_worth_191 : decode cX6_worth 191 = .ok (.iinc 3 1, 3) := by decide +kernel
theorem dX6_worth_194 : decode cX6_worth 194 = .ok (.goto (-178), 3) := by decide +kernel
theorem dX6_worth_197 : decode cX6_worth 197 = .ok (.aload_n 0, 1) := by decide +kernel
theorem dX6_worth_198 : decode cX6_worth 198 = .ok (.getfield 52, 3) := by decide +kernel
theorem dX6_worth_201 : decode cX6_worth 201 = .ok (.iconst 0, 1) := by decide +kernel
theorem dX6_worth_202 : decode cX6_worth 202 = .ok (.iaload, 1) := by decide +kernel
theorem dX6_worth_203 : decode cX6_worth 203 = .ok (.ireturn, 1) := by decide +kernel
theorem dX6_force_0 : decode cX6_force 0 = .ok (.iload_n 1, 1) := by decide +kernel
theorem dX6_force_1 : decode cX6_force 1 = .ok (.iconst 0, 1) := by decide +kernel
theorem dX6_force_2 : decode cX6_force 2 = .ok (.aload_n 0, 1) := by decide +kernel
theorem dX6_force_3 : decode cX6_force 3 = .ok (.getfield 77, 3) := by decide +kernel
theorem dX6_force_6 : decode cX6_force 6 = .ok (.iconst 1, 1) := by decide +kernel
theorem dX6_force_7 : decode cX6_force 7 = .ok (.isub, 1) := by decide +kernel
theorem dX6_force_8 : decode cX6_force 8 = .ok (.invokestatic 69, 3) := by decide +kernel
theorem dX6_force_11 : decode cX6_force 11 = .ok (.ifCond .ne 6, 3) := by decide +kernel
theorem dX6_force_14 : decode cX6_force 14 = .ok (.bipush (-2), 2) := by decide +kernel
theorem dX6_force_16 : decode cX6_force 16 = .ok (.ireturn, 1) := by decide +kernel
theorem dX6_force_17 : decode cX6_force 17 = .ok (.aload_n 0, 1) := by decide +kernel
theorem dX6_force_18 : decode cX6_force 18 = .ok (.getfield 80, 3) := by decide +kernel
theorem dX6_force_21 : decode cX6_force 21 = .ok (.istore_n 2, 1) := by decide +kernel
theorem dX6_force_22 : decode cX6_force 22 = .ok (.aload_n 0, 1) := by decide +kernel
theorem dX6_force_23 : decode cX6_force 23 = .ok (.iload_n 1, 1) := by decide +kernel
theorem dX6_force_24 : decode cX6_force 24 = .ok (.putfield 80, 3) := by decide +kernel
theorem dX6_force_27 : decode cX6_force 27 = .ok (.iload_n 2, 1) := by decide +kernel
theorem dX6_force_28 : decode cX6_force 28 = .ok (.ireturn, 1) := by decide +kernel
theorem dX6_faceOf_0 : decode cX6_faceOf 0 = .ok (.iload_n 0, 1) := by decide +kernel
theorem dX6_faceOf_1 : decode cX6_faceOf 1 = .ok (.iconst 1, 1) := by decide +kernel
theorem dX6_faceOf_2 : decode cX6_faceOf 2 = .ok (.if_icmp .ne 7, 3) := by decide +kernel
theorem dX6_faceOf_5 : decode cX6_faceOf 5 = .ok (.iconst 1, 1) := by decide +kernel
theorem dX6_faceOf_6 : decode cX6_faceOf 6 = .ok (.goto 4, 3) := by decide +kernel
theorem dX6_faceOf_9 : decode cX6_faceOf 9 = .ok (.iconst 0, 1) := by decide +kernel
theorem dX6_faceOf_10 : decode cX6_faceOf 10 = .ok (.ireturn, 1) := by decide +kernel
theorem dX6_asksOf_0 : decode cX6_asksOf 0 = .ok (.aload_n 0, 1) := by decide +kernel
theorem dX6_asksOf_1 : decode cX6_asksOf 1 = .ok (.getfield 55, 3) := by decide +kernel
theorem dX6_asksOf_4 : decode cX6_asksOf 4 = .ok (.iconst 0, 1) := by decide +kernel
theorem dX6_asksOf_5 : decode cX6_asksOf 5 = .ok (.iload_n 2, 1) := by decide +kernel
theorem dX6_asksOf_6 : decode cX6_asksOf 6 = .ok (.bipush 6, 2) := by decide +kernel
theorem dX6_asksOf_8 : decode cX6_asksOf 8 = .ok (.idiv, 1) := by decide +kernel
theorem dX6_asksOf_9 : decode cX6_asksOf 9 = .ok (.iastore, 1) := by decide +kernel
theorem dX6_asksOf_10 : decode cX6_asksOf 10 = .ok (.aload_n 0, 1) := by decide +kernel
theorem dX6_asksOf_11 : decode cX6_asksOf 11 = .ok (.getfield 55, 3) := by decide +kernel
theorem dX6_asksOf_14 : decode cX6_asksOf 14 = .ok (.iconst 1, 1) := by decide +kernel
theorem dX6_asksOf_15 : decode cX6_asksOf 15 = .ok (.iload_n 2, 1) := by decide +kernel
theorem dX6_asksOf_16 : decode cX6_asksOf 16 = .ok (.bipush 6, 2) := by decide +kernel
theorem dX6_asksOf_18 : decode cX6_asksOf 18 = .ok (.irem, 1) := by decide +kernel
theorem dX6_asksOf_19 : decode cX6_asksOf 19 = .ok (.iastore, 1) := by decide +kernel
theorem dX6_asksOf_20 : decode cX6_asksOf 20 = .ok (.aload_n 0, 1) := by decide +kernel
theorem dX6_asksOf_21 : decode cX6_asksOf 21 = .ok (.getfield 55, 3) := by decide +kernel
theorem dX6_asksOf_24 : decode cX6_asksOf 24 = .ok (.iconst 2, 1) := by decide +kernel
theorem dX6_asksOf_25 : decode cX6_asksOf 25 = .ok (.aload_n 0, 1) := by decide +kernel
theorem dX6_asksOf_26 : decode cX6_asksOf 26 = .ok (.getfield 13, 3) := by decide +kernel
theorem dX6_asksOf_29 : decode cX6_asksOf 29 = .ok (.iload_n 2, 1) := by decide +kernel
theorem dX6_asksOf_30 : decode cX6_asksOf 30 = .ok (.iaload, 1) := by decide +kernel
theorem dX6_asksOf_31 : decode cX6_asksOf 31 = .ok (.iastore, 1) := by decide +kernel
theorem dX6_asksOf_32 : decode cX6_asksOf 32 = .ok (.aload_n 0, 1) := by decide +kernel
theorem dX6_asksOf_33 : decode cX6_asksOf 33 = .ok (.getfield 55, 3) := by decide +kernel
theorem dX6_asksOf_36 : decode cX6_asksOf 36 = .ok (.iconst 3, 1) := by decide +kernel
theorem dX6_asksOf_37 : decode cX6_asksOf 37 = .ok (.iload_n 3, 1) := by decide +kernel
theorem dX6_asksOf_38 : decode cX6_asksOf 38 = .ok (.iastore, 1) := by decide +kernel
theorem dX6_asksOf_39 : decode cX6_asksOf 39 = .ok (.aload_n 0, 1) := by decide +kernel
theorem dX6_asksOf_40 : decode cX6_asksOf 40 = .ok (.getfield 55, 3) := by decide +kernel
theorem dX6_asksOf_43 : decode cX6_asksOf 43 = .ok (.iconst 4, 1) := by decide +kernel
theorem dX6_asksOf_44 : decode cX6_asksOf 44 = .ok (.aload_n 0, 1) := by decide +kernel
theorem dX6_asksOf_45 : decode cX6_asksOf 45 = .ok (.getfield 7, 3) := by decide +kernel
theorem dX6_asksOf_48 : decode cX6_asksOf 48 = .ok (.iload_n 2, 1) := by decide +kernel
theorem dX6_asksOf_49 : decode cX6_asksOf 49 = .ok (.iaload, 1) := by decide +kernel
theorem dX6_asksOf_50 : decode cX6_asksOf 50 = .ok (.invokestatic 146, 3) := by decide +kernel
theorem dX6_asksOf_53 : decode cX6_asksOf 53 = .ok (.iastore, 1) := by decide +kernel
theorem dX6_asksOf_54 : decode cX6_asksOf 54 = .ok (.aload_n 0, 1) := by decide +kernel
theorem dX6_asksOf_55 : decode cX6_asksOf 55 = .ok (.getfield 55, 3) := by decide +kernel
theorem dX6_asksOf_58 : decode cX6_asksOf 58 = .ok (.iconst 5, 1) := by decide +kernel
theorem dX6_asksOf_59 : decode cX6_asksOf 59 = .ok (.aload_n 0, 1) := by decide +kernel
theorem dX6_asksOf_60 : decode cX6_asksOf 60 = .ok (.getfield 19, 3) := by decide +kernel
theorem dX6_asksOf_63 : decode cX6_asksOf 63 = .ok (.iload_n 2, 1) := by decide +kernel
theorem dX6_asksOf_64 : decode cX6_asksOf 64 = .ok (.iaload, 1) := by decide +kernel
theorem dX6_asksOf_65 : decode cX6_asksOf 65 = .ok (.iastore, 1) := by decide +kernel
theorem dX6_asksOf_66 : decode cX6_asksOf 66 = .ok (.aload_n 0, 1) := by decide +kernel
theorem dX6_asksOf_67 : decode cX6_asksOf 67 = .ok (.iload_n 1, 1) := by decide +kernel
theorem dX6_asksOf_68 : decode cX6_asksOf 68 = .ok (.invokevirtual 149, 3) := by decide +kernel
theorem dX6_asksOf_71 : decode cX6_asksOf 71 = .ok (.iconst 0, 1) := by decide +kernel
theorem dX6_asksOf_72 : decode cX6_asksOf 72 = .ok (.bipush 99, 2) := by decide +kernel
theorem dX6_asksOf_74 : decode cX6_asksOf 74 = .ok (.invokestatic 152, 3) := by decide +kernel
theorem dX6_asksOf_77 : decode cX6_asksOf 77 = .ok (.ireturn, 1) := by decide +kernel
theorem dX6_asks_0 : decode cX6_asks 0 = .ok (.iload_n 2, 1) := by decide +kernel
theorem dX6_asks_1 : decode cX6_asks 1 = .ok (.invokestatic 155, 3) := by decide +kernel
theorem dX6_asks_4 : decode cX6_asks 4 = .ok (.ifCond .ne 6, 3) := by decide +kernel
theorem dX6_asks_7 : decode cX6_asks 7 = .ok (.bipush (-5), 2) := by decide +kernel
theorem dX6_asks_9 : decode cX6_asks 9 = .ok (.ireturn, 1) := by decide +kernel
theorem dX6_asks_10 : decode cX6_asks 10 = .ok (.iload_n 1, 1) := by decide +kernel
theorem dX6_asks_11 : decode cX6_asks 11 = .ok (.iconst 0, 1) := by decide +kernel
theorem dX6_asks_12 : decode cX6_asks 12 = .ok (.iconst 2, 1) := by decide +kernel
theorem dX6_asks_13 : decode cX6_asks 13 = .ok (.invokestatic 69, 3) := by decide +kernel
theorem dX6_asks_16 : decode cX6_asks 16 = .ok (.ifCond .eq 20, 3) := by decide +kernel
theorem dX6_asks_19 : decode cX6_asks 19 = .ok (.iload_n 3, 1) := by decide +kernel
theorem dX6_asks_20 : decode cX6_asks 20 = .ok (.invokestatic 158, 3) := by decide +kernel
theorem dX6_asks_23 : decode cX6_asks 23 = .ok (.ifCond .eq 13, 3) := by decide +kernel
theorem dX6_asks_26 : decode cX6_asks 26 = .ok (.aload_n 0, 1) := by decide +kernel
theorem dX6_asks_27 : decode cX6_asks 27 = .ok (.iload_n 1, 1) := by decide +kernel
theorem dX6_asks_28 : decode cX6_asks 28 = .ok (.iload_n 2, 1) := by decide +kernel
theorem dX6_asks_29 : decode cX6_asks 29 = .ok (.iload_n 3, 1) := by decide +kernel
theorem dX6_asks_30 : decode cX6_asks 30 = .ok (.invokevirtual 161, 3) := by decide +kernel
theorem dX6_asks_33 : decode cX6_asks 33 = .ok (.goto 5, 3) := by decide +kernel
theorem dX6_asks_36 : decode cX6_asks 36 = .ok (.bipush (-7), 2) := by decide +kernel
theorem dX6_asks_38 : decode cX6_asks 38 = .ok (.ireturn, 1) := by decide +kernel
theorem dX6_rubs_0 : decode cX6_rubs 0 = .ok (.aload_n 0, 1) := by decide +kernel
theorem dX6_rubs_1 : decode cX6_rubs 1 = .ok (.iconst 0, 1) := by decide +kernel
theorem dX6_rubs_2 : decode cX6_rubs 2 = .ok (.iload_n 1, 1) := by decide +kernel
theorem dX6_rubs_3 : decode cX6_rubs 3 = .ok (.iload_n 2, 1) := by decide +kernel
theorem dX6_rubs_4 : decode cX6_rubs 4 = .ok (.invokevirtual 161, 3) := by decide +kernel
theorem dX6_rubs_7 : decode cX6_rubs 7 = .ok (.istore_n 3, 1) := by decide +kernel
theorem dX6_rubs_8 : decode cX6_rubs 8 = .ok (.aload_n 0, 1) := by decide +kernel
theorem dX6_rubs_9 : decode cX6_rubs 9 = .ok (.getfield 7, 3) := by decide +kernel
theorem dX6_rubs_12 : decode cX6_rubs 12 = .ok (.iload_n 1, 1) := by decide +kernel
theorem dX6_rubs_13 : decode cX6_rubs 13 = .ok (.iaload, 1) := by decide +kernel
theorem dX6_rubs_14 : decode cX6_rubs 14 = .ok (.istore 4, 2) := by decide +kernel
theorem dX6_rubs_16 : decode cX6_rubs 16 = .ok (.iload 4, 2) := by decide +kernel
theorem dX6_rubs_18 : decode cX6_rubs 18 = .ok (.iconst 1, 1) := by decide +kernel
theorem dX6_rubs_19 : decode cX6_rubs 19 = .ok (.if_icmp .eq 9, 3) := by decide +kernel
theorem dX6_rubs_22 : decode cX6_rubs 22 = .ok (.iload 4, 2) := by decide +kernel
theorem dX6_rubs_24 : decode cX6_rubs 24 = .ok (.iconst 5, 1) := by decide +kernel
theorem dX6_rubs_25 : decode cX6_rubs 25 = .ok (.if_icmp .ne 14, 3) := by decide +kernel
theorem dX6_rubs_28 : decode cX6_rubs 28 = .ok (.iload_n 3, 1) := by decide +kernel
theorem dX6_rubs_29 : decode cX6_rubs 29 = .ok (.aload_n 0, 1) := by decide +kernel
theorem dX6_rubs_30 : decode cX6_rubs 30 = .ok (.getfield 13, 3) := by decide +kernel
theorem dX6_rubs_33 : decode cX6_rubs 33 = .ok (.iload_n 1, 1) := by decide +kernel
theorem dX6_rubs_34 : decode cX6_rubs 34 = .ok (.iaload, 1) := by decide +kernel
theorem dX6_rubs_35 : decode cX6_rubs 35 = .ok (.iadd, 1) := by decide +kernel
theorem dX6_rubs_36 : decode cX6_rubs 36 = .ok (.goto 16, 3) := by decide +kernel
theorem dX6_rubs_39 : decode cX6_rubs 39 = .ok (.iload 4, 2) := by decide +kernel
theorem dX6_rubs_41 : decode cX6_rubs 41 = .ok (.iconst 3, 1) := by decide +kernel
theorem dX6_rubs_42 : decode cX6_rubs 42 = .ok (.if_icmp .ne 9, 3) := by decide +kernel
theorem dX6_rubs_45 : decode cX6_rubs 45 = .ok (.iconst 2, 1) := by decide +kernel
theorem dX6_rubs_46 : decode cX6_rubs 46 = .ok (.iload_n 3, 1) := by decide +kernel
theorem dX6_rubs_47 : decode cX6_rubs 47 = .ok (.imul, 1) := by decide +kernel
theorem dX6_rubs_48 : decode cX6_rubs 48 = .ok (.goto 4, 3) := by decide +kernel
theorem dX6_rubs_51 : decode cX6_rubs 51 = .ok (.iload_n 3, 1) := by decide +kernel
theorem dX6_rubs_52 : decode cX6_rubs 52 = .ok (.iconst 0, 1) := by decide +kernel
theorem dX6_rubs_53 : decode cX6_rubs 53 = .ok (.sipush 999, 3) := by decide +kernel
theorem dX6_rubs_56 : decode cX6_rubs 56 = .ok (.invokestatic 152, 3) := by decide +kernel
theorem dX6_rubs_59 : decode cX6_rubs 59 = .ok (.ireturn, 1) := by decide +kernel
theorem dX6_through_0 : decode cX6_through 0 = .ok (.iconst 1, 1) := by decide +kernel
theorem dX6_through_1 : decode cX6_through 1 = .ok (.iload_n 1, 1) := by decide +kernel
theorem dX6_through_2 : decode cX6_through 2 = .ok (.bipush 6, 2) := by decide +kernel
theorem dX6_through_4 : decode cX6_through 4 = .ok (.irem, 1) := by decide +kernel
theorem dX6_through_5 : decode cX6_through 5 = .ok (.ishl, 1) := by decide +kernel
theorem dX6_through_6 : decode cX6_through 6 = .ok (.istore_n 2, 1) := by decide +kernel
theorem dX6_through_7 : decode cX6_through 7 = .ok (.iconst 1, 1) := by decide +kernel
theorem dX6_through_8 : decode cX6_through 8 = .ok (.iload_n 1, 1) := by decide +kernel
theorem dX6_through_9 : decode cX6_through 9 = .ok (.bipush 6, 2) := by decide +kernel
theorem dX6_through_11 : decode cX6_through 11 = .ok (.irem, 1) := by decide +kernel
theorem dX6_through_12 : decode cX6_through 12 = .ok (.iconst 1, 1) := by decide +kernel
theorem dX6_through_13 : decode cX6_through 13 = .ok (.ixor, 1) := by decide +kernel
theorem dX6_through_14 : decode cX6_through 14 = .ok (.ishl, 1) := by decide +kernel
theorem dX6_through_15 : decode cX6_through 15 = .ok (.istore_n 3, 1) := by decide +kernel
theorem dX6_through_16 : decode cX6_through 16 = .ok (.aload_n 0, 1) := by decide +kernel
theorem dX6_through_17 : decode cX6_through 17 = .ok (.getfield 7, 3) := by decide +kernel
theorem dX6_through_20 : decode cX6_through 20 = .ok (.iload_n 1, 1) := by decide +kernel
theorem dX6_through_21 : decode cX6_through 21 = .ok (.iaload, 1) := by decide +kernel
theorem dX6_through_22 : decode cX6_through 22 = .ok (.istore 4, 2) := by decide +kernel
theorem dX6_through_24 : decode cX6_through 24 = .ok (.iload 4, 2) := by decide +kernel
theorem dX6_through_26 : decode cX6_through 26 = .ok (.iconst 2, 1) := by decide +kernel
theorem dX6_through_27 : decode cX6_through 27 = .ok (.if_icmp .ne 7, 3) := by decide +kernel
theorem dX6_through_30 : decode cX6_through 30 = .ok (.iload_n 3, 1) := by decide +kernel
theorem dX6_through_31 : decode cX6_through 31 = .ok (.goto 26, 3) := by decide +kernel
theorem dX6_through_34 : decode cX6_through 34 = .ok (.iload 4, 2) := by decide +kernel
theorem dX6_through_36 : decode cX6_through 36 = .ok (.iconst 3, 1) := by decide +kernel
theorem dX6_through_37 : decode cX6_through 37 = .ok (.if_icmp .ne 9, 3) := by decide +kernel
theorem dX6_through_40 : decode cX6_through 40 = .ok (.iload_n 2, 1) := by decide +kernel
theorem dX6_through_41 : decode cX6_through 41 = .ok (.iload_n 3, 1) := by decide +kernel
theorem dX6_through_42 : decode cX6_through 42 = .ok (.ior, 1) := by decide +kernel
theorem dX6_through_43 : decode cX6_through 43 = .ok (.goto 14, 3) := by decide +kernel
theorem dX6_through_46 : decode cX6_through 46 = .ok (.iload 4, 2) := by decide +kernel
theorem dX6_through_48 : decode cX6_through 48 = .ok (.iconst 4, 1) := by decide +kernel
theorem dX6_through_49 : decode cX6_through 49 = .ok (.if_icmp .ne 7, 3) := by decide +kernel
theorem dX6_through_52 : decode cX6_through 52 = .ok (.iconst 0, 1) := by decide +kernel
theorem dX6_through_53 : decode cX6_through 53 = .ok (.goto 4, 3) := by decide +kernel
theorem dX6_through_56 : decode cX6_through 56 = .ok (.iload_n 2, 1) := by decide +kernel
theorem dX6_through_57 : decode cX6_through 57 = .ok (.ireturn, 1) := by decide +kernel
theorem dX6_isKnit_0 : decode cX6_isKnit 0 = .ok (.iload_n 0, 1) := by decide +kernel
theorem dX6_isKnit_1 : decode cX6_isKnit 1 = .ok (.iconst 0, 1) := by decide +kernel
theorem dX6_isKnit_2 : decode cX6_isKnit 2 = .ok (.iconst 5, 1) := by decide +kernel
theorem dX6_isKnit_3 : decode cX6_isKnit 3 = .ok (.invokestatic 69, 3) := by decide +kernel
theorem dX6_isKnit_6 : decode cX6_isKnit 6 = .ok (.ifCond .eq 17, 3) := by decide +kernel
theorem dX6_isKnit_9 : decode cX6_isKnit 9 = .ok (.iload_n 1, 1) := by decide +kernel
theorem dX6_isKnit_10 : decode cX6_isKnit 10 = .ok (.iconst 0, 1) := by decide +kernel
theorem dX6_isKnit_11 : decode cX6_isKnit 11 = .ok (.bipush 9, 2) := by decide +kernel
theorem dX6_isKnit_13 : decode cX6_isKnit 13 = .ok (.invokestatic 69, 3) := by decide +kernel
theorem dX6_isKnit_16 : decode cX6_isKnit 16 = .ok (.ifCond .eq 7, 3) := by decide +kernel
theorem dX6_isKnit_19 : decode cX6_isKnit 19 = .ok (.iconst 1, 1) := by decide +kernel
theorem dX6_isKnit_20 : decode cX6_isKnit 20 = .ok (.goto 4, 3) := by decide +kernel
theorem dX6_isKnit_23 : decode cX6_isKnit 23 = .ok (.iconst 0, 1) := by decide +kernel
theorem dX6_isKnit_24 : decode cX6_isKnit 24 = .ok (.ireturn, 1) := by decide +kernel
theorem dX6_knit_0 : decode cX6_knit 0 = .ok (.iload_n 1, 1) := by decide +kernel
theorem dX6_knit_1 : decode cX6_knit 1 = .ok (.invokestatic 155, 3) := by decide +kernel
theorem dX6_knit_4 : decode cX6_knit 4 = .ok (.ifCond .ne 6, 3) := by decide +kernel
theorem dX6_knit_7 : decode cX6_knit 7 = .ok (.bipush (-5), 2) := by decide +kernel
theorem dX6_knit_9 : decode cX6_knit 9 = .ok (.ireturn, 1) := by decide +kernel
theorem dX6_knit_10 : decode cX6_knit 10 = .ok (.iload_n 2, 1) := by decide +kernel
theorem dX6_knit_11 : decode cX6_knit 11 = .ok (.iload_n 3, 1) := by decide +kernel
theorem dX6_knit_12 : decode cX6_knit 12 = .ok (.invokestatic 164, 3) := by decide +kernel
theorem dX6_knit_15 : decode cX6_knit 15 = .ok (.ifCond .ne 6, 3) := by decide +kernel
theorem dX6_knit_18 : decode cX6_knit 18 = .ok (.bipush (-7), 2) := by decide +kernel
theorem dX6_knit_20 : decode cX6_knit 20 = .ok (.ireturn, 1) := by decide +kernel
theorem dX6_knit_21 : decode cX6_knit 21 = .ok (.aload_n 0, 1) := by decide +kernel
theorem dX6_knit_22 : decode cX6_knit 22 = .ok (.getfield 7, 3) := by decide +kernel
theorem dX6_knit_25 : decode cX6_knit 25 = .ok (.iload_n 1, 1) := by decide +kernel
theorem dX6_knit_26 : decode cX6_knit 26 = .ok (.iaload, 1) := by decide +kernel
theorem dX6_knit_27 : decode cX6_knit 27 = .ok (.istore 4, 2) := by decide +kernel
theorem dX6_knit_29 : decode cX6_knit 29 = .ok (.aload_n 0, 1) := by decide +kernel
theorem dX6_knit_30 : decode cX6_knit 30 = .ok (.getfield 7, 3) := by decide +kernel
theorem dX6_knit_33 : decode cX6_knit 33 = .ok (.iload_n 1, 1) := by decide +kernel
theorem dX6_knit_34 : decode cX6_knit 34 = .ok (.iload_n 2, 1) := by decide +kernel
theorem dX6_knit_35 : decode cX6_knit 35 = .ok (.iastore, 1) := by decide +kernel
theorem dX6_knit_36 : decode cX6_knit 36 = .ok (.aload_n 0, 1) := by decide +kernel
theorem dX6_knit_37 : decode cX6_knit 37 = .ok (.getfield 13, 3) := by decide +kernel
theorem dX6_knit_40 : decode cX6_knit 40 = .ok (.iload_n 1, 1) := by decide +kernel
theorem dX6_knit_41 : decode cX6_knit 41 = .ok (.iload_n 3, 1) := by decide +kernel
theorem dX6_knit_42 : decode cX6_knit 42 = .ok (.iastore, 1) := by decide +kernel
theorem dX6_knit_43 : decode cX6_knit 43 = .ok (.iload 4, 2) := by decide +kernel
theorem dX6_knit_45 : decode cX6_knit 45 = .ok (.ireturn, 1) := by decide +kernel
theorem dX6_row_0 : decode cX6_row 0 = .ok (.iload_n 1, 1) := by decide +kernel
theorem dX6_row_1 : decode cX6_row 1 = .ok (.iconst 0, 1) := by decide +kernel
theorem dX6_row_2 : decode cX6_row 2 = .ok (.bipush 7, 2) := by decide +kernel
theorem dX6_row_4 : decode cX6_row 4 = .ok (.invokestatic 69, 3) := by decide +kernel
theorem dX6_row_7 : decode cX6_row 7 = .ok (.ifCond .ne 6, 3) := by decide +kernel
theorem dX6_row_10 : decode cX6_row 10 = .ok (.bipush (-5), 2) := by decide +kernel
theorem dX6_row_12 : decode cX6_row 12 = .ok (.ireturn, 1) := by decide +kernel
theorem dX6_row_13 : decode cX6_row 13 = .ok (.iload_n 2, 1) := by decide +kernel
theorem dX6_row_14 : decode cX6_row 14 = .ok (.iload_n 3, 1) := by decide +kernel
theorem dX6_row_15 : decode cX6_row 15 = .ok (.invokestatic 164, 3) := by decide +kernel
theorem dX6_row_18 : decode cX6_row 18 = .ok (.ifCond .ne 6, 3) := by decide +kernel
theorem dX6_row_21 : decode cX6_row 21 = .ok (.bipush (-7), 2) := by decide +kernel
theorem dX6_row_23 : decode cX6_row 23 = .ok (.ireturn, 1) := by decide +kernel
theorem dX6_row_24 : decode cX6_row 24 = .ok (.iconst 0, 1) := by decide +kernel
theorem dX6_row_25 : decode cX6_row 25 = .ok (.istore 4, 2) := by decide +kernel
theorem dX6_row_27 : decode cX6_row 27 = .ok (.bipush 6, 2) := by decide +kernel
theorem dX6_row_29 : decode cX6_row 29 = .ok (.iload_n 1, 1) := by decide +kernel
theorem dX6_row_30 : decode cX6_row 30 = .ok (.imul, 1) := by decide +kernel
theorem dX6_row_31 : decode cX6_row 31 = .ok (.istore 5, 2) := by decide +kernel
theorem dX6_row_33 : decode cX6_row 33 = .ok (.iload 5, 2) := by decide +kernel
theorem dX6_row_35 : decode cX6_row 35 = .ok (.bipush 6, 2) := by decide +kernel
theorem dX6_row_37 : decode cX6_row 37 = .ok (.iload_n 1, 1) := by decide +kernel
theorem dX6_row_38 : decode cX6_row 38 = .ok (.imul, 1) := by decide +kernel
theorem dX6_row_39 : decode cX6_row 39 = .ok (.bipush 6, 2) := by decide +kernel
theorem dX6_row_41 : decode cX6_row 41 = .ok (.iadd, 1) := by decide +kernel
theorem dX6_row_42 : decode cX6_row 42 = .ok (.if_icmp .ge 31, 3) := by decide +kernel
theorem dX6_row_45 : decode cX6_row 45 = .ok (.iload 4, 2) := by decide +kernel
theorem dX6_row_47 : decode cX6_row 47 = .ok (.aload_n 0, 1) := by decide +kernel
theorem dX6_row_48 : decode cX6_row 48 = .ok (.iload 5, 2) := by decide +kernel
theorem dX6_row_50 : decode cX6_row 50 = .ok (.iload_n 2, 1) := by decide +kernel
theorem dX6_row_51 : decode cX6_row 51 = .ok (.iload_n 3, 1) := by decide +kernel
theorem dX6_row_52 : decode cX6_row 52 = .ok (.invokevirtual 168, 3) := by decide +kernel
theorem dX6_row_55 : decode cX6_row 55 = .ok (.iload_n 2, 1) := by decide +kernel
theorem dX6_row_56 : decode cX6_row 56 = .ok (.if_icmp .eq 7, 3) := by decide +kernel
theorem dX6_row_59 : decode cX6_row 59 = .ok (.iconst 1, 1) := by decide +kernel
theorem dX6_row_60 : decode cX6_row 60 = .ok (.goto 4, 3) := by decide +kernel
theorem dX6_row_63 : decode cX6_row 63 = .ok (.iconst 0, 1) := by decide +kernel
theorem dX6_row_64 : decode cX6_row 64 = .ok (.iadd, 1) := by decide +kernel
theorem dX6_row_65 : decode cX6_row 65 = .ok (.istore 4, 2) := by decide +kernel
theorem dX6_row_67 : decode cX6_row 67 = .ok (.iinc 5 1, 3) := by decide +kernel
theorem dX6_row_70 : decode cX6_row 70 = .ok (.goto (-37), 3) := by decide +kernel
theorem dX6_row_73 : decode cX6_row 73 = .ok (.iload 4, 2) := by decide +kernel
theorem dX6_row_75 : decode cX6_row 75 = .ok (.ireturn, 1) := by decide +kernel
theorem dX6_told_0 : decode cX6_told 0 = .ok (.iload_n 1, 1) := by decide +kernel
theorem dX6_told_1 : decode cX6_told 1 = .ok (.invokestatic 155, 3) := by decide +kernel
theorem dX6_told_4 : decode cX6_told 4 = .ok (.ifCond .ne 6, 3) := by decide +kernel
theorem dX6_told_7 : decode cX6_told 7 = .ok (.bipush (-5), 2) := by decide +kernel
theorem dX6_told_9 : decode cX6_told 9 = .ok (.ireturn, 1) := by decide +kernel
theorem dX6_told_10 : decode cX6_told 10 = .ok (.iload_n 2, 1) := by decide +kernel
theorem dX6_told_11 : decode cX6_told 11 = .ok (.tableswitch 81 0 5 #[37, 44, 51, 57, 67, 74], 37) := by decide +kernel
theorem dX6_told_48 : decode cX6_told 48 = .ok (.aload_n 0, 1) := by decide +kernel
theorem dX6_told_49 : decode cX6_told 49 = .ok (.getfield 7, 3) := by decide +kernel
theorem dX6_told_52 : decode cX6_told 52 = .ok (.iload_n 1, 1) := by decide +kernel
theorem dX6_told_53 : decode cX6_told 53 = .ok (.iaload, 1) := by decide +kernel
theorem dX6_told_54 : decode cX6_told 54 = .ok (.ireturn, 1) := by decide +kernel
theorem dX6_told_55 : decode cX6_told 55 = .ok (.aload_n 0, 1) := by decide +kernel
theorem dX6_told_56 : decode cX6_told 56 = .ok (.getfield 13, 3) := by decide +kernel
theorem dX6_told_59 : decode cX6_told 59 = .ok (.iload_n 1, 1) := by decide +kernel
theorem dX6_told_60 : decode cX6_told 60 = .ok (.iaload, 1) := by decide +kernel
theorem dX6_told_61 : decode cX6_told 61 = .ok (.ireturn, 1) := by decide +kernel
theorem dX6_told_62 : decode cX6_told 62 = .ok (.aload_n 0, 1) := by decide +kernel
theorem dX6_told_63 : decode cX6_told 63 = .ok (.iload_n 1, 1) := by decide +kernel
theorem dX6_told_64 : decode cX6_told 64 = .ok (.invokevirtual 171, 3) := by decide +kernel
theorem dX6_told_67 : decode cX6_told 67 = .ok (.ireturn, 1) := by decide +kernel
theorem dX6_told_68 : decode cX6_told 68 = .ok (.aload_n 0, 1) := by decide +kernel
theorem dX6_told_69 : decode cX6_told 69 = .ok (.getfield 7, 3) := by decide +kernel
theorem dX6_told_72 : decode cX6_told 72 = .ok (.iload_n 1, 1) := by decide +kernel
theorem dX6_told_73 : decode cX6_told 73 = .ok (.iaload, 1) := by decide +kernel
theorem dX6_told_74 : decode cX6_told 74 = .ok (.invokestatic 146, 3) := by decide +kernel
theorem dX6_told_77 : decode cX6_told 77 = .ok (.ireturn, 1) := by decide +kernel
theorem dX6_told_78 : decode cX6_told 78 = .ok (.aload_n 0, 1) := by decide +kernel
theorem dX6_told_79 : decode cX6_told 79 = .ok (.getfield 16, 3) := by decide +kernel
theorem dX6_told_82 : decode cX6_told 82 = .ok (.iload_n 1, 1) := by decide +kernel
theorem dX6_told_83 : decode cX6_told 83 = .ok (.iaload, 1) := by decide +kernel
theorem dX6_told_84 : decode cX6_told 84 = .ok (.ireturn, 1) := by decide +kernel
theorem dX6_told_85 : decode cX6_told 85 = .ok (.aload_n 0, 1) := by decide +kernel
theorem dX6_told_86 : decode cX6_told 86 = .ok (.getfield 19, 3) := by decide +kernel
theorem dX6_told_89 : decode cX6_told 89 = .ok (.iload_n 1, 1) := by decide +kernel
theorem dX6_told_90 : decode cX6_told 90 = .ok (.iaload, 1) := by decide +kernel
theorem dX6_told_91 : decode cX6_told 91 = .ok (.ireturn, 1) := by decide +kernel
theorem dX6_told_92 : decode cX6_told 92 = .ok (.bipush (-7), 2) := by decide +kernel
theorem dX6_told_94 : decode cX6_told 94 = .ok (.ireturn, 1) := by decide +kernel
theorem dX6_pin_0 : decode cX6_pin 0 = .ok (.iload_n 1, 1) := by decide +kernel
theorem dX6_pin_1 : decode cX6_pin 1 = .ok (.invokestatic 155, 3) := by decide +kernel
theorem dX6_pin_4 : decode cX6_pin 4 = .ok (.ifCond .ne 6, 3) := by decide +kernel
theorem dX6_pin_7 : decode cX6_pin 7 = .ok (.bipush (-5), 2) := by decide +kernel
theorem dX6_pin_9 : decode cX6_pin 9 = .ok (.ireturn, 1) := by decide +kernel
theorem dX6_pin_10 : decode cX6_pin 10 = .ok (.iload_n 2, 1) := by decide +kernel
theorem dX6_pin_11 : decode cX6_pin 11 = .ok (.iconst 0, 1) := by decide +kernel
theorem dX6_pin_12 : decode cX6_pin 12 = .ok (.iconst 1, 1) := by decide +kernel
theorem dX6_pin_13 : decode cX6_pin 13 = .ok (.invokestatic 69, 3) := by decide +kernel
theorem dX6_pin_16 : decode cX6_pin 16 = .ok (.ifCond .ne 6, 3) := by decide +kernel
theorem dX6_pin_19 : decode cX6_pin 19 = .ok (.bipush (-7), 2) := by decide +kernel
theorem dX6_pin_21 : decode cX6_pin 21 = .ok (.ireturn, 1) := by decide +kernel
theorem dX6_pin_22 : decode cX6_pin 22 = .ok (.aload_n 0, 1) := by decide +kernel
theorem dX6_pin_23 : decode cX6_pin 23 = .ok (.getfield 16, 3) := by decide +kernel
theorem dX6_pin_26 : decode cX6_pin 26 = .ok (.iload_n 1, 1) := by decide +kernel
theorem dX6_pin_27 : decode cX6_pin 27 = .ok (.iaload, 1) := by decide +kernel
theorem dX6_pin_28 : decode cX6_pin 28 = .ok (.istore_n 3, 1) := by decide +kernel
theorem dX6_pin_29 : decode cX6_pin 29 = .ok (.aload_n 0, 1) := by decide +kernel
theorem dX6_pin_30 : decode cX6_pin 30 = .ok (.getfield 16, 3) := by decide +kernel
theorem dX6_pin_33 : decode cX6_pin 33 = .ok (.iload_n 1, 1) := by decide +kernel
theorem dX6_pin_34 : decode cX6_pin 34 = .ok (.iload_n 2, 1) := by decide +kernel
theorem dX6_pin_35 : decode cX6_pin 35 = .ok (.iastore, 1) := by decide +kernel
theorem dX6_pin_36 : decode cX6_pin 36 = .ok (.iload_n 3, 1) := by decide +kernel
theorem dX6_pin_37 : decode cX6_pin 37 = .ok (.ireturn, 1) := by decide +kernel
theorem dX6_keeps_0 : decode cX6_keeps 0 = .ok (.aload_n 0, 1) := by decide +kernel
theorem dX6_keeps_1 : decode cX6_keeps 1 = .ok (.getfield 7, 3) := by decide +kernel
theorem dX6_keeps_4 : decode cX6_keeps 4 = .ok (.iload_n 1, 1) := by decide +kernel
theorem dX6_keeps_5 : decode cX6_keeps 5 = .ok (.iaload, 1) := by decide +kernel
theorem dX6_keeps_6 : decode cX6_keeps 6 = .ok (.iconst 5, 1) := by decide +kernel
theorem dX6_keeps_7 : decode cX6_keeps 7 = .ok (.if_icmp .eq 13, 3) := by decide +kernel
theorem dX6_keeps_10 : decode cX6_keeps 10 = .ok (.aload_n 0, 1) := by decide +kernel
theorem dX6_keeps_11 : decode cX6_keeps 11 = .ok (.getfield 16, 3) := by decide +kernel
theorem dX6_keeps_14 : decode cX6_keeps 14 = .ok (.iload_n 1, 1) := by decide +kernel
theorem dX6_keeps_15 : decode cX6_keeps 15 = .ok (.iaload, 1) := by decide +kernel
theorem dX6_keeps_16 : decode cX6_keeps 16 = .ok (.iconst 1, 1) := by decide +kernel
theorem dX6_keeps_17 : decode cX6_keeps 17 = .ok (.if_icmp .ne 7, 3) := by decide +kernel
theorem dX6_keeps_20 : decode cX6_keeps 20 = .ok (.iconst 1, 1) := by decide +kernel
theorem dX6_keeps_21 : decode cX6_keeps 21 = .ok (.goto 4, 3) := by decide +kernel
theorem dX6_keeps_24 : decode cX6_keeps 24 = .ok (.iconst 0, 1) := by decide +kernel
theorem dX6_keeps_25 : decode cX6_keeps 25 = .ok (.ireturn, 1) := by decide +kernel
theorem dX6_goesThrough_0 : decode cX6_goesThrough 0 = .ok (.iload_n 1, 1) := by decide +kernel
theorem dX6_goesThrough_1 : decode cX6_goesThrough 1 = .ok (.bipush 6, 2) := by decide +kernel
theorem dX6_goesThrough_3 : decode cX6_goesThrough 3 = .ok (.idiv, 1) := by decide +kernel
theorem dX6_goesThrough_4 : decode cX6_goesThrough 4 = .ok (.iload_n 2, 1) := by decide +kernel
theorem dX6_goesThrough_5 : decode cX6_goesThrough 5 = .ok (.bipush 6, 2) := by decide +kernel
theorem dX6_goesThrough_7 : decode cX6_goesThrough 7 = .ok (.idiv, 1) := by decide +kernel
theorem dX6_goesThrough_8 : decode cX6_goesThrough 8 = .ok (.iconst 1, 1) := by decide +kernel
theorem dX6_goesThrough_9 : decode cX6_goesThrough 9 = .ok (.iadd, 1) := by decide +kernel
theorem dX6_goesThrough_10 : decode cX6_goesThrough 10 = .ok (.if_icmp .ne 23, 3) := by decide +kernel
theorem dX6_goesThrough_13 : decode cX6_goesThrough 13 = .ok (.aload_n 0, 1) := by decide +kernel
theorem dX6_goesThrough_14 : decode cX6_goesThrough 14 = .ok (.iload_n 1, 1) := by decide +kernel
theorem dX6_goesThrough_15 : decode cX6_goesThrough 15 = .ok (.invokevirtual 171, 3) := by decide +kernel
theorem dX6_goesThrough_18 : decode cX6_goesThrough 18 = .ok (.iload_n 2, 1) := by decide +kernel
theorem dX6_goesThrough_19 : decode cX6_goesThrough 19 = .ok (.bipush 6, 2) := by decide +kernel
theorem dX6_goesThrough_21 : decode cX6_goesThrough 21 = .ok (.irem, 1) := by decide +kernel
theorem dX6_goesThrough_22 : decode cX6_goesThrough 22 = .ok (.ishr, 1) := by decide +kernel
theorem dX6_goesThrough_23 : decode cX6_goesThrough 23 = .ok (.iconst 1, 1) := by decide +kernel
theorem dX6_goesThrough_24 : decode cX6_goesThrough 24 = .ok (.iand, 1) := by decide +kernel
theorem dX6_goesThrough_25 : decode cX6_goesThrough 25 = .ok (.iconst 1, 1) := by decide +kernel
theorem dX6_goesThrough_26 : decode cX6_goesThrough 26 = .ok (.if_icmp .ne 7, 3) := by decide +kernel
theorem dX6_goesThrough_29 : decode cX6_goesThrough 29 = .ok (.iconst 1, 1) := by decide +kernel
theorem dX6_goesThrough_30 : decode cX6_goesThrough 30 = .ok (.goto 4, 3) := by decide +kernel
theorem dX6_goesThrough_33 : decode cX6_goesThrough 33 = .ok (.iconst 0, 1) := by decide +kernel
theorem dX6_goesThrough_34 : decode cX6_goesThrough 34 = .ok (.ireturn, 1) := by decide +kernel
theorem dX6_uppers_0 : decode cX6_uppers 0 = .ok (.lconst 0, 1) := by decide +kernel
theorem dX6_uppers_1 : decode cX6_uppers 1 = .ok (.lstore_n 2, 1) := by decide +kernel
theorem dX6_uppers_2 : decode cX6_uppers 2 = .ok (.bipush 6, 2) := by decide +kernel
theorem dX6_uppers_4 : decode cX6_uppers 4 = .ok (.iload_n 1, 1) := by decide +kernel
theorem dX6_uppers_5 : decode cX6_uppers 5 = .ok (.bipush 6, 2) := by decide +kernel
theorem dX6_uppers_7 : decode cX6_uppers 7 = .ok (.idiv, 1) := by decide +kernel
theorem dX6_uppers_8 : decode cX6_uppers 8 = .ok (.imul, 1) := by decide +kernel
theorem dX6_uppers_9 : decode cX6_uppers 9 = .ok (.bipush 6, 2) := by decide +kernel
theorem dX6_uppers_11 : decode cX6_uppers 11 = .ok (.iadd, 1) := by decide +kernel
theorem dX6_uppers_12 : decode cX6_uppers 12 = .ok (.istore 4, 2) := by decide +kernel
theorem dX6_uppers_14 : decode cX6_uppers 14 = .ok (.iload 4, 2) := by decide +kernel
theorem dX6_uppers_16 : decode cX6_uppers 16 = .ok (.bipush 48, 2) := by decide +kernel
theorem dX6_uppers_18 : decode cX6_uppers 18 = .ok (.if_icmp .ge 45, 3) := by decide +kernel
theorem dX6_uppers_21 : decode cX6_uppers 21 = .ok (.iload 4, 2) := by decide +kernel
theorem dX6_uppers_23 : decode cX6_uppers 23 = .ok (.bipush 6, 2) := by decide +kernel
theorem dX6_uppers_25 : decode cX6_uppers 25 = .ok (.iload_n 1, 1) := by decide +kernel
theorem dX6_uppers_26 : decode cX6_uppers 26 = .ok (.bipush 6, 2) := by decide +kernel
theorem dX6_uppers_28 : decode cX6_uppers 28 = .ok (.idiv, 1) := by decide +kernel
theorem dX6_uppers_29 : decode cX6_uppers 29 = .ok (.imul, 1) := by decide +kernel
theorem dX6_uppers_30 : decode cX6_uppers 30 = .ok (.bipush 12, 2) := by decide +kernel
theorem dX6_uppers_32 : decode cX6_uppers 32 = .ok (.iadd, 1) := by decide +kernel
theorem dX6_uppers_33 : decode cX6_uppers 33 = .ok (.if_icmp .ge 30, 3) := by decide +kernel
theorem dX6_uppers_36 : decode cX6_uppers 36 = .ok (.lload_n 2, 1) := by decide +kernel
theorem dX6_uppers_37 : decode cX6_uppers 37 = .ok (.aload_n 0, 1) := by decide +kernel
theorem dX6_uppers_38 : decode cX6_uppers 38 = .ok (.iload 4, 2) := by decide +kernel
theorem dX6_uppers_40 : decode cX6_uppers 40 = .ok (.iload_n 1, 1) := by decide +kernel
theorem dX6_uppers_41 : decode cX6_uppers 41 = .ok (.invokevirtual 174, 3) := by decide +kernel
theorem dX6_uppers_44 : decode cX6_uppers 44 = .ok (.ifCond .eq 10, 3) := by decide +kernel
theorem dX6_uppers_47 : decode cX6_uppers 47 = .ok (.lconst 1, 1) := by decide +kernel
theorem dX6_uppers_48 : decode cX6_uppers 48 = .ok (.iload 4, 2) := by decide +kernel
theorem dX6_uppers_50 : decode cX6_uppers 50 = .ok (.lshl, 1) := by decide +kernel
theorem dX6_uppers_51 : decode cX6_uppers 51 = .ok (.goto 4, 3) := by decide +kernel
theorem dX6_uppers_54 : decode cX6_uppers 54 = .ok (.lconst 0, 1) := by decide +kernel
theorem dX6_uppers_55 : decode cX6_uppers 55 = .ok (.lor, 1) := by decide +kernel
theorem dX6_uppers_56 : decode cX6_uppers 56 = .ok (.lstore_n 2, 1) := by decide +kernel
theorem dX6_uppers_57 : decode cX6_uppers 57 = .ok (.iinc 4 1, 3) := by decide +kernel
theorem dX6_uppers_60 : decode cX6_uppers 60 = .ok (.goto (-46), 3) := by decide +kernel
theorem dX6_uppers_63 : decode cX6_uppers 63 = .ok (.lload_n 2, 1) := by decide +kernel
theorem dX6_uppers_64 : decode cX6_uppers 64 = .ok (.lreturn, 1) := by decide +kernel
theorem dX6_hanging_0 : decode cX6_hanging 0 = .ok (.aload_n 0, 1) := by decide +kernel
theorem dX6_hanging_1 : decode cX6_hanging 1 = .ok (.iload_n 1, 1) := by decide +kernel
theorem dX6_hanging_2 : decode cX6_hanging 2 = .ok (.invokevirtual 177, 3) := by decide +kernel
theorem dX6_hanging_5 : decode cX6_hanging 5 = .ok (.lstore_n 2, 1) := by decide +kernel
theorem dX6_hanging_6 : decode cX6_hanging 6 = .ok (.iload_n 1, 1) := by decide +kernel
theorem dX6_hanging_7 : decode cX6_hanging 7 = .ok (.iconst 1, 1) := by decide +kernel
theorem dX6_hanging_8 : decode cX6_hanging 8 = .ok (.iadd, 1) := by decide +kernel
theorem dX6_hanging_9 : decode cX6_hanging 9 = .ok (.istore 4, 2) := by decide +kernel
theorem dX6_hanging_11 : decode cX6_hanging 11 = .ok (.iload 4, 2) := by decide +kernel
theorem dX6_hanging_13 : decode cX6_hanging 13 = .ok (.bipush 48, 2) := by decide +kernel
theorem dX6_hanging_15 : decode cX6_hanging 15 = .ok (.if_icmp .ge 33, 3) := by decide +kernel
theorem dX6_hanging_18 : decode cX6_hanging 18 = .ok (.lload_n 2, 1) := by decide +kernel
theorem dX6_hanging_19 : decode cX6_hanging 19 = .ok (.lload_n 2, 1) := by decide +kernel
theorem dX6_hanging_20 : decode cX6_hanging 20 = .ok (.iload 4, 2) := by decide +kernel
theorem dX6_hanging_22 : decode cX6_hanging 22 = .ok (.lshr, 1) := by decide +kernel
theorem dX6_hanging_23 : decode cX6_hanging 23 = .ok (.lconst 1, 1) := by decide +kernel
theorem dX6_hanging_24 : decode cX6_hanging 24 = .ok (.land, 1) := by decide +kernel
theorem dX6_hanging_25 : decode cX6_hanging 25 = .ok (.lconst 1, 1) := by decide +kernel
theorem dX6_hanging_26 : decode cX6_hanging 26 = .ok (.lcmp, 1) := by decide +kernel
theorem dX6_hanging_27 : decode cX6_hanging 27 = .ok (.ifCond .ne 12, 3) := by decide +kernel
theorem dX6_hanging_30 : decode cX6_hanging 30 = .ok (.aload_n 0, 1) := by decide +kernel
theorem dX6_hanging_31 : decode cX6_hanging 31 = .ok (.iload 4, 2) := by decide +kernel
theorem dX6_hanging_33 : decode cX6_hanging 33 = .ok (.invokevirtual 177, 3) := by decide +kernel
theorem dX6_hanging_36 : decode cX6_hanging 36 = .ok (.goto 4, 3) := by decide +kernel
theorem dX6_hanging_39 : decode cX6_hanging 39 = .ok (.lconst 0, 1) := by decide +kernel
theorem dX6_hanging_40 : decode cX6_hanging 40 = .ok (.lor, 1) := by decide +kernel
theorem dX6_hanging_41 : decode cX6_hanging 41 = .ok (.lstore_n 2, 1) := by decide +kernel
theorem dX6_hanging_42 : decode cX6_hanging 42 = .ok (.iinc 4 1, 3) := by decide +kernel
theorem dX6_hanging_45 : decode cX6_hanging 45 = .ok (.goto (-34), 3) := by decide +kernel
theorem dX6_hanging_48 : decode cX6_hanging 48 = .ok (.lload_n 2, 1) := by decide +kernel
theorem dX6_hanging_49 : decode cX6_hanging 49 = .ok (.lreturn, 1) := by decide +kernel
theorem dX6_hangs_0 : decode cX6_hangs 0 = .ok (.iload_n 1, 1) := by decide +kernel
theorem dX6_hangs_1 : decode cX6_hangs 1 = .ok (.invokestatic 155, 3) := by decide +kernel
theorem dX6_hangs_4 : decode cX6_hangs 4 = .ok (.ifCond .eq 12, 3) := by decide +kernel
theorem dX6_hangs_7 : decode cX6_hangs 7 = .ok (.iload_n 2, 1) := by decide +kernel
theorem dX6_hangs_8 : decode cX6_hangs 8 = .ok (.iconst 0, 1) := by decide +kernel
theorem dX6_hangs_9 : decode cX6_hangs 9 = .ok (.iconst 2, 1) := by decide +kernel
theorem dX6_hangs_10 : decode cX6_hangs 10 = .ok (.invokestatic 69, 3) := by decide +kernel
theorem dX6_hangs_13 : decode cX6_hangs 13 = .ok (.ifCond .ne 7, 3) := by decide +kernel
theorem dX6_hangs_16 : decode cX6_hangs 16 = .ok (.ldc2_w 181, 3) := by decide +kernel
theorem dX6_hangs_19 : decode cX6_hangs 19 = .ok (.lreturn, 1) := by decide +kernel
theorem dX6_hangs_20 : decode cX6_hangs 20 = .ok (.lconst 0, 1) := by decide +kernel
theorem dX6_hangs_21 : decode cX6_hangs 21 = .ok (.lstore_n 3, 1) := by decide +kernel
theorem dX6_hangs_22 : decode cX6_hangs 22 = .ok (.iconst 0, 1) := by decide +kernel
theorem dX6_hangs_23 : decode cX6_hangs 23 = .ok (.istore 5, 2) := by decide +kernel
theorem dX6_hangs_25 : decode cX6_hangs 25 = .ok (.iload 5, 2) := by decide +kernel
theorem dX6_hangs_27 : decode cX6_hangs 27 = .ok (.bipush 48, 2) := by decide +kernel
theorem dX6_hangs_29 : decode cX6_hangs 29 = .ok (.if_icmp .ge 40, 3) := by decide +kernel
theorem dX6_hangs_32 : decode cX6_hangs 32 = .ok (.iload_n 2, 1) := by decide +kernel
theorem dX6_hangs_33 : decode cX6_hangs 33 = .ok (.iconst 2, 1) := by decide +kernel
theorem dX6_hangs_34 : decode cX6_hangs 34 = .ok (.if_icmp .ne 35, 3) := by decide +kernel
theorem dX6_hangs_37 : decode cX6_hangs 37 = .ok (.lload_n 3, 1) := by decide +kernel
theorem dX6_hangs_38 : decode cX6_hangs 38 = .ok (.aload_n 0, 1) := by decide +kernel
theorem dX6_hangs_39 : decode cX6_hangs 39 = .ok (.iload 5, 2) := by decide +kernel
theorem dX6_hangs_41 : decode cX6_hangs 41 = .ok (.invokevirtual 183, 3) := by decide +kernel
theorem dX6_hangs_44 : decode cX6_hangs 44 = .ok (.iload_n 1, 1) := by decide +kernel
theorem dX6_hangs_45 : decode cX6_hangs 45 = .ok (.lshr, 1) := by decide +kernel
theorem dX6_hangs_46 : decode cX6_hangs 46 = .ok (.lconst 1, 1) := by decide +kernel
theorem dX6_hangs_47 : decode cX6_hangs 47 = .ok (.land, 1) := by decide +kernel
theorem dX6_hangs_48 : decode cX6_hangs 48 = .ok (.lconst 1, 1) := by decide +kernel
theorem dX6_hangs_49 : decode cX6_hangs 49 = .ok (.lcmp, 1) := by decide +kernel
theorem dX6_hangs_50 : decode cX6_hangs 50 = .ok (.ifCond .ne 10, 3) := by decide +kernel
theorem dX6_hangs_53 : decode cX6_hangs 53 = .ok (.lconst 1, 1) := by decide +kernel
theorem dX6_hangs_54 : decode cX6_hangs 54 = .ok (.iload 5, 2) := by decide +kernel
theorem dX6_hangs_56 : decode cX6_hangs 56 = .ok (.lshl, 1) := by decide +kernel
theorem dX6_hangs_57 : decode cX6_hangs 57 = .ok (.goto 4, 3) := by decide +kernel
theorem dX6_hangs_60 : decode cX6_hangs 60 = .ok (.lconst 0, 1) := by decide +kernel
theorem dX6_hangs_61 : decode cX6_hangs 61 = .ok (.lor, 1) := by decide +kernel
theorem dX6_hangs_62 : decode cX6_hangs 62 = .ok (.lstore_n 3, 1) := by decide +kernel
theorem dX6_hangs_63 : decode cX6_hangs 63 = .ok (.iinc 5 1, 3) := by decide +kernel
theorem dX6_hangs_66 : decode cX6_hangs 66 = .ok (.goto (-41), 3) := by decide +kernel
theorem dX6_hangs_69 : decode cX6_hangs 69 = .ok (.iload_n 2, 1) := by decide +kernel
theorem dX6_hangs_70 : decode cX6_hangs 70 = .ok (.ifCond .ne 11, 3) := by decide +kernel
theorem dX6_hangs_73 : decode cX6_hangs 73 = .ok (.aload_n 0, 1) := by decide +kernel
theorem dX6_hangs_74 : decode cX6_hangs 74 = .ok (.iload_n 1, 1) := by decide +kernel
theorem dX6_hangs_75 : decode cX6_hangs 75 = .ok (.invokevirtual 177, 3) := by decide +kernel
theorem dX6_hangs_78 : decode cX6_hangs 78 = .ok (.goto 17, 3) := by decide +kernel
theorem dX6_hangs_81 : decode cX6_hangs 81 = .ok (.iload_n 2, 1) := by decide +kernel
theorem dX6_hangs_82 : decode cX6_hangs 82 = .ok (.iconst 1, 1) := by decide +kernel
theorem dX6_hangs_83 : decode cX6_hangs 83 = .ok (.if_icmp .ne 11, 3) := by decide +kernel
theorem dX6_hangs_86 : decode cX6_hangs 86 = .ok (.aload_n 0, 1) := by decide +kernel
theorem dX6_hangs_87 : decode cX6_hangs 87 = .ok (.iload_n 1, 1) := by decide +kernel
theorem dX6_hangs_88 : decode cX6_hangs 88 = .ok (.invokevirtual 183, 3) := by decide +kernel
theorem dX6_hangs_91 : decode cX6_hangs 91 = .ok (.goto 4, 3) := by decide +kernel
theorem dX6_hangs_94 : decode cX6_hangs 94 = .ok (.lload_n 3, 1) := by decide +kernel
theorem dX6_hangs_95 : decode cX6_hangs 95 = .ok (.lreturn, 1) := by decide +kernel
theorem dX6_bitsOf_0 : decode cX6_bitsOf 0 = .ok (.iconst 0, 1) := by decide +kernel
theorem dX6_bitsOf_1 : decode cX6_bitsOf 1 = .ok (.istore_n 2, 1) := by decide +kernel
theorem dX6_bitsOf_2 : decode cX6_bitsOf 2 = .ok (.iconst 0, 1) := by decide +kernel
theorem dX6_bitsOf_3 : decode cX6_bitsOf 3 = .ok (.istore_n 3, 1) := by decide +kernel
theorem dX6_bitsOf_4 : decode cX6_bitsOf 4 = .ok (.iload_n 3, 1) := by decide +kernel
theorem dX6_bitsOf_5 : decode cX6_bitsOf 5 = .ok (.bipush 48, 2) := by decide +kernel
theorem dX6_bitsOf_7 : decode cX6_bitsOf 7 = .ok (.if_icmp .ge 27, 3) := by decide +kernel
theorem dX6_bitsOf_10 : decode cX6_bitsOf 10 = .ok (.iload_n 2, 1) := by decide +kernel
theorem dX6_bitsOf_11 : decode cX6_bitsOf 11 = .ok (.lload_n 0, 1) := by decide +kernel
theorem dX6_bitsOf_12 : decode cX6_bitsOf 12 = .ok (.iload_n 3, 1) := by decide +kernel
theorem dX6_bitsOf_13 : decode cX6_bitsOf 13 = .ok (.lshr, 1) := by decide +kernel
theorem dX6_bitsOf_14 : decode cX6_bitsOf 14 = .ok (.lconst 1, 1) := by decide +kernel
theorem dX6_bitsOf_15 : decode cX6_bitsOf 15 = .ok (.land, 1) := by decide +kernel
theorem dX6_bitsOf_16 : decode cX6_bitsOf 16 = .ok (.lconst 1, 1) := by decide +kernel
theorem dX6_bitsOf_17 : decode cX6_bitsOf 17 = .ok (.lcmp, 1) := by decide +kernel
theorem dX6_bitsOf_18 : decode cX6_bitsOf 18 = .ok (.ifCond .ne 7, 3) := by decide +kernel
theorem dX6_bitsOf_21 : decode cX6_bitsOf 21 = .ok (.iconst 1, 1) := by decide +kernel
theorem dX6_bitsOf_22 : decode cX6_bitsOf 22 = .ok (.goto 4, 3) := by decide +kernel
theorem dX6_bitsOf_25 : decode cX6_bitsOf 25 = .ok (.iconst 0, 1) := by decide +kernel
theorem dX6_bitsOf_26 : decode cX6_bitsOf 26 = .ok (.iadd, 1) := by decide +kernel
theorem dX6_bitsOf_27 : decode cX6_bitsOf 27 = .ok (.istore_n 2, 1) := by decide +kernel
theorem dX6_bitsOf_28 : decode cX6_bitsOf 28 = .ok (.iinc 3 1, 3) := by decide +kernel
theorem dX6_bitsOf_31 : decode cX6_bitsOf 31 = .ok (.goto (-27), 3) := by decide +kernel
theorem dX6_bitsOf_34 : decode cX6_bitsOf 34 = .ok (.iload_n 2, 1) := by decide +kernel
theorem dX6_bitsOf_35 : decode cX6_bitsOf 35 = .ok (.ireturn, 1) := by decide +kernel
theorem dX6_isLoose_0 : decode cX6_isLoose 0 = .ok (.iload_n 1, 1) := by decide +kernel
theorem dX6_isLoose_1 : decode cX6_isLoose 1 = .ok (.bipush 42, 2) := by decide +kernel
theorem dX6_isLoose_3 : decode cX6_isLoose 3 = .ok (.if_icmp .ge 25, 3) := by decide +kernel
theorem dX6_isLoose_6 : decode cX6_isLoose 6 = .ok (.aload_n 0, 1) := by decide +kernel
theorem dX6_isLoose_7 : decode cX6_isLoose 7 = .ok (.iload_n 1, 1) := by decide +kernel
theorem dX6_isLoose_8 : decode cX6_isLoose 8 = .ok (.invokevirtual 177, 3) := by decide +kernel
theorem dX6_isLoose_11 : decode cX6_isLoose 11 = .ok (.lconst 0, 1) := by decide +kernel
theorem dX6_isLoose_12 : decode cX6_isLoose 12 = .ok (.lcmp, 1) := by decide +kernel
theorem dX6_isLoose_13 : decode cX6_isLoose 13 = .ok (.ifCond .ne 15, 3) := by decide +kernel
theorem dX6_isLoose_16 : decode cX6_isLoose 16 = .ok (.aload_n 0, 1) := by decide +kernel
theorem dX6_isLoose_17 : decode cX6_isLoose 17 = .ok (.iload_n 1, 1) := by decide +kernel
theorem dX6_isLoose_18 : decode cX6_isLoose 18 = .ok (.invokevirtual 186, 3) := by decide +kernel
theorem dX6_isLoose_21 : decode cX6_isLoose 21 = .ok (.ifCond .ne 7, 3) := by decide +kernel
theorem dX6_isLoose_24 : decode cX6_isLoose 24 = .ok (.iconst 1, 1) := by decide +kernel
theorem dX6_isLoose_25 : decode cX6_isLoose 25 = .ok (.goto 4, 3) := by decide +kernel
theorem dX6_isLoose_28 : decode cX6_isLoose 28 = .ok (.iconst 0, 1) := by decide +kernel
theorem dX6_isLoose_29 : decode cX6_isLoose 29 = .ok (.ireturn, 1) := by decide +kernel
theorem dX6_loose_0 : decode cX6_loose 0 = .ok (.lconst 0, 1) := by decide +kernel
theorem dX6_loose_1 : decode cX6_loose 1 = .ok (.lstore_n 1, 1) := by decide +kernel
theorem dX6_loose_2 : decode cX6_loose 2 = .ok (.iconst 0, 1) := by decide +kernel
theorem dX6_loose_3 : decode cX6_loose 3 = .ok (.istore_n 3, 1) := by decide +kernel
theorem dX6_loose_4 : decode cX6_loose 4 = .ok (.iload_n 3, 1) := by decide +kernel
theorem dX6_loose_5 : decode cX6_loose 5 = .ok (.bipush 48, 2) := by decide +kernel
theorem dX6_loose_7 : decode cX6_loose 7 = .ok (.if_icmp .ge 27, 3) := by decide +kernel
theorem dX6_loose_10 : decode cX6_loose 10 = .ok (.lload_n 1, 1) := by decide +kernel
theorem dX6_loose_11 : decode cX6_loose 11 = .ok (.aload_n 0, 1) := by decide +kernel
theorem dX6_loose_12 : decode cX6_loose 12 = .ok (.iload_n 3, 1) := by decide +kernel
theorem dX6_loose_13 : decode cX6_loose 13 = .ok (.invokevirtual 189, 3) := by decide +kernel
theorem dX6_loose_16 : decode cX6_loose 16 = .ok (.ifCond .eq 9, 3) := by decide +kernel
theorem dX6_loose_19 : decode cX6_loose 19 = .ok (.lconst 1, 1) := by decide +kernel
theorem dX6_loose_20 : decode cX6_loose 20 = .ok (.iload_n 3, 1) := by decide +kernel
theorem dX6_loose_21 : decode cX6_loose 21 = .ok (.lshl, 1) := by decide +kernel
theorem dX6_loose_22 : decode cX6_loose 22 = .ok (.goto 4, 3) := by decide +kernel
theorem dX6_loose_25 : decode cX6_loose 25 = .ok (.lconst 0, 1) := by decide +kernel
theorem dX6_loose_26 : decode cX6_loose 26 = .ok (.lor, 1) := by decide +kernel
theorem dX6_loose_27 : decode cX6_loose 27 = .ok (.lstore_n 1, 1) := by decide +kernel
theorem dX6_loose_28 : decode cX6_loose 28 = .ok (.iinc 3 1, 3) := by decide +kernel
theorem dX6_loose_31 : decode cX6_loose 31 = .ok (.goto (-27), 3) := by decide +kernel
theorem dX6_loose_34 : decode cX6_loose 34 = .ok (.lload_n 1, 1) := by decide +kernel
theorem dX6_loose_35 : decode cX6_loose 35 = .ok (.lreturn, 1) := by decide +kernel
theorem dX6_back_0 : decode cX6_back 0 = .ok (.iload_n 1, 1) := by decide +kernel
theorem dX6_back_1 : decode cX6_back 1 = .ok (.invokestatic 155, 3) := by decide +kernel
theorem dX6_back_4 : decode cX6_back 4 = .ok (.ifCond .eq 16, 3) := by decide +kernel
theorem dX6_back_7 : decode cX6_back 7 = .ok (.iconst 1, 1) := by decide +kernel
theorem dX6_back_8 : decode cX6_back 8 = .ok (.aload_n 0, 1) := by decide +kernel
theorem dX6_back_9 : decode cX6_back 9 = .ok (.iload_n 1, 1) := by decide +kernel
theorem dX6_back_10 : decode cX6_back 10 = .ok (.invokevirtual 183, 3) := by decide +kernel
theorem dX6_back_13 : decode cX6_back 13 = .ok (.invokestatic 192, 3) := by decide +kernel
theorem dX6_back_16 : decode cX6_back 16 = .ok (.iadd, 1) := by decide +kernel
theorem dX6_back_17 : decode cX6_back 17 = .ok (.goto 5, 3) := by decide +kernel
theorem dX6_back_20 : decode cX6_back 20 = .ok (.bipush (-5), 2) := by decide +kernel
theorem dX6_back_22 : decode cX6_back 22 = .ok (.ireturn, 1) := by decide +kernel
theorem dX6_leftOf_0 : decode cX6_leftOf 0 = .ok (.aload_n 0, 1) := by decide +kernel
theorem dX6_leftOf_1 : decode cX6_leftOf 1 = .ok (.iload_n 1, 1) := by decide +kernel
theorem dX6_leftOf_2 : decode cX6_leftOf 2 = .ok (.invokevirtual 186, 3) := by decide +kernel
theorem dX6_leftOf_5 : decode cX6_leftOf 5 = .ok (.ifCond .eq 5, 3) := by decide +kernel
theorem dX6_leftOf_8 : decode cX6_leftOf 8 = .ok (.iconst (-1), 1) := by decide +kernel
theorem dX6_leftOf_9 : decode cX6_leftOf 9 = .ok (.ireturn, 1) := by decide +kernel
theorem dX6_leftOf_10 : decode cX6_leftOf 10 = .ok (.iload_n 2, 1) := by decide +kernel
theorem dX6_leftOf_11 : decode cX6_leftOf 11 = .ok (.ifCond .eq 5, 3) := by decide +kernel
theorem dX6_leftOf_14 : decode cX6_leftOf 14 = .ok (.iload_n 3, 1) := by decide +kernel
theorem dX6_leftOf_15 : decode cX6_leftOf 15 = .ok (.ireturn, 1) := by decide +kernel
theorem dX6_leftOf_16 : decode cX6_leftOf 16 = .ok (.aload_n 0, 1) := by decide +kernel
theorem dX6_leftOf_17 : decode cX6_leftOf 17 = .ok (.iload_n 1, 1) := by decide +kernel
theorem dX6_leftOf_18 : decode cX6_leftOf 18 = .ok (.invokevirtual 196, 3) := by decide +kernel
theorem dX6_leftOf_21 : decode cX6_leftOf 21 = .ok (.istore 4, 2) := by decide +kernel
theorem dX6_leftOf_23 : decode cX6_leftOf 23 = .ok (.iload 4, 2) := by decide +kernel
theorem dX6_leftOf_25 : decode cX6_leftOf 25 = .ok (.iconst (-1), 1) := by decide +kernel
theorem dX6_leftOf_26 : decode cX6_leftOf 26 = .ok (.if_icmp .ne 7, 3) := by decide +kernel
theorem dX6_leftOf_29 : decode cX6_leftOf 29 = .ok (.iconst 0, 1) := by decide +kernel
theorem dX6_leftOf_30 : decode cX6_leftOf 30 = .ok (.goto 10, 3) := by decide +kernel
theorem dX6_leftOf_33 : decode cX6_leftOf 33 = .ok (.aload_n 0, 1) := by decide +kernel
theorem dX6_leftOf_34 : decode cX6_leftOf 34 = .ok (.iload_n 1, 1) := by decide +kernel
theorem dX6_leftOf_35 : decode cX6_leftOf 35 = .ok (.iload 4, 2) := by decide +kernel
theorem dX6_leftOf_37 : decode cX6_leftOf 37 = .ok (.invokevirtual 199, 3) := by decide +kernel
theorem dX6_leftOf_40 : decode cX6_leftOf 40 = .ok (.istore 5, 2) := by decide +kernel
theorem dX6_leftOf_42 : decode cX6_leftOf 42 = .ok (.iload 4, 2) := by decide +kernel
theorem dX6_leftOf_44 : decode cX6_leftOf 44 = .ok (.iload 5, 2) := by decide +kernel
theorem dX6_leftOf_46 : decode cX6_leftOf 46 = .ok (.if_icmp .le 11, 3) := by decide +kernel
theorem dX6_leftOf_49 : decode cX6_leftOf 49 = .ok (.iload 4, 2) := by decide +kernel
theorem dX6_leftOf_51 : decode cX6_leftOf 51 = .ok (.iload 5, 2) := by decide +kernel
theorem dX6_leftOf_53 : decode cX6_leftOf 53 = .ok (.isub, 1) := by decide +kernel
theorem dX6_leftOf_54 : decode cX6_leftOf 54 = .ok (.goto 4, 3) := by decide +kernel
theorem dX6_leftOf_57 : decode cX6_leftOf 57 = .ok (.iconst (-1), 1) := by decide +kernel
theorem dX6_leftOf_58 : decode cX6_leftOf 58 = .ok (.ireturn, 1) := by decide +kernel
theorem dX6_allGone_0 : decode cX6_allGone 0 = .ok (.iconst (-1), 1) := by decide +kernel
theorem dX6_allGone_1 : decode cX6_allGone 1 = .ok (.istore_n 2, 1) := by decide +kernel
theorem dX6_allGone_2 : decode cX6_allGone 2 = .ok (.bipush 6, 2) := by decide +kernel
theorem dX6_allGone_4 : decode cX6_allGone 4 = .ok (.iload_n 1, 1) := by decide +kernel
theorem dX6_allGone_5 : decode cX6_allGone 5 = .ok (.bipush 6, 2) := by decide +kernel
theorem dX6_allGone_7 : decode cX6_allGone 7 = .ok (.idiv, 1) := by decide +kernel
theorem dX6_allGone_8 : decode cX6_allGone 8 = .ok (.imul, 1) := by decide +kernel
theorem dX6_allGone_9 : decode cX6_allGone 9 = .ok (.bipush 6, 2) := by decide +kernel
theorem dX6_allGone_11 : decode cX6_allGone 11 = .ok (.iadd, 1) := by decide +kernel
theorem dX6_allGone_12 : decode cX6_allGone 12 = .ok (.istore_n 3, 1) := by decide +kernel
theorem dX6_allGone_13 : decode cX6_allGone 13 = .ok (.iload_n 3, 1) := by decide +kernel
theorem dX6_allGone_14 : decode cX6_allGone 14 = .ok (.bipush 48, 2) := by decide +kernel
theorem dX6_allGone_16 : decode cX6_allGone 16 = .ok (.if_icmp .ge 65, 3) := by decide +kernel
theorem dX6_allGone_19 : decode cX6_allGone 19 = .ok (.iload_n 3, 1) := by decide +kernel
theorem dX6_allGone_20 : decode cX6_allGone 20 = .ok (.bipush 6, 2) := by decide +kernel
theorem dX6_allGone_22 : decode cX6_allGone 22 = .ok (.iload_n 1, 1) := by decide +kernel
theorem dX6_allGone_23 : decode cX6_allGone 23 = .ok (.bipush 6, 2) := by decide +kernel
theorem dX6_allGone_25 : decode cX6_allGone 25 = .ok (.idiv, 1) := by decide +kernel
theorem dX6_allGone_26 : decode cX6_allGone 26 = .ok (.imul, 1) := by decide +kernel
theorem dX6_allGone_27 : decode cX6_allGone 27 = .ok (.bipush 12, 2) := by decide +kernel
theorem dX6_allGone_29 : decode cX6_allGone 29 = .ok (.iadd, 1) := by decide +kernel
theorem dX6_allGone_30 : decode cX6_allGone 30 = .ok (.if_icmp .ge 51, 3) := by decide +kernel
theorem dX6_allGone_33 : decode cX6_allGone 33 = .ok (.aload_n 0, 1) := by decide +kernel
theorem dX6_allGone_34 : decode cX6_allGone 34 = .ok (.iload_n 3, 1) := by decide +kernel
theorem dX6_allGone_35 : decode cX6_allGone 35 = .ok (.iload_n 1, 1) := by decide +kernel
theorem dX6_allGone_36 : decode cX6_allGone 36 = .ok (.invokevirtual 174, 3) := by decide +kernel
theorem dX6_allGone_39 : decode cX6_allGone 39 = .ok (.ifCond .eq 36, 3) := by decide +kernel
theorem dX6_allGone_42 : decode cX6_allGone 42 = .ok (.aload_n 0, 1) := by decide +kernel
theorem dX6_allGone_43 : decode cX6_allGone 43 = .ok (.getfield 58, 3) := by decide +kernel
theorem dX6_allGone_46 : decode cX6_allGone 46 = .ok (.iload_n 3, 1) := by decide +kernel
theorem dX6_allGone_47 : decode cX6_allGone 47 = .ok (.iaload, 1) := by decide +kernel
theorem dX6_allGone_48 : decode cX6_allGone 48 = .ok (.iconst (-1), 1) := by decide +kernel
theorem dX6_allGone_49 : decode cX6_allGone 49 = .ok (.if_icmp .ne 5, 3) := by decide +kernel
theorem dX6_allGone_52 : decode cX6_allGone 52 = .ok (.iconst (-1), 1) := by decide +kernel
theorem dX6_allGone_53 : decode cX6_allGone 53 = .ok (.ireturn, 1) := by decide +kernel
theorem dX6_allGone_54 : decode cX6_allGone 54 = .ok (.aload_n 0, 1) := by decide +kernel
theorem dX6_allGone_55 : decode cX6_allGone 55 = .ok (.getfield 58, 3) := by decide +kernel
theorem dX6_allGone_58 : decode cX6_allGone 58 = .ok (.iload_n 3, 1) := by decide +kernel
theorem dX6_allGone_59 : decode cX6_allGone 59 = .ok (.iaload, 1) := by decide +kernel
theorem dX6_allGone_60 : decode cX6_allGone 60 = .ok (.iload_n 2, 1) := by decide +kernel
theorem dX6_allGone_61 : decode cX6_allGone 61 = .ok (.if_icmp .le 12, 3) := by decide +kernel
theorem dX6_allGone_64 : decode cX6_allGone 64 = .ok (.aload_n 0, 1) := by decide +kernel
theorem dX6_allGone_65 : decode cX6_allGone 65 = .ok (.getfield 58, 3) := by decide +kernel
theorem dX6_allGone_68 : decode cX6_allGone 68 = .ok (.iload_n 3, 1) := by decide +kernel
theorem dX6_allGone_69 : decode cX6_allGone 69 = .ok (.iaload, 1) := by decide +kernel
theorem dX6_allGone_70 : decode cX6_allGone 70 = .ok (.goto 4, 3) := by decide +kernel
theorem dX6_allGone_73 : decode cX6_allGone 73 = .ok (.iload_n 2, 1) := by decide +kernel
theorem dX6_allGone_74 : decode cX6_allGone 74 = .ok (.istore_n 2, 1) := by decide +kernel
theorem dX6_allGone_75 : decode cX6_allGone 75 = .ok (.iinc 3 1, 3) := by decide +kernel
theorem dX6_allGone_78 : decode cX6_allGone 78 = .ok (.goto (-65), 3) := by decide +kernel
theorem dX6_allGone_81 : decode cX6_allGone 81 = .ok (.iload_n 2, 1) := by decide +kernel
theorem dX6_allGone_82 : decode cX6_allGone 82 = .ok (.ireturn, 1) := by decide +kernel
theorem dX6_runs_0 : decode cX6_runs 0 = .ok (.aload_n 0, 1) := by decide +kernel
theorem dX6_runs_1 : decode cX6_runs 1 = .ok (.iconst 0, 1) := by decide +kernel
theorem dX6_runs_2 : decode cX6_runs 2 = .ok (.putfield 202, 3) := by decide +kernel
theorem dX6_runs_5 : decode cX6_runs 5 = .ok (.bipush 7, 2) := by decide +kernel
theorem dX6_runs_7 : decode cX6_runs 7 = .ok (.istore 4, 2) := by decide +kernel
theorem dX6_runs_9 : decode cX6_runs 9 = .ok (.iload 4, 2) := by decide +kernel
theorem dX6_runs_11 : decode cX6_runs 11 = .ok (.ifCond .lt 90, 3) := by decide +kernel
theorem dX6_runs_14 : decode cX6_runs 14 = .ok (.bipush 6, 2) := by decide +kernel
theorem dX6_runs_16 : decode cX6_runs 16 = .ok (.iload 4, 2) := by decide +kernel
theorem dX6_runs_18 : decode cX6_runs 18 = .ok (.imul, 1) := by decide +kernel
theorem dX6_runs_19 : decode cX6_runs 19 = .ok (.istore 5, 2) := by decide +kernel
theorem dX6_runs_21 : decode cX6_runs 21 = .ok (.iload 5, 2) := by decide +kernel
theorem dX6_runs_23 : decode cX6_runs 23 = .ok (.bipush 6, 2) := by decide +kernel
theorem dX6_runs_25 : decode cX6_runs 25 = .ok (.iload 4, 2) := by decide +kernel
theorem dX6_runs_27 : decode cX6_runs 27 = .ok (.imul, 1) := by decide +kernel
theorem dX6_runs_28 : decode cX6_runs 28 = .ok (.bipush 6, 2) := by decide +kernel
theorem dX6_runs_30 : decode cX6_runs 30 = .ok (.iadd, 1) := by decide +kernel
theorem dX6_runs_31 : decode cX6_runs 31 = .ok (.if_icmp .ge 64, 3) := by decide +kernel
theorem dX6_runs_34 : decode cX6_runs 34 = .ok (.aload_n 0, 1) := by decide +kernel
theorem dX6_runs_35 : decode cX6_runs 35 = .ok (.getfield 58, 3) := by decide +kernel
theorem dX6_runs_38 : decode cX6_runs 38 = .ok (.iload 5, 2) := by decide +kernel
theorem dX6_runs_40 : decode cX6_runs 40 = .ok (.aload_n 0, 1) := by decide +kernel
theorem dX6_runs_41 : decode cX6_runs 41 = .ok (.iload 5, 2) := by decide +kernel
theorem dX6_runs_43 : decode cX6_runs 43 = .ok (.lload_n 1, 1) := by decide +kernel
theorem dX6_runs_44 : decode cX6_runs 44 = .ok (.iload 5, 2) := by decide +kernel
theorem dX6_runs_46 : decode cX6_runs 46 = .ok (.lshr, 1) := by decide +kernel
theorem dX6_runs_47 : decode cX6_runs 47 = .ok (.lconst 1, 1) := by decide +kernel
theorem dX6_runs_48 : decode cX6_runs 48 = .ok (.land, 1) := by decide +kernel
theorem dX6_runs_49 : decode cX6_runs 49 = .ok (.lconst 1, 1) := by decide +kernel
theorem dX6_runs_50 : decode cX6_runs 50 = .ok (.lcmp, 1) := by decide +kernel
theorem dX6_runs_51 : decode cX6_runs 51 = .ok (.ifCond .ne 7, 3) := by decide +kernel
theorem dX6_runs_54 : decode cX6_runs 54 = .ok (.iconst 1, 1) := by decide +kernel
theorem dX6_runs_55 : decode cX6_runs 55 = .ok (.goto 4, 3) := by decide +kernel
theorem dX6_runs_58 : decode cX6_runs 58 = .ok (.iconst 0, 1) := by decide +kernel
theorem dX6_runs_59 : decode cX6_runs 59 = .ok (.iload_n 3, 1) := by decide +kernel
theorem dX6_runs_60 : decode cX6_runs 60 = .ok (.invokevirtual 205, 3) := by decide +kernel
theorem dX6_runs_63 : decode cX6_runs 63 = .ok (.iastore, 1) := by decide +kernel
theorem dX6_runs_64 : decode cX6_runs 64 = .ok (.aload_n 0, 1) := by decide +kernel
theorem dX6_runs_65 : decode cX6_runs 65 = .ok (.dup, 1) := by decide +kernel
theorem dX6_runs_66 : decode cX6_runs 66 = .ok (.getfield 202, 3) := by decide +kernel
theorem dX6_runs_69 : decode cX6_runs 69 = .ok (.aload_n 0, 1) := by decide +kernel
theorem dX6_runs_70 : decode cX6_runs 70 = .ok (.getfield 58, 3) := by decide +kernel
theorem dX6_runs_73 : decode cX6_runs 73 = .ok (.iload 5, 2) := by decide +kernel
theorem dX6_runs_75 : decode cX6_runs 75 = .ok (.iaload, 1) := by decide +kernel
theorem dX6_runs_76 : decode cX6_runs 76 = .ok (.iconst (-1), 1) := by decide +kernel
theorem dX6_runs_77 : decode cX6_runs 77 = .ok (.if_icmp .ne 7, 3) := by decide +kernel
theorem dX6_runs_80 : decode cX6_runs 80 = .ok (.iconst 0, 1) := by decide +kernel
theorem dX6_runs_81 : decode cX6_runs 81 = .ok (.goto 4, 3) := by decide +kernel
theorem dX6_runs_84 : decode cX6_runs 84 = .ok (.iconst 1, 1) := by decide +kernel
theorem dX6_runs_85 : decode cX6_runs 85 = .ok (.iadd, 1) := by decide +kernel
theorem dX6_runs_86 : decode cX6_runs 86 = .ok (.putfield 202, 3) := by decide +kernel
theorem dX6_runs_89 : decode cX6_runs 89 = .ok (.iinc 5 1, 3) := by decide +kernel
theorem dX6_runs_92 : decode cX6_runs 92 = .ok (.goto (-71), 3) := by decide +kernel
theorem dX6_runs_95 : decode cX6_runs 95 = .ok (.iinc 4 (-1), 3) := by decide +kernel
theorem dX6_runs_98 : decode cX6_runs 98 = .ok (.goto (-89), 3) := by decide +kernel
theorem dX6_runs_101 : decode cX6_runs 101 = .ok (.return_, 1) := by decide +kernel
theorem dX6_runsFrom_0 : decode cX6_runsFrom 0 = .ok (.aload_n 0, 1) := by decide +kernel
theorem dX6_runsFrom_1 : decode cX6_runsFrom 1 = .ok (.lconst 1, 1) := by decide +kernel
theorem dX6_runsFrom_2 : decode cX6_runsFrom 2 = .ok (.iload_n 1, 1) := by decide +kernel
theorem dX6_runsFrom_3 : decode cX6_runsFrom 3 = .ok (.lshl, 1) := by decide +kernel
theorem dX6_runsFrom_4 : decode cX6_runsFrom 4 = .ok (.iload_n 2, 1) := by decide +kernel
theorem dX6_runsFrom_5 : decode cX6_runsFrom 5 = .ok (.invokevirtual 209, 3) := by decide +kernel
theorem dX6_runsFrom_8 : decode cX6_runsFrom 8 = .ok (.return_, 1) := by decide +kernel
theorem dX6_lowest_0 : decode cX6_lowest 0 = .ok (.iconst 0, 1) := by decide +kernel
theorem dX6_lowest_1 : decode cX6_lowest 1 = .ok (.istore_n 1, 1) := by decide +kernel
theorem dX6_lowest_2 : decode cX6_lowest 2 = .ok (.iload_n 1, 1) := by decide +kernel
theorem dX6_lowest_3 : decode cX6_lowest 3 = .ok (.bipush 48, 2) := by decide +kernel
theorem dX6_lowest_5 : decode cX6_lowest 5 = .ok (.if_icmp .ge 24, 3) := by decide +kernel
theorem dX6_lowest_8 : decode cX6_lowest 8 = .ok (.aload_n 0, 1) := by decide +kernel
theorem dX6_lowest_9 : decode cX6_lowest 9 = .ok (.getfield 58, 3) := by decide +kernel
theorem dX6_lowest_12 : decode cX6_lowest 12 = .ok (.iload_n 1, 1) := by decide +kernel
theorem dX6_lowest_13 : decode cX6_lowest 13 = .ok (.iaload, 1) := by decide +kernel
theorem dX6_lowest_14 : decode cX6_lowest 14 = .ok (.iconst (-1), 1) := by decide +kernel
theorem dX6_lowest_15 : decode cX6_lowest 15 = .ok (.if_icmp .eq 8, 3) := by decide +kernel
theorem dX6_lowest_18 : decode cX6_lowest 18 = .ok (.iload_n 1, 1) := by decide +kernel
theorem dX6_lowest_19 : decode cX6_lowest 19 = .ok (.bipush 6, 2) := by decide +kernel
theorem dX6_lowest_21 : decode cX6_lowest 21 = .ok (.idiv, 1) := by decide +kernel
theorem dX6_lowest_22 : decode cX6_lowest 22 = .ok (.ireturn, 1) := by decide +kernel
theorem dX6_lowest_23 : decode cX6_lowest 23 = .ok (.iinc 1 1, 3) := by decide +kernel
theorem dX6_lowest_26 : decode cX6_lowest 26 = .ok (.goto (-24), 3) := by decide +kernel
theorem dX6_lowest_29 : decode cX6_lowest 29 = .ok (.iconst (-1), 1) := by decide +kernel
theorem dX6_lowest_30 : decode cX6_lowest 30 = .ok (.ireturn, 1) := by decide +kernel
theorem dX6_sumOf_0 : decode cX6_sumOf 0 = .ok (.iconst 0, 1) := by decide +kernel
theorem dX6_sumOf_1 : decode cX6_sumOf 1 = .ok (.istore_n 2, 1) := by decide +kernel
theorem dX6_sumOf_2 : decode cX6_sumOf 2 = .ok (.iconst 0, 1) := by decide +kernel
theorem dX6_sumOf_3 : decode cX6_sumOf 3 = .ok (.istore_n 3, 1) := by decide +kernel
theorem dX6_sumOf_4 : decode cX6_sumOf 4 = .ok (.iload_n 3, 1) := by decide +kernel
theorem dX6_sumOf_5 : decode cX6_sumOf 5 = .ok (.bipush 48, 2) := by decide +kernel
theorem dX6_sumOf_7 : decode cX6_sumOf 7 = .ok (.if_icmp .ge 38, 3) := by decide +kernel
theorem dX6_sumOf_10 : decode cX6_sumOf 10 = .ok (.iload_n 2, 1) := by decide +kernel
theorem dX6_sumOf_11 : decode cX6_sumOf 11 = .ok (.aload_n 0, 1) := by decide +kernel
theorem dX6_sumOf_12 : decode cX6_sumOf 12 = .ok (.getfield 58, 3) := by decide +kernel
theorem dX6_sumOf_15 : decode cX6_sumOf 15 = .ok (.iload_n 3, 1) := by decide +kernel
theorem dX6_sumOf_16 : decode cX6_sumOf 16 = .ok (.iaload, 1) := by decide +kernel
theorem dX6_sumOf_17 : decode cX6_sumOf 17 = .ok (.iconst (-1), 1) := by decide +kernel
theorem dX6_sumOf_18 : decode cX6_sumOf 18 = .ok (.if_icmp .ne 7, 3) := by decide +kernel
theorem dX6_sumOf_21 : decode cX6_sumOf 21 = .ok (.iconst 0, 1) := by decide +kernel
theorem dX6_sumOf_22 : decode cX6_sumOf 22 = .ok (.goto 15, 3) := by decide +kernel
theorem dX6_sumOf_25 : decode cX6_sumOf 25 = .ok (.aload_n 0, 1) := by decide +kernel
theorem dX6_sumOf_26 : decode cX6_sumOf 26 = .ok (.iload_n 1, 1) := by decide +kernel
theorem dX6_sumOf_27 : decode cX6_sumOf 27 = .ok (.iload_n 3, 1) := by decide +kernel
theorem dX6_sumOf_28 : decode cX6_sumOf 28 = .ok (.aload_n 0, 1) := by decide +kernel
theorem dX6_sumOf_29 : decode cX6_sumOf 29 = .ok (.getfield 58, 3) := by decide +kernel
theorem dX6_sumOf_32 : decode cX6_sumOf 32 = .ok (.iload_n 3, 1) := by decide +kernel
theorem dX6_sumOf_33 : decode cX6_sumOf 33 = .ok (.iaload, 1) := by decide +kernel
theorem dX6_sumOf_34 : decode cX6_sumOf 34 = .ok (.invokevirtual 161, 3) := by decide +kernel
theorem dX6_sumOf_37 : decode cX6_sumOf 37 = .ok (.iadd, 1) := by decide +kernel
theorem dX6_sumOf_38 : decode cX6_sumOf 38 = .ok (.istore_n 2, 1) := by decide +kernel
theorem dX6_sumOf_39 : decode cX6_sumOf 39 = .ok (.iinc 3 1, 3) := by decide +kernel
theorem dX6_sumOf_42 : decode cX6_sumOf 42 = .ok (.goto (-38), 3) := by decide +kernel
theorem dX6_sumOf_45 : decode cX6_sumOf 45 = .ok (.iload_n 2, 1) := by decide +kernel
theorem dX6_sumOf_46 : decode cX6_sumOf 46 = .ok (.ireturn, 1) := by decide +kernel
theorem dX6_run_0 : decode cX6_run 0 = .ok (.iload_n 1, 1) := by decide +kernel
theorem dX6_run_1 : decode cX6_run 1 = .ok (.invokestatic 155, 3) := by decide +kernel
theorem dX6_run_4 : decode cX6_run 4 = .ok (.ifCond .ne 6, 3) := by decide +kernel
theorem dX6_run_7 : decode cX6_run 7 = .ok (.bipush (-5), 2) := by decide +kernel
theorem dX6_run_9 : decode cX6_run 9 = .ok (.ireturn, 1) := by decide +kernel
theorem dX6_run_10 : decode cX6_run 10 = .ok (.iload_n 2, 1) := by decide +kernel
theorem dX6_run_11 : decode cX6_run 11 = .ok (.invokestatic 158, 3) := by decide +kernel
theorem dX6_run_14 : decode cX6_run 14 = .ok (.ifCond .eq 12, 3) := by decide +kernel
theorem dX6_run_17 : decode cX6_run 17 = .ok (.iload_n 3, 1) := by decide +kernel
theorem dX6_run_18 : decode cX6_run 18 = .ok (.iconst 0, 1) := by decide +kernel
theorem dX6_run_19 : decode cX6_run 19 = .ok (.iconst 3, 1) := by decide +kernel
theorem dX6_run_20 : decode cX6_run 20 = .ok (.invokestatic 69, 3) := by decide +kernel
theorem dX6_run_23 : decode cX6_run 23 = .ok (.ifCond .ne 6, 3) := by decide +kernel
theorem dX6_run_26 : decode cX6_run 26 = .ok (.bipush (-7), 2) := by decide +kernel
theorem dX6_run_28 : decode cX6_run 28 = .ok (.ireturn, 1) := by decide +kernel
theorem dX6_run_29 : decode cX6_run 29 = .ok (.aload_n 0, 1) := by decide +kernel
theorem dX6_run_30 : decode cX6_run 30 = .ok (.iload_n 1, 1) := by decide +kernel
theorem dX6_run_31 : decode cX6_run 31 = .ok (.iload_n 2, 1) := by decide +kernel
theorem dX6_run_32 : decode cX6_run 32 = .ok (.invokevirtual 213, 3) := by decide +kernel
theorem dX6_run_35 : decode cX6_run 35 = .ok (.iload_n 3, 1) := by decide +kernel
theorem dX6_run_36 : decode cX6_run 36 = .ok (.ifCond .ne 10, 3) := by decide +kernel
theorem dX6_run_39 : decode cX6_run 39 = .ok (.aload_n 0, 1) := by decide +kernel
theorem dX6_run_40 : decode cX6_run 40 = .ok (.getfield 202, 3) := by decide +kernel
theorem dX6_run_43 : decode cX6_run 43 = .ok (.goto 22, 3) := by decide +kernel
theorem dX6_run_46 : decode cX6_run 46 = .ok (.iload_n 3, 1) := by decide +kernel
theorem dX6_run_47 : decode cX6_run 47 = .ok (.iconst 1, 1) := by decide +kernel
theorem dX6_run_48 : decode cX6_run 48 = .ok (.if_icmp .ne 10, 3) := by decide +kernel
theorem dX6_run_51 : decode cX6_run 51 = .ok (.aload_n 0, 1) := by decide +kernel
theorem dX6_run_52 : decode cX6_run 52 = .ok (.invokevirtual 217, 3) := by decide +kernel
theorem dX6_run_55 : decode cX6_run 55 = .ok (.goto 10, 3) := by decide +kernel
theorem dX6_run_58 : decode cX6_run 58 = .ok (.aload_n 0, 1) := by decide +kernel
theorem dX6_run_59 : decode cX6_run 59 = .ok (.iload_n 3, 1) := by decide +kernel
theorem dX6_run_60 : decode cX6_run 60 = .ok (.iconst 1, 1) := by decide +kernel
theorem dX6_run_61 : decode cX6_run 61 = .ok (.isub, 1) := by decide +kernel
theorem dX6_run_62 : decode cX6_run 62 = .ok (.invokevirtual 220, 3) := by decide +kernel
theorem dX6_run_65 : decode cX6_run 65 = .ok (.ireturn, 1) := by decide +kernel
theorem dX6_goes_0 : decode cX6_goes 0 = .ok (.iload_n 1, 1) := by decide +kernel
theorem dX6_goes_1 : decode cX6_goes 1 = .ok (.invokestatic 155, 3) := by decide +kernel
theorem dX6_goes_4 : decode cX6_goes 4 = .ok (.ifCond .eq 19, 3) := by decide +kernel
theorem dX6_goes_7 : decode cX6_goes 7 = .ok (.iload_n 2, 1) := by decide +kernel
theorem dX6_goes_8 : decode cX6_goes 8 = .ok (.invokestatic 158, 3) := by decide +kernel
theorem dX6_goes_11 : decode cX6_goes 11 = .ok (.ifCond .eq 12, 3) := by decide +kernel
theorem dX6_goes_14 : decode cX6_goes 14 = .ok (.iload_n 3, 1) := by decide +kernel
theorem dX6_goes_15 : decode cX6_goes 15 = .ok (.iconst 0, 1) := by decide +kernel
theorem dX6_goes_16 : decode cX6_goes 16 = .ok (.iconst 1, 1) := by decide +kernel
theorem dX6_goes_17 : decode cX6_goes 17 = .ok (.invokestatic 69, 3) := by decide +kernel
theorem dX6_goes_20 : decode cX6_goes 20 = .ok (.ifCond .ne 7, 3) := by decide +kernel
theorem dX6_goes_23 : decode cX6_goes 23 = .ok (.ldc2_w 181, 3) := by decide +kernel
theorem dX6_goes_26 : decode cX6_goes 26 = .ok (.lreturn, 1) := by decide +kernel
theorem dX6_goes_27 : decode cX6_goes 27 = .ok (.aload_n 0, 1) := by decide +kernel
theorem dX6_goes_28 : decode cX6_goes 28 = .ok (.iload_n 1, 1) := by decide +kernel
theorem dX6_goes_29 : decode cX6_goes 29 = .ok (.iload_n 2, 1) := by decide +kernel
theorem dX6_goes_30 : decode cX6_goes 30 = .ok (.invokevirtual 213, 3) := by decide +kernel
theorem dX6_goes_33 : decode cX6_goes 33 = .ok (.lconst 0, 1) := by decide +kernel
theorem dX6_goes_34 : decode cX6_goes 34 = .ok (.lstore 4, 2) := by decide +kernel
theorem dX6_goes_36 : decode cX6_goes 36 = .ok (.iconst 0, 1) := by decide +kernel
theorem dX6_goes_37 : decode cX6_goes 37 = .ok (.istore 6, 2) := by decide +kernel
theorem dX6_goes_39 : decode cX6_goes 39 = .ok (.iload 6, 2) := by decide +kernel
theorem dX6_goes_41 : decode cX6_goes 41 = .ok (.bipush 48, 2) := by decide +kernel
theorem dX6_goes_43 : decode cX6_goes 43 = .ok (.if_icmp .ge 78, 3) := by decide +kernel
theorem dX6_goes_46 : decode cX6_goes 46 = .ok (.iload_n 3, 1) := by decide +kernel
theorem dX6_goes_47 : decode cX6_goes 47 = .ok (.ifCond .ne 22, 3) := by decide +kernel
theorem dX6_goes_50 : decode cX6_goes 50 = .ok (.aload_n 0, 1) := by decide +kernel
theorem dX6_goes_51 : decode cX6_goes 51 = .ok (.getfield 58, 3) := by decide +kernel
theorem dX6_goes_54 : decode cX6_goes 54 = .ok (.iload 6, 2) := by decide +kernel
theorem dX6_goes_56 : decode cX6_goes 56 = .ok (.iaload, 1) := by decide +kernel
theorem dX6_goes_57 : decode cX6_goes 57 = .ok (.iconst (-1), 1) := by decide +kernel
theorem dX6_goes_58 : decode cX6_goes 58 = .ok (.if_icmp .eq 7, 3) := by decide +kernel
theorem dX6_goes_61 : decode cX6_goes 61 = .ok (.iconst 1, 1) := by decide +kernel
theorem dX6_goes_62 : decode cX6_goes 62 = .ok (.goto 33, 3) := by decide +kernel
theorem dX6_goes_65 : decode cX6_goes 65 = .ok (.iconst 0, 1) := by decide +kernel
theorem dX6_goes_66 : decode cX6_goes 66 = .ok (.goto 29, 3) := by decide +kernel
theorem dX6_goes_69 : decode cX6_goes 69 = .ok (.aload_n 0, 1) := by decide +kernel
theorem dX6_goes_70 : decode cX6_goes 70 = .ok (.getfield 58, 3) := by decide +kernel
theorem dX6_goes_73 : decode cX6_goes 73 = .ok (.iload 6, 2) := by decide +kernel
theorem dX6_goes_75 : decode cX6_goes 75 = .ok (.iaload, 1) := by decide +kernel
theorem dX6_goes_76 : decode cX6_goes 76 = .ok (.iconst (-1), 1) := by decide +kernel
theorem dX6_goes_77 : decode cX6_goes 77 = .ok (.if_icmp .ne 17, 3) := by decide +kernel
theorem dX6_goes_80 : decode cX6_goes 80 = .ok (.aload_n 0, 1) := by decide +kernel
theorem dX6_goes_81 : decode cX6_goes 81 = .ok (.iload 6, 2) := by decide +kernel
theorem dX6_goes_83 : decode cX6_goes 83 = .ok (.invokevirtual 196, 3) := by decide +kernel
theorem dX6_goes_86 : decode cX6_goes 86 = .ok (.iconst (-1), 1) := by decide +kernel
theorem dX6_goes_87 : decode cX6_goes 87 = .ok (.if_icmp .eq 7, 3) := by decide +kernel
theorem dX6_goes_90 : decode cX6_goes 90 = .ok (.iconst 1, 1) := by decide +kernel
theorem dX6_goes_91 : decode cX6_goes 91 = .ok (.goto 4, 3) := by decide +kernel
theorem dX6_goes_94 : decode cX6_goes 94 = .ok (.iconst 0, 1) := by decide +kernel
theorem dX6_goes_95 : decode cX6_goes 95 = .ok (.istore 7, 2) := by decide +kernel
theorem dX6_goes_97 : decode cX6_goes 97 = .ok (.lload 4, 2) := by decide +kernel
theorem dX6_goes_99 : decode cX6_goes 99 = .ok (.iload 7, 2) := by decide +kernel
theorem dX6_goes_101 : decode cX6_goes 101 = .ok (.ifCond .eq 10, 3) := by decide +kernel
theorem dX6_goes_104 : decode cX6_goes 104 = .ok (.lconst 1, 1) := by decide +kernel
theorem dX6_goes_105 : decode cX6_goes 105 = .ok (.iload 6, 2) := by decide +kernel
theorem dX6_goes_107 : decode cX6_goes 107 = .ok (.lshl, 1) := by decide +kernel
theorem dX6_goes_108 : decode cX6_goes 108 = .ok (.goto 4, 3) := by decide +kernel
theorem dX6_goes_111 : decode cX6_goes 111 = .ok (.lconst 0, 1) := by decide +kernel
theorem dX6_goes_112 : decode cX6_goes 112 = .ok (.lor, 1) := by decide +kernel
theorem dX6_goes_113 : decode cX6_goes 113 = .ok (.lstore 4, 2) := by decide +kernel
theorem dX6_goes_115 : decode cX6_goes 115 = .ok (.iinc 6 1, 3) := by decide +kernel
theorem dX6_goes_118 : decode cX6_goes 118 = .ok (.goto (-79), 3) := by decide +kernel
theorem dX6_goes_121 : decode cX6_goes 121 = .ok (.lload 4, 2) := by decide +kernel
theorem dX6_goes_123 : decode cX6_goes 123 = .ok (.lreturn, 1) := by decide +kernel
theorem dX6_left_0 : decode cX6_left 0 = .ok (.iload_n 1, 1) := by decide +kernel
theorem dX6_left_1 : decode cX6_left 1 = .ok (.invokestatic 155, 3) := by decide +kernel
theorem dX6_left_4 : decode cX6_left 4 = .ok (.ifCond .eq 10, 3) := by decide +kernel
theorem dX6_left_7 : decode cX6_left 7 = .ok (.iload_n 3, 1) := by decide +kernel
theorem dX6_left_8 : decode cX6_left 8 = .ok (.invokestatic 155, 3) := by decide +kernel
theorem dX6_left_11 : decode cX6_left 11 = .ok (.ifCond .ne 6, 3) := by decide +kernel
theorem dX6_left_14 : decode cX6_left 14 = .ok (.bipush (-5), 2) := by decide +kernel
theorem dX6_left_16 : decode cX6_left 16 = .ok (.ireturn, 1) := by decide +kernel
theorem dX6_left_17 : decode cX6_left 17 = .ok (.iload_n 2, 1) := by decide +kernel
theorem dX6_left_18 : decode cX6_left 18 = .ok (.invokestatic 158, 3) := by decide +kernel
theorem dX6_left_21 : decode cX6_left 21 = .ok (.ifCond .ne 6, 3) := by decide +kernel
theorem dX6_left_24 : decode cX6_left 24 = .ok (.bipush (-7), 2) := by decide +kernel
theorem dX6_left_26 : decode cX6_left 26 = .ok (.ireturn, 1) := by decide +kernel
theorem dX6_left_27 : decode cX6_left 27 = .ok (.aload_n 0, 1) := by decide +kernel
theorem dX6_left_28 : decode cX6_left 28 = .ok (.iload_n 1, 1) := by decide +kernel
theorem dX6_left_29 : decode cX6_left 29 = .ok (.iload_n 2, 1) := by decide +kernel
theorem dX6_left_30 : decode cX6_left 30 = .ok (.invokevirtual 213, 3) := by decide +kernel
theorem dX6_left_33 : decode cX6_left 33 = .ok (.aload_n 0, 1) := by decide +kernel
theorem dX6_left_34 : decode cX6_left 34 = .ok (.getfield 58, 3) := by decide +kernel
theorem dX6_left_37 : decode cX6_left 37 = .ok (.iload_n 3, 1) := by decide +kernel
theorem dX6_left_38 : decode cX6_left 38 = .ok (.iaload, 1) := by decide +kernel
theorem dX6_left_39 : decode cX6_left 39 = .ok (.ireturn, 1) := by decide +kernel
theorem dX6_most_0 : decode cX6_most 0 = .ok (.iload_n 1, 1) := by decide +kernel
theorem dX6_most_1 : decode cX6_most 1 = .ok (.invokestatic 158, 3) := by decide +kernel
theorem dX6_most_4 : decode cX6_most 4 = .ok (.ifCond .eq 12, 3) := by decide +kernel
theorem dX6_most_7 : decode cX6_most 7 = .ok (.iload_n 2, 1) := by decide +kernel
theorem dX6_most_8 : decode cX6_most 8 = .ok (.iconst 0, 1) := by decide +kernel
theorem dX6_most_9 : decode cX6_most 9 = .ok (.iconst 1, 1) := by decide +kernel
theorem dX6_most_10 : decode cX6_most 10 = .ok (.invokestatic 69, 3) := by decide +kernel
theorem dX6_most_13 : decode cX6_most 13 = .ok (.ifCond .ne 6, 3) := by decide +kernel
theorem dX6_most_16 : decode cX6_most 16 = .ok (.bipush (-2), 2) := by decide +kernel
theorem dX6_most_18 : decode cX6_most 18 = .ok (.ireturn, 1) := by decide +kernel
theorem dX6_most_19 : decode cX6_most 19 = .ok (.iconst 0, 1) := by decide +kernel
theorem dX6_most_20 : decode cX6_most 20 = .ok (.istore_n 3, 1) := by decide +kernel
theorem dX6_most_21 : decode cX6_most 21 = .ok (.iconst (-1), 1) := by decide +kernel
theorem dX6_most_22 : decode cX6_most 22 = .ok (.istore 4, 2) := by decide +kernel
theorem dX6_most_24 : decode cX6_most 24 = .ok (.iconst 0, 1) := by decide +kernel
theorem dX6_most_25 : decode cX6_most 25 = .ok (.istore 5, 2) := by decide +kernel
theorem dX6_most_27 : decode cX6_most 27 = .ok (.iload 5, 2) := by decide +kernel
theorem dX6_most_29 : decode cX6_most 29 = .ok (.bipush 48, 2) := by decide +kernel
theorem dX6_most_31 : decode cX6_most 31 = .ok (.if_icmp .ge 52, 3) := by decide +kernel
theorem dX6_most_34 : decode cX6_most 34 = .ok (.aload_n 0, 1) := by decide +kernel
theorem dX6_most_35 : decode cX6_most 35 = .ok (.iload 5, 2) := by decide +kernel
theorem dX6_most_37 : decode cX6_most 37 = .ok (.iload_n 1, 1) := by decide +kernel
theorem dX6_most_38 : decode cX6_most 38 = .ok (.invokevirtual 213, 3) := by decide +kernel
theorem dX6_most_41 : decode cX6_most 41 = .ok (.aload_n 0, 1) := by decide +kernel
theorem dX6_most_42 : decode cX6_most 42 = .ok (.getfield 202, 3) := by decide +kernel
theorem dX6_most_45 : decode cX6_most 45 = .ok (.iload 4, 2) := by decide +kernel
theorem dX6_most_47 : decode cX6_most 47 = .ok (.if_icmp .le 8, 3) := by decide +kernel
theorem dX6_most_50 : decode cX6_most 50 = .ok (.iload 5, 2) := by decide +kernel
theorem dX6_most_52 : decode cX6_most 52 = .ok (.goto 4, 3) := by decide +kernel
theorem dX6_most_55 : decode cX6_most 55 = .ok (.iload_n 3, 1) := by decide +kernel
theorem dX6_most_56 : decode cX6_most 56 = .ok (.istore_n 3, 1) := by decide +kernel
theorem dX6_most_57 : decode cX6_most 57 = .ok (.aload_n 0, 1) := by decide +kernel
theorem dX6_most_58 : decode cX6_most 58 = .ok (.getfield 202, 3) := by decide +kernel
theorem dX6_most_61 : decode cX6_most 61 = .ok (.iload 4, 2) := by decide +kernel
theorem dX6_most_63 : decode cX6_most 63 = .ok (.if_icmp .le 10, 3) := by decide +kernel
theorem dX6_most_66 : decode cX6_most 66 = .ok (.aload_n 0, 1) := by decide +kernel
theorem dX6_most_67 : decode cX6_most 67 = .ok (.getfield 202, 3) := by decide +kernel
theorem dX6_most_70 : decode cX6_most 70 = .ok (.goto 5, 3) := by decide +kernel
theorem dX6_most_73 : decode cX6_most 73 = .ok (.iload 4, 2) := by decide +kernel
theorem dX6_most_75 : decode cX6_most 75 = .ok (.istore 4, 2) := by decide +kernel
theorem dX6_most_77 : decode cX6_most 77 = .ok (.iinc 5 1, 3) := by decide +kernel
theorem dX6_most_80 : decode cX6_most 80 = .ok (.goto (-53), 3) := by decide +kernel
theorem dX6_most_83 : decode cX6_most 83 = .ok (.iload_n 2, 1) := by decide +kernel
theorem dX6_most_84 : decode cX6_most 84 = .ok (.ifCond .ne 7, 3) := by decide +kernel
theorem dX6_most_87 : decode cX6_most 87 = .ok (.iload_n 3, 1) := by decide +kernel
theorem dX6_most_88 : decode cX6_most 88 = .ok (.goto 5, 3) := by decide +kernel
theorem dX6_most_91 : decode cX6_most 91 = .ok (.iload 4, 2) := by decide +kernel
theorem dX6_most_93 : decode cX6_most 93 = .ok (.ireturn, 1) := by decide +kernel
theorem dX6_column_0 : decode cX6_column 0 = .ok (.iload_n 1, 1) := by decide +kernel
theorem dX6_column_1 : decode cX6_column 1 = .ok (.iconst 0, 1) := by decide +kernel
theorem dX6_column_2 : decode cX6_column 2 = .ok (.iconst 5, 1) := by decide +kernel
theorem dX6_column_3 : decode cX6_column 3 = .ok (.invokestatic 69, 3) := by decide +kernel
theorem dX6_column_6 : decode cX6_column 6 = .ok (.ifCond .ne 6, 3) := by decide +kernel
theorem dX6_column_9 : decode cX6_column 9 = .ok (.bipush (-5), 2) := by decide +kernel
theorem dX6_column_11 : decode cX6_column 11 = .ok (.ireturn, 1) := by decide +kernel
theorem dX6_column_12 : decode cX6_column 12 = .ok (.iload_n 2, 1) := by decide +kernel
theorem dX6_column_13 : decode cX6_column 13 = .ok (.invokestatic 158, 3) := by decide +kernel
theorem dX6_column_16 : decode cX6_column 16 = .ok (.ifCond .eq 12, 3) := by decide +kernel
theorem dX6_column_19 : decode cX6_column 19 = .ok (.iload_n 3, 1) := by decide +kernel
theorem dX6_column_20 : decode cX6_column 20 = .ok (.iconst 0, 1) := by decide +kernel
theorem dX6_column_21 : decode cX6_column 21 = .ok (.iconst 1, 1) := by decide +kernel
theorem dX6_column_22 : decode cX6_column 22 = .ok (.invokestatic 69, 3) := by decide +kernel
theorem dX6_column_25 : decode cX6_column 25 = .ok (.ifCond .ne 6, 3) := by decide +kernel
theorem dX6_column_28 : decode cX6_column 28 = .ok (.bipush (-7), 2) := by decide +kernel
theorem dX6_column_30 : decode cX6_column 30 = .ok (.ireturn, 1) := by decide +kernel
theorem dX6_column_31 : decode cX6_column 31 = .ok (.lconst 0, 1) := by decide +kernel
theorem dX6_column_32 : decode cX6_column 32 = .ok (.lstore 4, 2) := by decide +kernel
theorem dX6_column_34 : decode cX6_column 34 = .ok (.iconst 0, 1) := by decide +kernel
theorem dX6_column_35 : decode cX6_column 35 = .ok (.istore 6, 2) := by decide +kernel
theorem dX6_column_37 : decode cX6_column 37 = .ok (.iload 6, 2) := by decide +kernel
theorem dX6_column_39 : decode cX6_column 39 = .ok (.bipush 8, 2) := by decide +kernel
theorem dX6_column_41 : decode cX6_column 41 = .ok (.if_icmp .ge 23, 3) := by decide +kernel
theorem dX6_column_44 : decode cX6_column 44 = .ok (.lload 4, 2) := by decide +kernel
theorem dX6_column_46 : decode cX6_column 46 = .ok (.lconst 1, 1) := by decide +kernel
theorem dX6_column_47 : decode cX6_column 47 = .ok (.bipush 6, 2) := by decide +kernel
theorem dX6_column_49 : decode cX6_column 49 = .ok (.iload 6, 2) := by decide +kernel
theorem dX6_column_51 : decode cX6_column 51 = .ok (.imul, 1) := by decide +kernel
theorem dX6_column_52 : decode cX6_column 52 = .ok (.iload_n 1, 1) := by decide +kernel
theorem dX6_column_53 : decode cX6_column 53 = .ok (.iadd, 1) := by decide +kernel
theorem dX6_column_54 : decode cX6_column 54 = .ok (.lshl, 1) := by decide +kernel
theorem dX6_column_55 : decode cX6_column 55 = .ok (.lor, 1) := by decide +kernel
theorem dX6_column_56 : decode cX6_column 56 = .ok (.lstore 4, 2) := by decide +kernel
theorem dX6_column_58 : decode cX6_column 58 = .ok (.iinc 6 1, 3) := by decide +kernel
theorem dX6_column_61 : decode cX6_column 61 = .ok (.goto (-24), 3) := by decide +kernel
theorem dX6_column_64 : decode cX6_column 64 = .ok (.aload_n 0, 1) := by decide +kernel
theorem dX6_column_65 : decode cX6_column 65 = .ok (.lload 4, 2) := by decide +kernel
theorem dX6_column_67 : decode cX6_column 67 = .ok (.iload_n 2, 1) := by decide +kernel
theorem dX6_column_68 : decode cX6_column 68 = .ok (.invokevirtual 209, 3) := by decide +kernel
theorem dX6_column_71 : decode cX6_column 71 = .ok (.iconst 0, 1) := by decide +kernel
theorem dX6_column_72 : decode cX6_column 72 = .ok (.istore 6, 2) := by decide +kernel
theorem dX6_column_74 : decode cX6_column 74 = .ok (.iconst 0, 1) := by decide +kernel
theorem dX6_column_75 : decode cX6_column 75 = .ok (.istore 7, 2) := by decide +kernel
theorem dX6_column_77 : decode cX6_column 77 = .ok (.iload 7, 2) := by decide +kernel
theorem dX6_column_79 : decode cX6_column 79 = .ok (.bipush 48, 2) := by decide +kernel
theorem dX6_column_81 : decode cX6_column 81 = .ok (.if_icmp .ge 39, 3) := by decide +kernel
theorem dX6_column_84 : decode cX6_column 84 = .ok (.iload 6, 2) := by decide +kernel
theorem dX6_column_86 : decode cX6_column 86 = .ok (.iload 7, 2) := by decide +kernel
theorem dX6_column_88 : decode cX6_column 88 = .ok (.bipush 6, 2) := by decide +kernel
theorem dX6_column_90 : decode cX6_column 90 = .ok (.irem, 1) := by decide +kernel
theorem dX6_column_91 : decode cX6_column 91 = .ok (.iload_n 1, 1) := by decide +kernel
theorem dX6_column_92 : decode cX6_column 92 = .ok (.if_icmp .eq 18, 3) := by decide +kernel
theorem dX6_column_95 : decode cX6_column 95 = .ok (.aload_n 0, 1) := by decide +kernel
theorem dX6_column_96 : decode cX6_column 96 = .ok (.getfield 58, 3) := by decide +kernel
theorem dX6_column_99 : decode cX6_column 99 = .ok (.iload 7, 2) := by decide +kernel
theorem dX6_column_101 : decode cX6_column 101 = .ok (.iaload, 1) := by decide +kernel
theorem dX6_column_102 : decode cX6_column 102 = .ok (.iconst (-1), 1) := by decide +kernel
theorem dX6_column_103 : decode cX6_column 103 = .ok (.if_icmp .eq 7, 3) := by decide +kernel
theorem dX6_column_106 : decode cX6_column 106 = .ok (.iconst 1, 1) := by decide +kernel
theorem dX6_column_107 : decode cX6_column 107 = .ok (.goto 4, 3) := by decide +kernel
theorem dX6_column_110 : decode cX6_column 110 = .ok (.iconst 0, 1) := by decide +kernel
theorem dX6_column_111 : decode cX6_column 111 = .ok (.iadd, 1) := by decide +kernel
theorem dX6_column_112 : decode cX6_column 112 = .ok (.istore 6, 2) := by decide +kernel
theorem dX6_column_114 : decode cX6_column 114 = .ok (.iinc 7 1, 3) := by decide +kernel
theorem dX6_column_117 : decode cX6_column 117 = .ok (.goto (-40), 3) := by decide +kernel
theorem dX6_column_120 : decode cX6_column 120 = .ok (.iload_n 3, 1) := by decide +kernel
theorem dX6_column_121 : decode cX6_column 121 = .ok (.ifCond .ne 10, 3) := by decide +kernel
theorem dX6_column_124 : decode cX6_column 124 = .ok (.aload_n 0, 1) := by decide +kernel
theorem dX6_column_125 : decode cX6_column 125 = .ok (.getfield 202, 3) := by decide +kernel
theorem dX6_column_128 : decode cX6_column 128 = .ok (.goto 5, 3) := by decide +kernel
theorem dX6_column_131 : decode cX6_column 131 = .ok (.iload 6, 2) := by decide +kernel
theorem dX6_column_133 : decode cX6_column 133 = .ok (.ireturn, 1) := by decide +kernel
theorem dX6_line_0 : decode cX6_line 0 = .ok (.iload_n 1, 1) := by decide +kernel
theorem dX6_line_1 : decode cX6_line 1 = .ok (.invokestatic 155, 3) := by decide +kernel
theorem dX6_line_4 : decode cX6_line 4 = .ok (.ifCond .ne 6, 3) := by decide +kernel
theorem dX6_line_7 : decode cX6_line 7 = .ok (.bipush (-5), 2) := by decide +kernel
theorem dX6_line_9 : decode cX6_line 9 = .ok (.ireturn, 1) := by decide +kernel
theorem dX6_line_10 : decode cX6_line 10 = .ok (.iload_n 2, 1) := by decide +kernel
theorem dX6_line_11 : decode cX6_line 11 = .ok (.iconst 0, 1) := by decide +kernel
theorem dX6_line_12 : decode cX6_line 12 = .ok (.bipush 48, 2) := by decide +kernel
theorem dX6_line_14 : decode cX6_line 14 = .ok (.invokestatic 69, 3) := by decide +kernel
theorem dX6_line_17 : decode cX6_line 17 = .ok (.ifCond .ne 6, 3) := by decide +kernel
theorem dX6_line_20 : decode cX6_line 20 = .ok (.bipush (-7), 2) := by decide +kernel
theorem dX6_line_22 : decode cX6_line 22 = .ok (.ireturn, 1) := by decide +kernel
theorem dX6_line_23 : decode cX6_line 23 = .ok (.iconst 0, 1) := by decide +kernel
theorem dX6_line_24 : decode cX6_line 24 = .ok (.istore_n 3, 1) := by decide +kernel
theorem dX6_line_25 : decode cX6_line 25 = .ok (.iload_n 3, 1) := by decide +kernel
theorem dX6_line_26 : decode cX6_line 26 = .ok (.bipush 99, 2) := by decide +kernel
theorem dX6_line_28 : decode cX6_line 28 = .ok (.if_icmp .gt 25, 3) := by decide +kernel
theorem dX6_line_31 : decode cX6_line 31 = .ok (.aload_n 0, 1) := by decide +kernel
theorem dX6_line_32 : decode cX6_line 32 = .ok (.iload_n 1, 1) := by decide +kernel
theorem dX6_line_33 : decode cX6_line 33 = .ok (.iload_n 3, 1) := by decide +kernel
theorem dX6_line_34 : decode cX6_line 34 = .ok (.invokevirtual 213, 3) := by decide +kernel
theorem dX6_line_37 : decode cX6_line 37 = .ok (.aload_n 0, 1) := by decide +kernel
theorem dX6_line_38 : decode cX6_line 38 = .ok (.getfield 202, 3) := by decide +kernel
theorem dX6_line_41 : decode cX6_line 41 = .ok (.iload_n 2, 1) := by decide +kernel
theorem dX6_line_42 : decode cX6_line 42 = .ok (.if_icmp .le 5, 3) := by decide +kernel
theorem dX6_line_45 : decode cX6_line 45 = .ok (.iload_n 3, 1) := by decide +kernel
theorem dX6_line_46 : decode cX6_line 46 = .ok (.ireturn, 1) := by decide +kernel
theorem dX6_line_47 : decode cX6_line 47 = .ok (.iinc 3 1, 3) := by decide +kernel
theorem dX6_line_50 : decode cX6_line 50 = .ok (.goto (-25), 3) := by decide +kernel
theorem dX6_line_53 : decode cX6_line 53 = .ok (.iconst (-1), 1) := by decide +kernel
theorem dX6_line_54 : decode cX6_line 54 = .ok (.ireturn, 1) := by decide +kernel
theorem dX6_reach_0 : decode cX6_reach 0 = .ok (.iload_n 1, 1) := by decide +kernel
theorem dX6_reach_1 : decode cX6_reach 1 = .ok (.invokestatic 155, 3) := by decide +kernel
theorem dX6_reach_4 : decode cX6_reach 4 = .ok (.ifCond .eq 10, 3) := by decide +kernel
theorem dX6_reach_7 : decode cX6_reach 7 = .ok (.iload_n 2, 1) := by decide +kernel
theorem dX6_reach_8 : decode cX6_reach 8 = .ok (.invokestatic 155, 3) := by decide +kernel
theorem dX6_reach_11 : decode cX6_reach 11 = .ok (.ifCond .ne 6, 3) := by decide +kernel
theorem dX6_reach_14 : decode cX6_reach 14 = .ok (.bipush (-5), 2) := by decide +kernel
theorem dX6_reach_16 : decode cX6_reach 16 = .ok (.ireturn, 1) := by decide +kernel
theorem dX6_reach_17 : decode cX6_reach 17 = .ok (.iconst 0, 1) := by decide +kernel
theorem dX6_reach_18 : decode cX6_reach 18 = .ok (.istore_n 3, 1) := by decide +kernel
theorem dX6_reach_19 : decode cX6_reach 19 = .ok (.iload_n 3, 1) := by decide +kernel
theorem dX6_reach_20 : decode cX6_reach 20 = .ok (.bipush 99, 2) := by decide +kernel
theorem dX6_reach_22 : decode cX6_reach 22 = .ok (.if_icmp .gt 27, 3) := by decide +kernel
theorem dX6_reach_25 : decode cX6_reach 25 = .ok (.aload_n 0, 1) := by decide +kernel
theorem dX6_reach_26 : decode cX6_reach 26 = .ok (.iload_n 1, 1) := by decide +kernel
theorem dX6_reach_27 : decode cX6_reach 27 = .ok (.iload_n 3, 1) := by decide +kernel
theorem dX6_reach_28 : decode cX6_reach 28 = .ok (.invokevirtual 213, 3) := by decide +kernel
theorem dX6_reach_31 : decode cX6_reach 31 = .ok (.aload_n 0, 1) := by decide +kernel
theorem dX6_reach_32 : decode cX6_reach 32 = .ok (.getfield 58, 3) := by decide +kernel
theorem dX6_reach_35 : decode cX6_reach 35 = .ok (.iload_n 2, 1) := by decide +kernel
theorem dX6_reach_36 : decode cX6_reach 36 = .ok (.iaload, 1) := by decide +kernel
theorem dX6_reach_37 : decode cX6_reach 37 = .ok (.iconst (-1), 1) := by decide +kernel
theorem dX6_reach_38 : decode cX6_reach 38 = .ok (.if_icmp .eq 5, 3) := by decide +kernel
theorem dX6_reach_41 : decode cX6_reach 41 = .ok (.iload_n 3, 1) := by decide +kernel
theorem dX6_reach_42 : decode cX6_reach 42 = .ok (.ireturn, 1) := by decide +kernel
theorem dX6_reach_43 : decode cX6_reach 43 = .ok (.iinc 3 1, 3) := by decide +kernel
theorem dX6_reach_46 : decode cX6_reach 46 = .ok (.goto (-27), 3) := by decide +kernel
theorem dX6_reach_49 : decode cX6_reach 49 = .ok (.iconst (-1), 1) := by decide +kernel
theorem dX6_reach_50 : decode cX6_reach 50 = .ok (.ireturn, 1) := by decide +kernel
theorem dX6_went_0 : decode cX6_went 0 = .ok (.lconst 0, 1) := by decide +kernel
theorem dX6_went_1 : decode cX6_went 1 = .ok (.lstore_n 1, 1) := by decide +kernel
theorem dX6_went_2 : decode cX6_went 2 = .ok (.iconst 0, 1) := by decide +kernel
theorem dX6_went_3 : decode cX6_went 3 = .ok (.istore_n 3, 1) := by decide +kernel
theorem dX6_went_4 : decode cX6_went 4 = .ok (.iload_n 3, 1) := by decide +kernel
theorem dX6_went_5 : decode cX6_went 5 = .ok (.bipush 48, 2) := by decide +kernel
theorem dX6_went_7 : decode cX6_went 7 = .ok (.if_icmp .ge 29, 3) := by decide +kernel
theorem dX6_went_10 : decode cX6_went 10 = .ok (.lload_n 1, 1) := by decide +kernel
theorem dX6_went_11 : decode cX6_went 11 = .ok (.aload_n 0, 1) := by decide +kernel
theorem dX6_went_12 : decode cX6_went 12 = .ok (.getfield 58, 3) := by decide +kernel
theorem dX6_went_15 : decode cX6_went 15 = .ok (.iload_n 3, 1) := by decide +kernel
theorem dX6_went_16 : decode cX6_went 16 = .ok (.iaload, 1) := by decide +kernel
theorem dX6_went_17 : decode cX6_went 17 = .ok (.iconst (-1), 1) := by decide +kernel
theorem dX6_went_18 : decode cX6_went 18 = .ok (.if_icmp .ne 7, 3) := by decide +kernel
theorem dX6_went_21 : decode cX6_went 21 = .ok (.lconst 0, 1) := by decide +kernel
theorem dX6_went_22 : decode cX6_went 22 = .ok (.goto 6, 3) := by decide +kernel
theorem dX6_went_25 : decode cX6_went 25 = .ok (.lconst 1, 1) := by decide +kernel
theorem dX6_went_26 : decode cX6_went 26 = .ok (.iload_n 3, 1) := by decide +kernel
theorem dX6_went_27 : decode cX6_went 27 = .ok (.lshl, 1) := by decide +kernel
theorem dX6_went_28 : decode cX6_went 28 = .ok (.lor, 1) := by decide +kernel
theorem dX6_went_29 : decode cX6_went 29 = .ok (.lstore_n 1, 1) := by decide +kernel
theorem dX6_went_30 : decode cX6_went 30 = .ok (.iinc 3 1, 3) := by decide +kernel
theorem dX6_went_33 : decode cX6_went 33 = .ok (.goto (-29), 3) := by decide +kernel
theorem dX6_went_36 : decode cX6_went 36 = .ok (.lload_n 1, 1) := by decide +kernel
theorem dX6_went_37 : decode cX6_went 37 = .ok (.lreturn, 1) := by decide +kernel
theorem dX6_alone_0 : decode cX6_alone 0 = .ok (.aload_n 0, 1) := by decide +kernel
theorem dX6_alone_1 : decode cX6_alone 1 = .ok (.iload_n 1, 1) := by decide +kernel
theorem dX6_alone_2 : decode cX6_alone 2 = .ok (.iload_n 3, 1) := by decide +kernel
theorem dX6_alone_3 : decode cX6_alone 3 = .ok (.invokevirtual 213, 3) := by decide +kernel
theorem dX6_alone_6 : decode cX6_alone 6 = .ok (.aload_n 0, 1) := by decide +kernel
theorem dX6_alone_7 : decode cX6_alone 7 = .ok (.invokevirtual 223, 3) := by decide +kernel
theorem dX6_alone_10 : decode cX6_alone 10 = .ok (.lstore 4, 2) := by decide +kernel
theorem dX6_alone_12 : decode cX6_alone 12 = .ok (.aload_n 0, 1) := by decide +kernel
theorem dX6_alone_13 : decode cX6_alone 13 = .ok (.iload_n 2, 1) := by decide +kernel
theorem dX6_alone_14 : decode cX6_alone 14 = .ok (.iload_n 3, 1) := by decide +kernel
theorem dX6_alone_15 : decode cX6_alone 15 = .ok (.invokevirtual 213, 3) := by decide +kernel
theorem dX6_alone_18 : decode cX6_alone 18 = .ok (.lload 4, 2) := by decide +kernel
theorem dX6_alone_20 : decode cX6_alone 20 = .ok (.aload_n 0, 1) := by decide +kernel
theorem dX6_alone_21 : decode cX6_alone 21 = .ok (.invokevirtual 223, 3) := by decide +kernel
theorem dX6_alone_24 : decode cX6_alone 24 = .ok (.lor, 1) := by decide +kernel
theorem dX6_alone_25 : decode cX6_alone 25 = .ok (.invokestatic 192, 3) := by decide +kernel
theorem dX6_alone_28 : decode cX6_alone 28 = .ok (.ireturn, 1) := by decide +kernel
theorem dX6_two__0 : decode cX6_two_ 0 = .ok (.iload_n 1, 1) := by decide +kernel
theorem dX6_two__1 : decode cX6_two_ 1 = .ok (.invokestatic 158, 3) := by decide +kernel
theorem dX6_two__4 : decode cX6_two_ 4 = .ok (.ifCond .eq 12, 3) := by decide +kernel
theorem dX6_two__7 : decode cX6_two_ 7 = .ok (.iload_n 2, 1) := by decide +kernel
theorem dX6_two__8 : decode cX6_two_ 8 = .ok (.iconst 0, 1) := by decide +kernel
theorem dX6_two__9 : decode cX6_two_ 9 = .ok (.iconst 2, 1) := by decide +kernel
theorem dX6_two__10 : decode cX6_two_ 10 = .ok (.invokestatic 69, 3) := by decide +kernel
theorem dX6_two__13 : decode cX6_two_ 13 = .ok (.ifCond .ne 6, 3) := by decide +kernel
theorem dX6_two__16 : decode cX6_two_ 16 = .ok (.bipush (-2), 2) := by decide +kernel
theorem dX6_two__18 : decode cX6_two_ 18 = .ok (.ireturn, 1) := by decide +kernel
theorem dX6_two__19 : decode cX6_two_ 19 = .ok (.iconst 0, 1) := by decide +kernel
theorem dX6_two__20 : decode cX6_two_ 20 = .ok (.istore_n 3, 1) := by decide +kernel
theorem dX6_two__21 : decode cX6_two_ 21 = .ok (.iconst (-1), 1) := by decide +kernel
theorem dX6_two__22 : decode cX6_two_ 22 = .ok (.istore 4, 2) := by decide +kernel
theorem dX6_two__24 : decode cX6_two_ 24 = .ok (.iconst 0, 1) := by decide +kernel
theorem dX6_two__25 : decode cX6_two_ 25 = .ok (.istore 5, 2) := by decide +kernel
theorem dX6_two__27 : decode cX6_two_ 27 = .ok (.iload 5, 2) := by decide +kernel
theorem dX6_two__29 : decode cX6_two_ 29 = .ok (.bipush 48, 2) := by decide +kernel
theorem dX6_two__31 : decode cX6_two_ 31 = .ok (.if_icmp .ge 84, 3) := by decide +kernel
theorem dX6_two__34 : decode cX6_two_ 34 = .ok (.iload 5, 2) := by decide +kernel
theorem dX6_two__36 : decode cX6_two_ 36 = .ok (.iconst 1, 1) := by decide +kernel
theorem dX6_two__37 : decode cX6_two_ 37 = .ok (.iadd, 1) := by decide +kernel
theorem dX6_two__38 : decode cX6_two_ 38 = .ok (.istore 6, 2) := by decide +kernel
theorem dX6_two__40 : decode cX6_two_ 40 = .ok (.iload 6, 2) := by decide +kernel
theorem dX6_two__42 : decode cX6_two_ 42 = .ok (.bipush 48, 2) := by decide +kernel
theorem dX6_two__44 : decode cX6_two_ 44 = .ok (.if_icmp .ge 65, 3) := by decide +kernel
theorem dX6_two__47 : decode cX6_two_ 47 = .ok (.aload_n 0, 1) := by decide +kernel
theorem dX6_two__48 : decode cX6_two_ 48 = .ok (.lconst 1, 1) := by decide +kernel
theorem dX6_two__49 : decode cX6_two_ 49 = .ok (.iload 5, 2) := by decide +kernel
theorem dX6_two__51 : decode cX6_two_ 51 = .ok (.lshl, 1) := by decide +kernel
theorem dX6_two__52 : decode cX6_two_ 52 = .ok (.lconst 1, 1) := by decide +kernel
theorem dX6_two__53 : decode cX6_two_ 53 = .ok (.iload 6, 2) := by decide +kernel
theorem dX6_two__55 : decode cX6_two_ 55 = .ok (.lshl, 1) := by decide +kernel
theorem dX6_two__56 : decode cX6_two_ 56 = .ok (.lor, 1) := by decide +kernel
theorem dX6_two__57 : decode cX6_two_ 57 = .ok (.iload_n 1, 1) := by decide +kernel
theorem dX6_two__58 : decode cX6_two_ 58 = .ok (.invokevirtual 209, 3) := by decide +kernel
theorem dX6_two__61 : decode cX6_two_ 61 = .ok (.aload_n 0, 1) := by decide +kernel
theorem dX6_two__62 : decode cX6_two_ 62 = .ok (.getfield 202, 3) := by decide +kernel
theorem dX6_two__65 : decode cX6_two_ 65 = .ok (.iload 4, 2) := by decide +kernel
theorem dX6_two__67 : decode cX6_two_ 67 = .ok (.if_icmp .le 14, 3) := by decide +kernel
theorem dX6_two__70 : decode cX6_two_ 70 = .ok (.bipush 100, 2) := by decide +kernel
theorem dX6_two__72 : decode cX6_two_ 72 = .ok (.iload 5, 2) := by decide +kernel
theorem dX6_two__74 : decode cX6_two_ 74 = .ok (.imul, 1) := by decide +kernel
theorem dX6_two__75 : decode cX6_two_ 75 = .ok (.iload 6, 2) := by decide +kernel
theorem dX6_two__77 : decode cX6_two_ 77 = .ok (.iadd, 1) := by decide +kernel
theorem dX6_two__78 : decode cX6_two_ 78 = .ok (.goto 4, 3) := by decide +kernel
theorem dX6_two__81 : decode cX6_two_ 81 = .ok (.iload_n 3, 1) := by decide +kernel
theorem dX6_two__82 : decode cX6_two_ 82 = .ok (.istore_n 3, 1) := by decide +kernel
theorem dX6_two__83 : decode cX6_two_ 83 = .ok (.aload_n 0, 1) := by decide +kernel
theorem dX6_two__84 : decode cX6_two_ 84 = .ok (.getfield 202, 3) := by decide +kernel
theorem dX6_two__87 : decode cX6_two_ 87 = .ok (.iload 4, 2) := by decide +kernel
theorem dX6_two__89 : decode cX6_two_ 89 = .ok (.if_icmp .le 10, 3) := by decide +kernel
theorem dX6_two__92 : decode cX6_two_ 92 = .ok (.aload_n 0, 1) := by decide +kernel
theorem dX6_two__93 : decode cX6_two_ 93 = .ok (.getfield 202, 3) := by decide +kernel
theorem dX6_two__96 : decode cX6_two_ 96 = .ok (.goto 5, 3) := by decide +kernel
theorem dX6_two__99 : decode cX6_two_ 99 = .ok (.iload 4, 2) := by decide +kernel
theorem dX6_two__101 : decode cX6_two_ 101 = .ok (.istore 4, 2) := by decide +kernel
theorem dX6_two__103 : decode cX6_two_ 103 = .ok (.iinc 6 1, 3) := by decide +kernel
theorem dX6_two__106 : decode cX6_two_ 106 = .ok (.goto (-66), 3) := by decide +kernel
theorem dX6_two__109 : decode cX6_two_ 109 = .ok (.iinc 5 1, 3) := by decide +kernel
theorem dX6_two__112 : decode cX6_two_ 112 = .ok (.goto (-85), 3) := by decide +kernel
theorem dX6_two__115 : decode cX6_two_ 115 = .ok (.iload_n 2, 1) := by decide +kernel
theorem dX6_two__116 : decode cX6_two_ 116 = .ok (.ifCond .ne 7, 3) := by decide +kernel
theorem dX6_two__119 : decode cX6_two_ 119 = .ok (.iload_n 3, 1) := by decide +kernel
theorem dX6_two__120 : decode cX6_two_ 120 = .ok (.goto 29, 3) := by decide +kernel
theorem dX6_two__123 : decode cX6_two_ 123 = .ok (.iload_n 2, 1) := by decide +kernel
theorem dX6_two__124 : decode cX6_two_ 124 = .ok (.iconst 1, 1) := by decide +kernel
theorem dX6_two__125 : decode cX6_two_ 125 = .ok (.if_icmp .ne 8, 3) := by decide +kernel
theorem dX6_two__128 : decode cX6_two_ 128 = .ok (.iload 4, 2) := by decide +kernel
theorem dX6_two__130 : decode cX6_two_ 130 = .ok (.goto 19, 3) := by decide +kernel
theorem dX6_two__133 : decode cX6_two_ 133 = .ok (.iload 4, 2) := by decide +kernel
theorem dX6_two__135 : decode cX6_two_ 135 = .ok (.aload_n 0, 1) := by decide +kernel
theorem dX6_two__136 : decode cX6_two_ 136 = .ok (.iload_n 3, 1) := by decide +kernel
theorem dX6_two__137 : decode cX6_two_ 137 = .ok (.bipush 100, 2) := by decide +kernel
theorem dX6_two__139 : decode cX6_two_ 139 = .ok (.idiv, 1) := by decide +kernel
theorem dX6_two__140 : decode cX6_two_ 140 = .ok (.iload_n 3, 1) := by decide +kernel
theorem dX6_two__141 : decode cX6_two_ 141 = .ok (.bipush 100, 2) := by decide +kernel
theorem dX6_two__143 : decode cX6_two_ 143 = .ok (.irem, 1) := by decide +kernel
theorem dX6_two__144 : decode cX6_two_ 144 = .ok (.iload_n 1, 1) := by decide +kernel
theorem dX6_two__145 : decode cX6_two_ 145 = .ok (.invokevirtual 227, 3) := by decide +kernel
theorem dX6_two__148 : decode cX6_two_ 148 = .ok (.isub, 1) := by decide +kernel
theorem dX6_two__149 : decode cX6_two_ 149 = .ok (.ireturn, 1) := by decide +kernel
theorem dX6_all_0 : decode cX6_all 0 = .ok (.iload_n 1, 1) := by decide +kernel
theorem dX6_all_1 : decode cX6_all 1 = .ok (.invokestatic 155, 3) := by decide +kernel
theorem dX6_all_4 : decode cX6_all 4 = .ok (.ifCond .ne 6, 3) := by decide +kernel
theorem dX6_all_7 : decode cX6_all 7 = .ok (.bipush (-5), 2) := by decide +kernel
theorem dX6_all_9 : decode cX6_all 9 = .ok (.ireturn, 1) := by decide +kernel
theorem dX6_all_10 : decode cX6_all 10 = .ok (.aload_n 0, 1) := by decide +kernel
theorem dX6_all_11 : decode cX6_all 11 = .ok (.iload_n 1, 1) := by decide +kernel
theorem dX6_all_12 : decode cX6_all 12 = .ok (.bipush 99, 2) := by decide +kernel
theorem dX6_all_14 : decode cX6_all 14 = .ok (.invokevirtual 213, 3) := by decide +kernel
theorem dX6_all_17 : decode cX6_all 17 = .ok (.aload_n 0, 1) := by decide +kernel
theorem dX6_all_18 : decode cX6_all 18 = .ok (.getfield 202, 3) := by decide +kernel
theorem dX6_all_21 : decode cX6_all 21 = .ok (.istore_n 2, 1) := by decide +kernel
theorem dX6_all_22 : decode cX6_all 22 = .ok (.bipush 99, 2) := by decide +kernel
theorem dX6_all_24 : decode cX6_all 24 = .ok (.istore_n 3, 1) := by decide +kernel
theorem dX6_all_25 : decode cX6_all 25 = .ok (.iconst 1, 1) := by decide +kernel
theorem dX6_all_26 : decode cX6_all 26 = .ok (.istore 4, 2) := by decide +kernel
theorem dX6_all_28 : decode cX6_all 28 = .ok (.bipush 98, 2) := by decide +kernel
theorem dX6_all_30 : decode cX6_all 30 = .ok (.istore 5, 2) := by decide +kernel
theorem dX6_all_32 : decode cX6_all 32 = .ok (.iload 5, 2) := by decide +kernel
theorem dX6_all_34 : decode cX6_all 34 = .ok (.ifCond .lt 48, 3) := by decide +kernel
theorem dX6_all_37 : decode cX6_all 37 = .ok (.iload 4, 2) := by decide +kernel
theorem dX6_all_39 : decode cX6_all 39 = .ok (.ifCond .eq 43, 3) := by decide +kernel
theorem dX6_all_42 : decode cX6_all 42 = .ok (.aload_n 0, 1) := by decide +kernel
theorem dX6_all_43 : decode cX6_all 43 = .ok (.iload_n 1, 1) := by decide +kernel
theorem dX6_all_44 : decode cX6_all 44 = .ok (.iload 5, 2) := by decide +kernel
theorem dX6_all_46 : decode cX6_all 46 = .ok (.invokevirtual 213, 3) := by decide +kernel
theorem dX6_all_49 : decode cX6_all 49 = .ok (.aload_n 0, 1) := by decide +kernel
theorem dX6_all_50 : decode cX6_all 50 = .ok (.getfield 202, 3) := by decide +kernel
theorem dX6_all_53 : decode cX6_all 53 = .ok (.iload_n 2, 1) := by decide +kernel
theorem dX6_all_54 : decode cX6_all 54 = .ok (.if_icmp .lt 7, 3) := by decide +kernel
theorem dX6_all_57 : decode cX6_all 57 = .ok (.iconst 1, 1) := by decide +kernel
theorem dX6_all_58 : decode cX6_all 58 = .ok (.goto 4, 3) := by decide +kernel
theorem dX6_all_61 : decode cX6_all 61 = .ok (.iconst 0, 1) := by decide +kernel
theorem dX6_all_62 : decode cX6_all 62 = .ok (.istore 4, 2) := by decide +kernel
theorem dX6_all_64 : decode cX6_all 64 = .ok (.iload 4, 2) := by decide +kernel
theorem dX6_all_66 : decode cX6_all 66 = .ok (.ifCond .eq 8, 3) := by decide +kernel
theorem dX6_all_69 : decode cX6_all 69 = .ok (.iload 5, 2) := by decide +kernel
theorem dX6_all_71 : decode cX6_all 71 = .ok (.goto 4, 3) := by decide +kernel
theorem dX6_all_74 : decode cX6_all 74 = .ok (.iload_n 3, 1) := by decide +kernel
theorem dX6_all_75 : decode cX6_all 75 = .ok (.istore_n 3, 1) := by decide +kernel
theorem dX6_all_76 : decode cX6_all 76 = .ok (.iinc 5 (-1), 3) := by decide +kernel
theorem dX6_all_79 : decode cX6_all 79 = .ok (.goto (-47), 3) := by decide +kernel
theorem dX6_all_82 : decode cX6_all 82 = .ok (.iload_n 3, 1) := by decide +kernel
theorem dX6_all_83 : decode cX6_all 83 = .ok (.ireturn, 1) := by decide +kernel
theorem dX6_countIn_0 : decode cX6_countIn 0 = .ok (.iconst 0, 1) := by decide +kernel
theorem dX6_countIn_1 : decode cX6_countIn 1 = .ok (.istore_n 3, 1) := by decide +kernel
theorem dX6_countIn_2 : decode cX6_countIn 2 = .ok (.iconst 0, 1) := by decide +kernel
theorem dX6_countIn_3 : decode cX6_countIn 3 = .ok (.istore 4, 2) := by decide +kernel
theorem dX6_countIn_5 : decode cX6_countIn 5 = .ok (.bipush 6, 2) := by decide +kernel
theorem dX6_countIn_7 : decode cX6_countIn 7 = .ok (.iload_n 1, 1) := by decide +kernel
theorem dX6_countIn_8 : decode cX6_countIn 8 = .ok (.imul, 1) := by decide +kernel
theorem dX6_countIn_9 : decode cX6_countIn 9 = .ok (.istore 5, 2) := by decide +kernel
theorem dX6_countIn_11 : decode cX6_countIn 11 = .ok (.iload 5, 2) := by decide +kernel
theorem dX6_countIn_13 : decode cX6_countIn 13 = .ok (.bipush 6, 2) := by decide +kernel
theorem dX6_countIn_15 : decode cX6_countIn 15 = .ok (.iload_n 1, 1) := by decide +kernel
theorem dX6_countIn_16 : decode cX6_countIn 16 = .ok (.imul, 1) := by decide +kernel
theorem dX6_countIn_17 : decode cX6_countIn 17 = .ok (.bipush 6, 2) := by decide +kernel
theorem dX6_countIn_19 : decode cX6_countIn 19 = .ok (.iadd, 1) := by decide +kernel
theorem dX6_countIn_20 : decode cX6_countIn 20 = .ok (.if_icmp .ge 82, 3) := by decide +kernel
theorem dX6_countIn_23 : decode cX6_countIn 23 = .ok (.iload 4, 2) := by decide +kernel
theorem dX6_countIn_25 : decode cX6_countIn 25 = .ok (.iload_n 1, 1) := by decide +kernel
theorem dX6_countIn_26 : decode cX6_countIn 26 = .ok (.ifCond .ne 7, 3) := by decide +kernel
theorem dX6_countIn_29 : decode cX6_countIn 29 = .ok (.iconst 0, 1) := by decide +kernel
theorem dX6_countIn_30 : decode cX6_countIn 30 = .ok (.goto 9, 3) := by decide +kernel
theorem dX6_countIn_33 : decode cX6_countIn 33 = .ok (.aload_n 0, 1) := by decide +kernel
theorem dX6_countIn_34 : decode cX6_countIn 34 = .ok (.iload 5, 2) := by decide +kernel
theorem dX6_countIn_36 : decode cX6_countIn 36 = .ok (.invokevirtual 171, 3) := by decide +kernel
theorem dX6_countIn_39 : decode cX6_countIn 39 = .ok (.ior, 1) := by decide +kernel
theorem dX6_countIn_40 : decode cX6_countIn 40 = .ok (.istore 4, 2) := by decide +kernel
theorem dX6_countIn_42 : decode cX6_countIn 42 = .ok (.aload_n 0, 1) := by decide +kernel
theorem dX6_countIn_43 : decode cX6_countIn 43 = .ok (.iload 5, 2) := by decide +kernel
theorem dX6_countIn_45 : decode cX6_countIn 45 = .ok (.invokevirtual 171, 3) := by decide +kernel
theorem dX6_countIn_48 : decode cX6_countIn 48 = .ok (.istore 6, 2) := by decide +kernel
theorem dX6_countIn_50 : decode cX6_countIn 50 = .ok (.iload_n 3, 1) := by decide +kernel
theorem dX6_countIn_51 : decode cX6_countIn 51 = .ok (.iload_n 2, 1) := by decide +kernel
theorem dX6_countIn_52 : decode cX6_countIn 52 = .ok (.ifCond .ne 22, 3) := by decide +kernel
theorem dX6_countIn_55 : decode cX6_countIn 55 = .ok (.aload_n 0, 1) := by decide +kernel
theorem dX6_countIn_56 : decode cX6_countIn 56 = .ok (.iload 5, 2) := by decide +kernel
theorem dX6_countIn_58 : decode cX6_countIn 58 = .ok (.invokevirtual 177, 3) := by decide +kernel
theorem dX6_countIn_61 : decode cX6_countIn 61 = .ok (.lconst 0, 1) := by decide +kernel
theorem dX6_countIn_62 : decode cX6_countIn 62 = .ok (.lcmp, 1) := by decide +kernel
theorem dX6_countIn_63 : decode cX6_countIn 63 = .ok (.ifCond .eq 7, 3) := by decide +kernel
theorem dX6_countIn_66 : decode cX6_countIn 66 = .ok (.iconst 1, 1) := by decide +kernel
theorem dX6_countIn_67 : decode cX6_countIn 67 = .ok (.goto 27, 3) := by decide +kernel
theorem dX6_countIn_70 : decode cX6_countIn 70 = .ok (.iconst 0, 1) := by decide +kernel
theorem dX6_countIn_71 : decode cX6_countIn 71 = .ok (.goto 23, 3) := by decide +kernel
theorem dX6_countIn_74 : decode cX6_countIn 74 = .ok (.iload 6, 2) := by decide +kernel
theorem dX6_countIn_76 : decode cX6_countIn 76 = .ok (.ifCond .eq 13, 3) := by decide +kernel
theorem dX6_countIn_79 : decode cX6_countIn 79 = .ok (.iload 6, 2) := by decide +kernel
theorem dX6_countIn_81 : decode cX6_countIn 81 = .ok (.iload 6, 2) := by decide +kernel
theorem dX6_countIn_83 : decode cX6_countIn 83 = .ok (.iconst 1, 1) := by decide +kernel
theorem dX6_countIn_84 : decode cX6_countIn 84 = .ok (.isub, 1) := by decide +kernel
theorem dX6_countIn_85 : decode cX6_countIn 85 = .ok (.iand, 1) := by decide +kernel
theorem dX6_countIn_86 : decode cX6_countIn 86 = .ok (.ifCond .eq 7, 3) := by decide +kernel
theorem dX6_countIn_89 : decode cX6_countIn 89 = .ok (.iconst 1, 1) := by decide +kernel
theorem dX6_countIn_90 : decode cX6_countIn 90 = .ok (.goto 4, 3) := by decide +kernel
theorem dX6_countIn_93 : decode cX6_countIn 93 = .ok (.iconst 0, 1) := by decide +kernel
theorem dX6_countIn_94 : decode cX6_countIn 94 = .ok (.iadd, 1) := by decide +kernel
theorem dX6_countIn_95 : decode cX6_countIn 95 = .ok (.istore_n 3, 1) := by decide +kernel
theorem dX6_countIn_96 : decode cX6_countIn 96 = .ok (.iinc 5 1, 3) := by decide +kernel
theorem dX6_countIn_99 : decode cX6_countIn 99 = .ok (.goto (-88), 3) := by decide +kernel
theorem dX6_countIn_102 : decode cX6_countIn 102 = .ok (.iload_n 2, 1) := by decide +kernel
theorem dX6_countIn_103 : decode cX6_countIn 103 = .ok (.iconst 1, 1) := by decide +kernel
theorem dX6_countIn_104 : decode cX6_countIn 104 = .ok (.if_icmp .ne 12, 3) := by decide +kernel
theorem dX6_countIn_107 : decode cX6_countIn 107 = .ok (.iload 4, 2) := by decide +kernel
theorem dX6_countIn_109 : decode cX6_countIn 109 = .ok (.i2l, 1) := by decide +kernel
theorem dX6_countIn_110 : decode cX6_countIn 110 = .ok (.invokestatic 192, 3) := by decide +kernel
theorem dX6_countIn_113 : decode cX6_countIn 113 = .ok (.goto 4, 3) := by decide +kernel
theorem dX6_countIn_116 : decode cX6_countIn 116 = .ok (.iload_n 3, 1) := by decide +kernel
theorem dX6_countIn_117 : decode cX6_countIn 117 = .ok (.ireturn, 1) := by decide +kernel
theorem dX6_counts_0 : decode cX6_counts 0 = .ok (.iload_n 1, 1) := by decide +kernel
theorem dX6_counts_1 : decode cX6_counts 1 = .ok (.iconst 0, 1) := by decide +kernel
theorem dX6_counts_2 : decode cX6_counts 2 = .ok (.bipush 7, 2) := by decide +kernel
theorem dX6_counts_4 : decode cX6_counts 4 = .ok (.invokestatic 69, 3) := by decide +kernel
theorem dX6_counts_7 : decode cX6_counts 7 = .ok (.ifCond .ne 6, 3) := by decide +kernel
theorem dX6_counts_10 : decode cX6_counts 10 = .ok (.bipush (-5), 2) := by decide +kernel
theorem dX6_counts_12 : decode cX6_counts 12 = .ok (.ireturn, 1) := by decide +kernel
theorem dX6_counts_13 : decode cX6_counts 13 = .ok (.iload_n 2, 1) := by decide +kernel
theorem dX6_counts_14 : decode cX6_counts 14 = .ok (.iconst 0, 1) := by decide +kernel
theorem dX6_counts_15 : decode cX6_counts 15 = .ok (.iconst 2, 1) := by decide +kernel
theorem dX6_counts_16 : decode cX6_counts 16 = .ok (.invokestatic 69, 3) := by decide +kernel
theorem dX6_counts_19 : decode cX6_counts 19 = .ok (.ifCond .eq 12, 3) := by decide +kernel
theorem dX6_counts_22 : decode cX6_counts 22 = .ok (.aload_n 0, 1) := by decide +kernel
theorem dX6_counts_23 : decode cX6_counts 23 = .ok (.iload_n 1, 1) := by decide +kernel
theorem dX6_counts_24 : decode cX6_counts 24 = .ok (.iload_n 2, 1) := by decide +kernel
theorem dX6_counts_25 : decode cX6_counts 25 = .ok (.invokevirtual 230, 3) := by decide +kernel
theorem dX6_counts_28 : decode cX6_counts 28 = .ok (.goto 5, 3) := by decide +kernel
theorem dX6_counts_31 : decode cX6_counts 31 = .ok (.bipush (-7), 2) := by decide +kernel
theorem dX6_counts_33 : decode cX6_counts 33 = .ok (.ireturn, 1) := by decide +kernel
theorem dX6_sheetWrong_0 : decode cX6_sheetWrong 0 = .ok (.iload_n 1, 1) := by decide +kernel
theorem dX6_sheetWrong_1 : decode cX6_sheetWrong 1 = .ok (.iconst 0, 1) := by decide +kernel
theorem dX6_sheetWrong_2 : decode cX6_sheetWrong 2 = .ok (.iconst 3, 1) := by decide +kernel
theorem dX6_sheetWrong_3 : decode cX6_sheetWrong 3 = .ok (.invokestatic 69, 3) := by decide +kernel
theorem dX6_sheetWrong_6 : decode cX6_sheetWrong 6 = .ok (.ifCond .ne 6, 3) := by decide +kernel
theorem dX6_sheetWrong_9 : decode cX6_sheetWrong 9 = .ok (.bipush (-2), 2) := by decide +kernel
theorem dX6_sheetWrong_11 : decode cX6_sheetWrong 11 = .ok (.ireturn, 1) := by decide +kernel
theorem dX6_sheetWrong_12 : decode cX6_sheetWrong 12 = .ok (.aload_n 0, 1) := by decide +kernel
theorem dX6_sheetWrong_13 : decode cX6_sheetWrong 13 = .ok (.getfield 34, 3) := by decide +kernel
theorem dX6_sheetWrong_16 : decode cX6_sheetWrong 16 = .ok (.iload_n 1, 1) := by decide +kernel
theorem dX6_sheetWrong_17 : decode cX6_sheetWrong 17 = .ok (.iaload, 1) := by decide +kernel
theorem dX6_sheetWrong_18 : decode cX6_sheetWrong 18 = .ok (.iconst (-1), 1) := by decide +kernel
theorem dX6_sheetWrong_19 : decode cX6_sheetWrong 19 = .ok (.if_icmp .ne 6, 3) := by decide +kernel
theorem dX6_sheetWrong_22 : decode cX6_sheetWrong 22 = .ok (.bipush (-11), 2) := by decide +kernel
theorem dX6_sheetWrong_24 : decode cX6_sheetWrong 24 = .ok (.ireturn, 1) := by decide +kernel
theorem dX6_sheetWrong_25 : decode cX6_sheetWrong 25 = .ok (.aload_n 0, 1) := by decide +kernel
theorem dX6_sheetWrong_26 : decode cX6_sheetWrong 26 = .ok (.getfield 37, 3) := by decide +kernel
theorem dX6_sheetWrong_29 : decode cX6_sheetWrong 29 = .ok (.iload_n 1, 1) := by decide +kernel
theorem dX6_sheetWrong_30 : decode cX6_sheetWrong 30 = .ok (.iaload, 1) := by decide +kernel
theorem dX6_sheetWrong_31 : decode cX6_sheetWrong 31 = .ok (.iload_n 2, 1) := by decide +kernel
theorem dX6_sheetWrong_32 : decode cX6_sheetWrong 32 = .ok (.if_icmp .ne 7, 3) := by decide +kernel
theorem dX6_sheetWrong_35 : decode cX6_sheetWrong 35 = .ok (.iconst 0, 1) := by decide +kernel
theorem dX6_sheetWrong_36 : decode cX6_sheetWrong 36 = .ok (.goto 5, 3) := by decide +kernel
theorem dX6_sheetWrong_39 : decode cX6_sheetWrong 39 = .ok (.bipush (-2), 2) := by decide +kernel
theorem dX6_sheetWrong_41 : decode cX6_sheetWrong 41 = .ok (.ireturn, 1) := by decide +kernel
theorem dX6_slip_0 : decode cX6_slip 0 = .ok (.aload_n 0, 1) := by decide +kernel
theorem dX6_slip_1 : decode cX6_slip 1 = .ok (.iload_n 1, 1) := by decide +kernel
theorem dX6_slip_2 : decode cX6_slip 2 = .ok (.bipush 8, 2) := by decide +kernel
theorem dX6_slip_4 : decode cX6_slip 4 = .ok (.invokevirtual 233, 3) := by decide +kernel
theorem dX6_slip_7 : decode cX6_slip 7 = .ok (.istore_n 2, 1) := by decide +kernel
theorem dX6_slip_8 : decode cX6_slip 8 = .ok (.iload_n 2, 1) := by decide +kernel
theorem dX6_slip_9 : decode cX6_slip 9 = .ok (.ifCond .eq 5, 3) := by decide +kernel
theorem dX6_slip_12 : decode cX6_slip 12 = .ok (.iload_n 2, 1) := by decide +kernel
theorem dX6_slip_13 : decode cX6_slip 13 = .ok (.ireturn, 1) := by decide +kernel
theorem dX6_slip_14 : decode cX6_slip 14 = .ok (.iconst 1, 1) := by decide +kernel
theorem dX6_slip_15 : decode cX6_slip 15 = .ok (.istore_n 3, 1) := by decide +kernel
theorem dX6_slip_16 : decode cX6_slip 16 = .ok (.iload_n 3, 1) := by decide +kernel
theorem dX6_slip_17 : decode cX6_slip 17 = .ok (.bipush 8, 2) := by decide +kernel
theorem dX6_slip_19 : decode cX6_slip 19 = .ok (.if_icmp .ge 31, 3) := by decide +kernel
theorem dX6_slip_22 : decode cX6_slip 22 = .ok (.aload_n 0, 1) := by decide +kernel
theorem dX6_slip_23 : decode cX6_slip 23 = .ok (.getfield 40, 3) := by decide +kernel
theorem dX6_slip_26 : decode cX6_slip 26 = .ok (.bipush 48, 2) := by decide +kernel
theorem dX6_slip_28 : decode cX6_slip 28 = .ok (.iload_n 1, 1) := by decide +kernel
theorem dX6_slip_29 : decode cX6_slip 29 = .ok (.imul, 1) := by decide +kernel
theorem dX6_slip_30 : decode cX6_slip 30 = .ok (.iload_n 3, 1) := by decide +kernel
theorem dX6_slip_31 : decode cX6_slip 31 = .ok (.iadd, 1) := by decide +kernel
theorem dX6_slip_32 : decode cX6_slip 32 = .ok (.iaload, 1) := by decide +kernel
theorem dX6_slip_33 : decode cX6_slip 33 = .ok (.aload_n 0, 1) := by decide +kernel
theorem dX6_slip_34 : decode cX6_slip 34 = .ok (.iload_n 3, 1) := by decide +kernel
theorem dX6_slip_35 : decode cX6_slip 35 = .ok (.iconst 1, 1) := by decide +kernel
theorem dX6_slip_36 : decode cX6_slip 36 = .ok (.invokevirtual 230, 3) := by decide +kernel
theorem dX6_slip_39 : decode cX6_slip 39 = .ok (.if_icmp .eq 5, 3) := by decide +kernel
theorem dX6_slip_42 : decode cX6_slip 42 = .ok (.iload_n 3, 1) := by decide +kernel
theorem dX6_slip_43 : decode cX6_slip 43 = .ok (.ireturn, 1) := by decide +kernel
theorem dX6_slip_44 : decode cX6_slip 44 = .ok (.iinc 3 1, 3) := by decide +kernel
theorem dX6_slip_47 : decode cX6_slip 47 = .ok (.goto (-31), 3) := by decide +kernel
theorem dX6_slip_50 : decode cX6_slip 50 = .ok (.iconst (-1), 1) := by decide +kernel
theorem dX6_slip_51 : decode cX6_slip 51 = .ok (.ireturn, 1) := by decide +kernel
theorem dX6_wrong_0 : decode cX6_wrong 0 = .ok (.iconst 0, 1) := by decide +kernel
theorem dX6_wrong_1 : decode cX6_wrong 1 = .ok (.istore_n 1, 1) := by decide +kernel
theorem dX6_wrong_2 : decode cX6_wrong 2 = .ok (.iconst 0, 1) := by decide +kernel
theorem dX6_wrong_3 : decode cX6_wrong 3 = .ok (.istore_n 2, 1) := by decide +kernel
theorem dX6_wrong_4 : decode cX6_wrong 4 = .ok (.iload_n 2, 1) := by decide +kernel
theorem dX6_wrong_5 : decode cX6_wrong 5 = .ok (.bipush 48, 2) := by decide +kernel
theorem dX6_wrong_7 : decode cX6_wrong 7 = .ok (.if_icmp .ge 30, 3) := by decide +kernel
theorem dX6_wrong_10 : decode cX6_wrong 10 = .ok (.iload_n 1, 1) := by decide +kernel
theorem dX6_wrong_11 : decode cX6_wrong 11 = .ok (.aload_n 0, 1) := by decide +kernel
theorem dX6_wrong_12 : decode cX6_wrong 12 = .ok (.iload_n 2, 1) := by decide +kernel
theorem dX6_wrong_13 : decode cX6_wrong 13 = .ok (.invokevirtual 189, 3) := by decide +kernel
theorem dX6_wrong_16 : decode cX6_wrong 16 = .ok (.ifCond .eq 12, 3) := by decide +kernel
theorem dX6_wrong_19 : decode cX6_wrong 19 = .ok (.iconst 1, 1) := by decide +kernel
theorem dX6_wrong_20 : decode cX6_wrong 20 = .ok (.iload_n 2, 1) := by decide +kernel
theorem dX6_wrong_21 : decode cX6_wrong 21 = .ok (.bipush 6, 2) := by decide +kernel
theorem dX6_wrong_23 : decode cX6_wrong 23 = .ok (.idiv, 1) := by decide +kernel
theorem dX6_wrong_24 : decode cX6_wrong 24 = .ok (.ishl, 1) := by decide +kernel
theorem dX6_wrong_25 : decode cX6_wrong 25 = .ok (.goto 4, 3) := by decide +kernel
theorem dX6_wrong_28 : decode cX6_wrong 28 = .ok (.iconst 0, 1) := by decide +kernel
theorem dX6_wrong_29 : decode cX6_wrong 29 = .ok (.ior, 1) := by decide +kernel
theorem dX6_wrong_30 : decode cX6_wrong 30 = .ok (.istore_n 1, 1) := by decide +kernel
theorem dX6_wrong_31 : decode cX6_wrong 31 = .ok (.iinc 2 1, 3) := by decide +kernel
theorem dX6_wrong_34 : decode cX6_wrong 34 = .ok (.goto (-30), 3) := by decide +kernel
theorem dX6_wrong_37 : decode cX6_wrong 37 = .ok (.iload_n 1, 1) := by decide +kernel
theorem dX6_wrong_38 : decode cX6_wrong 38 = .ok (.ireturn, 1) := by decide +kernel
theorem dX6_isHeld_0 : decode cX6_isHeld 0 = .ok (.aload_n 0, 1) := by decide +kernel
theorem dX6_isHeld_1 : decode cX6_isHeld 1 = .ok (.iload_n 1, 1) := by decide +kernel
theorem dX6_isHeld_2 : decode cX6_isHeld 2 = .ok (.iload_n 2, 1) := by decide +kernel
theorem dX6_isHeld_3 : decode cX6_isHeld 3 = .ok (.invokevirtual 213, 3) := by decide +kernel
theorem dX6_isHeld_6 : decode cX6_isHeld 6 = .ok (.aload_n 0, 1) := by decide +kernel
theorem dX6_isHeld_7 : decode cX6_isHeld 7 = .ok (.getfield 202, 3) := by decide +kernel
theorem dX6_isHeld_10 : decode cX6_isHeld 10 = .ok (.iload_n 3, 1) := by decide +kernel
theorem dX6_isHeld_11 : decode cX6_isHeld 11 = .ok (.if_icmp .gt 7, 3) := by decide +kernel
theorem dX6_isHeld_14 : decode cX6_isHeld 14 = .ok (.iconst 1, 1) := by decide +kernel
theorem dX6_isHeld_15 : decode cX6_isHeld 15 = .ok (.goto 4, 3) := by decide +kernel
theorem dX6_isHeld_18 : decode cX6_isHeld 18 = .ok (.iconst 0, 1) := by decide +kernel
theorem dX6_isHeld_19 : decode cX6_isHeld 19 = .ok (.ireturn, 1) := by decide +kernel
theorem dX6_pinsFor_0 : decode cX6_pinsFor 0 = .ok (.iconst (-1), 1) := by decide +kernel
theorem dX6_pinsFor_1 : decode cX6_pinsFor 1 = .ok (.istore 5, 2) := by decide +kernel
theorem dX6_pinsFor_3 : decode cX6_pinsFor 3 = .ok (.iconst 0, 1) := by decide +kernel
theorem dX6_pinsFor_4 : decode cX6_pinsFor 4 = .ok (.istore 6, 2) := by decide +kernel
theorem dX6_pinsFor_6 : decode cX6_pinsFor 6 = .ok (.iload 6, 2) := by decide +kernel
theorem dX6_pinsFor_8 : decode cX6_pinsFor 8 = .ok (.bipush 48, 2) := by decide +kernel
theorem dX6_pinsFor_10 : decode cX6_pinsFor 10 = .ok (.if_icmp .ge 168, 3) := by decide +kernel
theorem dX6_pinsFor_13 : decode cX6_pinsFor 13 = .ok (.iload 5, 2) := by decide +kernel
theorem dX6_pinsFor_15 : decode cX6_pinsFor 15 = .ok (.iconst (-1), 1) := by decide +kernel
theorem dX6_pinsFor_16 : decode cX6_pinsFor 16 = .ok (.if_icmp .ne 162, 3) := by decide +kernel
theorem dX6_pinsFor_19 : decode cX6_pinsFor 19 = .ok (.aload_n 0, 1) := by decide +kernel
theorem dX6_pinsFor_20 : decode cX6_pinsFor 20 = .ok (.getfield 16, 3) := by decide +kernel
theorem dX6_pinsFor_23 : decode cX6_pinsFor 23 = .ok (.iload 6, 2) := by decide +kernel
theorem dX6_pinsFor_25 : decode cX6_pinsFor 25 = .ok (.iaload, 1) := by decide +kernel
theorem dX6_pinsFor_26 : decode cX6_pinsFor 26 = .ok (.istore 7, 2) := by decide +kernel
theorem dX6_pinsFor_28 : decode cX6_pinsFor 28 = .ok (.aload_n 0, 1) := by decide +kernel
theorem dX6_pinsFor_29 : decode cX6_pinsFor 29 = .ok (.getfield 16, 3) := by decide +kernel
theorem dX6_pinsFor_32 : decode cX6_pinsFor 32 = .ok (.iload 6, 2) := by decide +kernel
theorem dX6_pinsFor_34 : decode cX6_pinsFor 34 = .ok (.iconst 1, 1) := by decide +kernel
theorem dX6_pinsFor_35 : decode cX6_pinsFor 35 = .ok (.iastore, 1) := by decide +kernel
theorem dX6_pinsFor_36 : decode cX6_pinsFor 36 = .ok (.iload 6, 2) := by decide +kernel
theorem dX6_pinsFor_38 : decode cX6_pinsFor 38 = .ok (.iload_n 1, 1) := by decide +kernel
theorem dX6_pinsFor_39 : decode cX6_pinsFor 39 = .ok (.if_icmp .eq 32, 3) := by decide +kernel
theorem dX6_pinsFor_42 : decode cX6_pinsFor 42 = .ok (.iload 4, 2) := by decide +kernel
theorem dX6_pinsFor_44 : decode cX6_pinsFor 44 = .ok (.ifCond .ne 27, 3) := by decide +kernel
theorem dX6_pinsFor_47 : decode cX6_pinsFor 47 = .ok (.aload_n 0, 1) := by decide +kernel
theorem dX6_pinsFor_48 : decode cX6_pinsFor 48 = .ok (.iload_n 1, 1) := by decide +kernel
theorem dX6_pinsFor_49 : decode cX6_pinsFor 49 = .ok (.iload_n 2, 1) := by decide +kernel
theorem dX6_pinsFor_50 : decode cX6_pinsFor 50 = .ok (.iload_n 3, 1) := by decide +kernel
theorem dX6_pinsFor_51 : decode cX6_pinsFor 51 = .ok (.invokevirtual 236, 3) := by decide +kernel
theorem dX6_pinsFor_54 : decode cX6_pinsFor 54 = .ok (.ifCond .eq 14, 3) := by decide +kernel
theorem dX6_pinsFor_57 : decode cX6_pinsFor 57 = .ok (.bipush 100, 2) := by decide +kernel
theorem dX6_pinsFor_59 : decode cX6_pinsFor 59 = .ok (.iload 6, 2) := by decide +kernel
theorem dX6_pinsFor_61 : decode cX6_pinsFor 61 = .ok (.imul, 1) := by decide +kernel
theorem dX6_pinsFor_62 : decode cX6_pinsFor 62 = .ok (.bipush 99, 2) := by decide +kernel
theorem dX6_pinsFor_64 : decode cX6_pinsFor 64 = .ok (.iadd, 1) := by decide +kernel
theorem dX6_pinsFor_65 : decode cX6_pinsFor 65 = .ok (.goto 4, 3) := by decide +kernel
theorem dX6_pinsFor_68 : decode cX6_pinsFor 68 = .ok (.iconst (-1), 1) := by decide +kernel
theorem dX6_pinsFor_69 : decode cX6_pinsFor 69 = .ok (.istore 5, 2) := by decide +kernel
theorem dX6_pinsFor_71 : decode cX6_pinsFor 71 = .ok (.iload 6, 2) := by decide +kernel
theorem dX6_pinsFor_73 : decode cX6_pinsFor 73 = .ok (.iconst 1, 1) := by decide +kernel
theorem dX6_pinsFor_74 : decode cX6_pinsFor 74 = .ok (.iadd, 1) := by decide +kernel
theorem dX6_pinsFor_75 : decode cX6_pinsFor 75 = .ok (.istore 8, 2) := by decide +kernel
theorem dX6_pinsFor_77 : decode cX6_pinsFor 77 = .ok (.iload 8, 2) := by decide +kernel
theorem dX6_pinsFor_79 : decode cX6_pinsFor 79 = .ok (.bipush 48, 2) := by decide +kernel
theorem dX6_pinsFor_81 : decode cX6_pinsFor 81 = .ok (.if_icmp .ge 82, 3) := by decide +kernel
theorem dX6_pinsFor_84 : decode cX6_pinsFor 84 = .ok (.iload 6, 2) := by decide +kernel
theorem dX6_pinsFor_86 : decode cX6_pinsFor 86 = .ok (.iload_n 1, 1) := by decide +kernel
theorem dX6_pinsFor_87 : decode cX6_pinsFor 87 = .ok (.if_icmp .eq 76, 3) := by decide +kernel
theorem dX6_pinsFor_90 : decode cX6_pinsFor 90 = .ok (.iload 4, 2) := by decide +kernel
theorem dX6_pinsFor_92 : decode cX6_pinsFor 92 = .ok (.ifCond .eq 71, 3) := by decide +kernel
theorem dX6_pinsFor_95 : decode cX6_pinsFor 95 = .ok (.iload 5, 2) := by decide +kernel
theorem dX6_pinsFor_97 : decode cX6_pinsFor 97 = .ok (.iconst (-1), 1) := by decide +kernel
theorem dX6_pinsFor_98 : decode cX6_pinsFor 98 = .ok (.if_icmp .ne 65, 3) := by decide +kernel
theorem dX6_pinsFor_101 : decode cX6_pinsFor 101 = .ok (.aload_n 0, 1) := by decide +kernel
theorem dX6_pinsFor_102 : decode cX6_pinsFor 102 = .ok (.getfield 16, 3) := by decide +kernel
theorem dX6_pinsFor_105 : decode cX6_pinsFor 105 = .ok (.iload 8, 2) := by decide +kernel
theorem dX6_pinsFor_107 : decode cX6_pinsFor 107 = .ok (.iaload, 1) := by decide +kernel
theorem dX6_pinsFor_108 : decode cX6_pinsFor 108 = .ok (.istore 9, 2) := by decide +kernel
theorem dX6_pinsFor_110 : decode cX6_pinsFor 110 = .ok (.aload_n 0, 1) := by decide +kernel
theorem dX6_pinsFor_111 : decode cX6_pinsFor 111 = .ok (.getfield 16, 3) := by decide +kernel
theorem dX6_pinsFor_114 : decode cX6_pinsFor 114 = .ok (.iload 8, 2) := by decide +kernel
theorem dX6_pinsFor_116 : decode cX6_pinsFor 116 = .ok (.iconst 1, 1) := by decide +kernel
theorem dX6_pinsFor_117 : decode cX6_pinsFor 117 = .ok (.iastore, 1) := by decide +kernel
theorem dX6_pinsFor_118 : decode cX6_pinsFor 118 = .ok (.iload 8, 2) := by decide +kernel
theorem dX6_pinsFor_120 : decode cX6_pinsFor 120 = .ok (.iload_n 1, 1) := by decide +kernel
theorem dX6_pinsFor_121 : decode cX6_pinsFor 121 = .ok (.if_icmp .eq 24, 3) := by decide +kernel
theorem dX6_pinsFor_124 : decode cX6_pinsFor 124 = .ok (.aload_n 0, 1) := by decide +kernel
theorem dX6_pinsFor_125 : decode cX6_pinsFor 125 = .ok (.iload_n 1, 1) := by decide +kernel
theorem dX6_pinsFor_126 : decode cX6_pinsFor 126 = .ok (.iload_n 2, 1) := by decide +kernel
theorem dX6_pinsFor_127 : decode cX6_pinsFor 127 = .ok (.iload_n 3, 1) := by decide +kernel
theorem dX6_pinsFor_128 : decode cX6_pinsFor 128 = .ok (.invokevirtual 236, 3) := by decide +kernel
theorem dX6_pinsFor_131 : decode cX6_pinsFor 131 = .ok (.ifCond .eq 14, 3) := by decide +kernel
theorem dX6_pinsFor_134 : decode cX6_pinsFor 134 = .ok (.bipush 100, 2) := by decide +kernel
theorem dX6_pinsFor_136 : decode cX6_pinsFor 136 = .ok (.iload 6, 2) := by decide +kernel
theorem dX6_pinsFor_138 : decode cX6_pinsFor 138 = .ok (.imul, 1) := by decide +kernel
theorem dX6_pinsFor_139 : decode cX6_pinsFor 139 = .ok (.iload 8, 2) := by decide +kernel
theorem dX6_pinsFor_141 : decode cX6_pinsFor 141 = .ok (.iadd, 1) := by decide +kernel
theorem dX6_pinsFor_142 : decode cX6_pinsFor 142 = .ok (.goto 4, 3) := by decide +kernel
theorem dX6_pinsFor_145 : decode cX6_pinsFor 145 = .ok (.iconst (-1), 1) := by decide +kernel
theorem dX6_pinsFor_146 : decode cX6_pinsFor 146 = .ok (.istore 5, 2) := by decide +kernel
theorem dX6_pinsFor_148 : decode cX6_pinsFor 148 = .ok (.aload_n 0, 1) := by decide +kernel
theorem dX6_pinsFor_149 : decode cX6_pinsFor 149 = .ok (.getfield 16, 3) := by decide +kernel
theorem dX6_pinsFor_152 : decode cX6_pinsFor 152 = .ok (.iload 8, 2) := by decide +kernel
theorem dX6_pinsFor_154 : decode cX6_pinsFor 154 = .ok (.iload 9, 2) := by decide +kernel
theorem dX6_pinsFor_156 : decode cX6_pinsFor 156 = .ok (.iastore, 1) := by decide +kernel
theorem dX6_pinsFor_157 : decode cX6_pinsFor 157 = .ok (.iinc 8 1, 3) := by decide +kernel
theorem dX6_pinsFor_160 : decode cX6_pinsFor 160 = .ok (.goto (-83), 3) := by decide +kernel
theorem dX6_pinsFor_163 : decode cX6_pinsFor 163 = .ok (.aload_n 0, 1) := by decide +kernel
theorem dX6_pinsFor_164 : decode cX6_pinsFor 164 = .ok (.getfield 16, 3) := by decide +kernel
theorem dX6_pinsFor_167 : decode cX6_pinsFor 167 = .ok (.iload 6, 2) := by decide +kernel
theorem dX6_pinsFor_169 : decode cX6_pinsFor 169 = .ok (.iload 7, 2) := by decide +kernel
theorem dX6_pinsFor_171 : decode cX6_pinsFor 171 = .ok (.iastore, 1) := by decide +kernel
theorem dX6_pinsFor_172 : decode cX6_pinsFor 172 = .ok (.iinc 6 1, 3) := by decide +kernel
theorem dX6_pinsFor_175 : decode cX6_pinsFor 175 = .ok (.goto (-169), 3) := by decide +kernel
theorem dX6_pinsFor_178 : decode cX6_pinsFor 178 = .ok (.iload 5, 2) := by decide +kernel
theorem dX6_pinsFor_180 : decode cX6_pinsFor 180 = .ok (.ireturn, 1) := by decide +kernel
theorem dX6_pinned_0 : decode cX6_pinned 0 = .ok (.iload_n 1, 1) := by decide +kernel
theorem dX6_pinned_1 : decode cX6_pinned 1 = .ok (.invokestatic 155, 3) := by decide +kernel
theorem dX6_pinned_4 : decode cX6_pinned 4 = .ok (.ifCond .ne 6, 3) := by decide +kernel
theorem dX6_pinned_7 : decode cX6_pinned 7 = .ok (.bipush (-5), 2) := by decide +kernel
theorem dX6_pinned_9 : decode cX6_pinned 9 = .ok (.ireturn, 1) := by decide +kernel
theorem dX6_pinned_10 : decode cX6_pinned 10 = .ok (.iload_n 2, 1) := by decide +kernel
theorem dX6_pinned_11 : decode cX6_pinned 11 = .ok (.invokestatic 158, 3) := by decide +kernel
theorem dX6_pinned_14 : decode cX6_pinned 14 = .ok (.ifCond .eq 23, 3) := by decide +kernel
theorem dX6_pinned_17 : decode cX6_pinned 17 = .ok (.iload_n 3, 1) := by decide +kernel
theorem dX6_pinned_18 : decode cX6_pinned 18 = .ok (.iconst 0, 1) := by decide +kernel
theorem dX6_pinned_19 : decode cX6_pinned 19 = .ok (.bipush 48, 2) := by decide +kernel
theorem dX6_pinned_21 : decode cX6_pinned 21 = .ok (.invokestatic 69, 3) := by decide +kernel
theorem dX6_pinned_24 : decode cX6_pinned 24 = .ok (.ifCond .eq 13, 3) := by decide +kernel
theorem dX6_pinned_27 : decode cX6_pinned 27 = .ok (.iload 4, 2) := by decide +kernel
theorem dX6_pinned_29 : decode cX6_pinned 29 = .ok (.iconst 0, 1) := by decide +kernel
theorem dX6_pinned_30 : decode cX6_pinned 30 = .ok (.iconst 2, 1) := by decide +kernel
theorem dX6_pinned_31 : decode cX6_pinned 31 = .ok (.invokestatic 69, 3) := by decide +kernel
theorem dX6_pinned_34 : decode cX6_pinned 34 = .ok (.ifCond .ne 6, 3) := by decide +kernel
theorem dX6_pinned_37 : decode cX6_pinned 37 = .ok (.bipush (-7), 2) := by decide +kernel
theorem dX6_pinned_39 : decode cX6_pinned 39 = .ok (.ireturn, 1) := by decide +kernel
theorem dX6_pinned_40 : decode cX6_pinned 40 = .ok (.aload_n 0, 1) := by decide +kernel
theorem dX6_pinned_41 : decode cX6_pinned 41 = .ok (.iload_n 1, 1) := by decide +kernel
theorem dX6_pinned_42 : decode cX6_pinned 42 = .ok (.iload_n 2, 1) := by decide +kernel
theorem dX6_pinned_43 : decode cX6_pinned 43 = .ok (.iload_n 3, 1) := by decide +kernel
theorem dX6_pinned_44 : decode cX6_pinned 44 = .ok (.invokevirtual 236, 3) := by decide +kernel
theorem dX6_pinned_47 : decode cX6_pinned 47 = .ok (.ifCond .eq 14, 3) := by decide +kernel
theorem dX6_pinned_50 : decode cX6_pinned 50 = .ok (.iload 4, 2) := by decide +kernel
theorem dX6_pinned_52 : decode cX6_pinned 52 = .ok (.ifCond .ne 7, 3) := by decide +kernel
theorem dX6_pinned_55 : decode cX6_pinned 55 = .ok (.iconst 0, 1) := by decide +kernel
theorem dX6_pinned_56 : decode cX6_pinned 56 = .ok (.goto 4, 3) := by decide +kernel
theorem dX6_pinned_59 : decode cX6_pinned 59 = .ok (.iconst (-1), 1) := by decide +kernel
theorem dX6_pinned_60 : decode cX6_pinned 60 = .ok (.ireturn, 1) := by decide +kernel
theorem dX6_pinned_61 : decode cX6_pinned 61 = .ok (.aload_n 0, 1) := by decide +kernel
theorem dX6_pinned_62 : decode cX6_pinned 62 = .ok (.iload_n 1, 1) := by decide +kernel
theorem dX6_pinned_63 : decode cX6_pinned 63 = .ok (.iload_n 2, 1) := by decide +kernel
theorem dX6_pinned_64 : decode cX6_pinned 64 = .ok (.iload_n 3, 1) := by decide +kernel
theorem dX6_pinned_65 : decode cX6_pinned 65 = .ok (.iconst 0, 1) := by decide +kernel
theorem dX6_pinned_66 : decode cX6_pinned 66 = .ok (.invokevirtual 239, 3) := by decide +kernel
theorem dX6_pinned_69 : decode cX6_pinned 69 = .ok (.istore 5, 2) := by decide +kernel
theorem dX6_pinned_71 : decode cX6_pinned 71 = .ok (.iload 5, 2) := by decide +kernel
theorem dX6_pinned_73 : decode cX6_pinned 73 = .ok (.iconst (-1), 1) := by decide +kernel
theorem dX6_pinned_74 : decode cX6_pinned 74 = .ok (.if_icmp .eq 28, 3) := by decide +kernel
theorem dX6_pinned_77 : decode cX6_pinned 77 = .ok (.iload 4, 2) := by decide +kernel
theorem dX6_pinned_79 : decode cX6_pinned 79 = .ok (.ifCond .ne 7, 3) := by decide +kernel
theorem dX6_pinned_82 : decode cX6_pinned 82 = .ok (.iconst 1, 1) := by decide +kernel
theorem dX6_pinned_83 : decode cX6_pinned 83 = .ok (.goto 18, 3) := by decide +kernel
theorem dX6_pinned_86 : decode cX6_pinned 86 = .ok (.iload 4, 2) := by decide +kernel
theorem dX6_pinned_88 : decode cX6_pinned 88 = .ok (.iconst 1, 1) := by decide +kernel
theorem dX6_pinned_89 : decode cX6_pinned 89 = .ok (.if_icmp .ne 11, 3) := by decide +kernel
theorem dX6_pinned_92 : decode cX6_pinned 92 = .ok (.iload 5, 2) := by decide +kernel
theorem dX6_pinned_94 : decode cX6_pinned 94 = .ok (.bipush 100, 2) := by decide +kernel
theorem dX6_pinned_96 : decode cX6_pinned 96 = .ok (.idiv, 1) := by decide +kernel
theorem dX6_pinned_97 : decode cX6_pinned 97 = .ok (.goto 4, 3) := by decide +kernel
theorem dX6_pinned_100 : decode cX6_pinned 100 = .ok (.iconst (-1), 1) := by decide +kernel
theorem dX6_pinned_101 : decode cX6_pinned 101 = .ok (.ireturn, 1) := by decide +kernel
theorem dX6_pinned_102 : decode cX6_pinned 102 = .ok (.aload_n 0, 1) := by decide +kernel
theorem dX6_pinned_103 : decode cX6_pinned 103 = .ok (.iload_n 1, 1) := by decide +kernel
theorem dX6_pinned_104 : decode cX6_pinned 104 = .ok (.iload_n 2, 1) := by decide +kernel
theorem dX6_pinned_105 : decode cX6_pinned 105 = .ok (.iload_n 3, 1) := by decide +kernel
theorem dX6_pinned_106 : decode cX6_pinned 106 = .ok (.iconst 1, 1) := by decide +kernel
theorem dX6_pinned_107 : decode cX6_pinned 107 = .ok (.invokevirtual 239, 3) := by decide +kernel
theorem dX6_pinned_110 : decode cX6_pinned 110 = .ok (.istore 6, 2) := by decide +kernel
theorem dX6_pinned_112 : decode cX6_pinned 112 = .ok (.iload 6, 2) := by decide +kernel
theorem dX6_pinned_114 : decode cX6_pinned 114 = .ok (.iconst (-1), 1) := by decide +kernel
theorem dX6_pinned_115 : decode cX6_pinned 115 = .ok (.if_icmp .ne 7, 3) := by decide +kernel
theorem dX6_pinned_118 : decode cX6_pinned 118 = .ok (.iconst (-1), 1) := by decide +kernel
theorem dX6_pinned_119 : decode cX6_pinned 119 = .ok (.goto 31, 3) := by decide +kernel
theorem dX6_pinned_122 : decode cX6_pinned 122 = .ok (.iload 4, 2) := by decide +kernel
theorem dX6_pinned_124 : decode cX6_pinned 124 = .ok (.ifCond .ne 7, 3) := by decide +kernel
theorem dX6_pinned_127 : decode cX6_pinned 127 = .ok (.iconst 2, 1) := by decide +kernel
theorem dX6_pinned_128 : decode cX6_pinned 128 = .ok (.goto 22, 3) := by decide +kernel
theorem dX6_pinned_131 : decode cX6_pinned 131 = .ok (.iload 4, 2) := by decide +kernel
theorem dX6_pinned_133 : decode cX6_pinned 133 = .ok (.iconst 1, 1) := by decide +kernel
theorem dX6_pinned_134 : decode cX6_pinned 134 = .ok (.if_icmp .ne 11, 3) := by decide +kernel
theorem dX6_pinned_137 : decode cX6_pinned 137 = .ok (.iload 6, 2) := by decide +kernel
theorem dX6_pinned_139 : decode cX6_pinned 139 = .ok (.bipush 100, 2) := by decide +kernel
theorem dX6_pinned_141 : decode cX6_pinned 141 = .ok (.idiv, 1) := by decide +kernel
theorem dX6_pinned_142 : decode cX6_pinned 142 = .ok (.goto 8, 3) := by decide +kernel
theorem dX6_pinned_145 : decode cX6_pinned 145 = .ok (.iload 6, 2) := by decide +kernel
theorem dX6_pinned_147 : decode cX6_pinned 147 = .ok (.bipush 100, 2) := by decide +kernel
theorem dX6_pinned_149 : decode cX6_pinned 149 = .ok (.irem, 1) := by decide +kernel
theorem dX6_pinned_150 : decode cX6_pinned 150 = .ok (.ireturn, 1) := by decide +kernel
theorem dX6_mending_0 : decode cX6_mending 0 = .ok (.iload_n 1, 1) := by decide +kernel
theorem dX6_mending_1 : decode cX6_mending 1 = .ok (.invokestatic 155, 3) := by decide +kernel
theorem dX6_mending_4 : decode cX6_mending 4 = .ok (.ifCond .ne 6, 3) := by decide +kernel
theorem dX6_mending_7 : decode cX6_mending 7 = .ok (.bipush (-5), 2) := by decide +kernel
theorem dX6_mending_9 : decode cX6_mending 9 = .ok (.ireturn, 1) := by decide +kernel
theorem dX6_mending_10 : decode cX6_mending 10 = .ok (.iload_n 2, 1) := by decide +kernel
theorem dX6_mending_11 : decode cX6_mending 11 = .ok (.invokestatic 158, 3) := by decide +kernel
theorem dX6_mending_14 : decode cX6_mending 14 = .ok (.ifCond .eq 12, 3) := by decide +kernel
theorem dX6_mending_17 : decode cX6_mending 17 = .ok (.iload_n 3, 1) := by decide +kernel
theorem dX6_mending_18 : decode cX6_mending 18 = .ok (.iconst 0, 1) := by decide +kernel
theorem dX6_mending_19 : decode cX6_mending 19 = .ok (.iconst 1, 1) := by decide +kernel
theorem dX6_mending_20 : decode cX6_mending 20 = .ok (.invokestatic 69, 3) := by decide +kernel
theorem dX6_mending_23 : decode cX6_mending 23 = .ok (.ifCond .ne 6, 3) := by decide +kernel
theorem dX6_mending_26 : decode cX6_mending 26 = .ok (.bipush (-7), 2) := by decide +kernel
theorem dX6_mending_28 : decode cX6_mending 28 = .ok (.ireturn, 1) := by decide +kernel
theorem dX6_mending_29 : decode cX6_mending 29 = .ok (.aload_n 0, 1) := by decide +kernel
theorem dX6_mending_30 : decode cX6_mending 30 = .ok (.iload_n 1, 1) := by decide +kernel
theorem dX6_mending_31 : decode cX6_mending 31 = .ok (.iload_n 2, 1) := by decide +kernel
theorem dX6_mending_32 : decode cX6_mending 32 = .ok (.invokevirtual 213, 3) := by decide +kernel
theorem dX6_mending_35 : decode cX6_mending 35 = .ok (.aload_n 0, 1) := by decide +kernel
theorem dX6_mending_36 : decode cX6_mending 36 = .ok (.getfield 202, 3) := by decide +kernel
theorem dX6_mending_39 : decode cX6_mending 39 = .ok (.ifCond .ne 13, 3) := by decide +kernel
theorem dX6_mending_42 : decode cX6_mending 42 = .ok (.iload_n 3, 1) := by decide +kernel
theorem dX6_mending_43 : decode cX6_mending 43 = .ok (.ifCond .ne 7, 3) := by decide +kernel
theorem dX6_mending_46 : decode cX6_mending 46 = .ok (.iconst (-1), 1) := by decide +kernel
theorem dX6_mending_47 : decode cX6_mending 47 = .ok (.goto 4, 3) := by decide +kernel
theorem dX6_mending_50 : decode cX6_mending 50 = .ok (.iconst 0, 1) := by decide +kernel
theorem dX6_mending_51 : decode cX6_mending 51 = .ok (.ireturn, 1) := by decide +kernel
theorem dX6_mending_52 : decode cX6_mending 52 = .ok (.aload_n 0, 1) := by decide +kernel
theorem dX6_mending_53 : decode cX6_mending 53 = .ok (.iconst 1, 1) := by decide +kernel
theorem dX6_mending_54 : decode cX6_mending 54 = .ok (.invokevirtual 220, 3) := by decide +kernel
theorem dX6_mending_57 : decode cX6_mending 57 = .ok (.istore 4, 2) := by decide +kernel
theorem dX6_mending_59 : decode cX6_mending 59 = .ok (.iconst 0, 1) := by decide +kernel
theorem dX6_mending_60 : decode cX6_mending 60 = .ok (.istore 5, 2) := by decide +kernel
theorem dX6_mending_62 : decode cX6_mending 62 = .ok (.bipush 24, 2) := by decide +kernel
theorem dX6_mending_64 : decode cX6_mending 64 = .ok (.bipush 8, 2) := by decide +kernel
theorem dX6_mending_66 : decode cX6_mending 66 = .ok (.aload_n 0, 1) := by decide +kernel
theorem dX6_mending_67 : decode cX6_mending 67 = .ok (.invokevirtual 217, 3) := by decide +kernel
theorem dX6_mending_70 : decode cX6_mending 70 = .ok (.isub, 1) := by decide +kernel
theorem dX6_mending_71 : decode cX6_mending 71 = .ok (.imul, 1) := by decide +kernel
theorem dX6_mending_72 : decode cX6_mending 72 = .ok (.istore 6, 2) := by decide +kernel
theorem dX6_mending_74 : decode cX6_mending 74 = .ok (.iload 6, 2) := by decide +kernel
theorem dX6_mending_76 : decode cX6_mending 76 = .ok (.iload 4, 2) := by decide +kernel
theorem dX6_mending_78 : decode cX6_mending 78 = .ok (.if_icmp .ge 7, 3) := by decide +kernel
theorem dX6_mending_81 : decode cX6_mending 81 = .ok (.iconst 1, 1) := by decide +kernel
theorem dX6_mending_82 : decode cX6_mending 82 = .ok (.goto 5, 3) := by decide +kernel
theorem dX6_mending_85 : decode cX6_mending 85 = .ok (.iload 5, 2) := by decide +kernel
theorem dX6_mending_87 : decode cX6_mending 87 = .ok (.istore 5, 2) := by decide +kernel
theorem dX6_mending_89 : decode cX6_mending 89 = .ok (.iload 6, 2) := by decide +kernel
theorem dX6_mending_91 : decode cX6_mending 91 = .ok (.iload 4, 2) := by decide +kernel
theorem dX6_mending_93 : decode cX6_mending 93 = .ok (.if_icmp .ge 8, 3) := by decide +kernel
theorem dX6_mending_96 : decode cX6_mending 96 = .ok (.iload 6, 2) := by decide +kernel
theorem dX6_mending_98 : decode cX6_mending 98 = .ok (.goto 5, 3) := by decide +kernel
theorem dX6_mending_101 : decode cX6_mending 101 = .ok (.iload 4, 2) := by decide +kernel
theorem dX6_mending_103 : decode cX6_mending 103 = .ok (.istore 4, 2) := by decide +kernel
theorem dX6_mending_105 : decode cX6_mending 105 = .ok (.bipush 50, 2) := by decide +kernel
theorem dX6_mending_107 : decode cX6_mending 107 = .ok (.aload_n 0, 1) := by decide +kernel
theorem dX6_mending_108 : decode cX6_mending 108 = .ok (.getfield 202, 3) := by decide +kernel
theorem dX6_mending_111 : decode cX6_mending 111 = .ok (.iadd, 1) := by decide +kernel
theorem dX6_mending_112 : decode cX6_mending 112 = .ok (.iload 4, 2) := by decide +kernel
theorem dX6_mending_114 : decode cX6_mending 114 = .ok (.if_icmp .ge 7, 3) := by decide +kernel
theorem dX6_mending_117 : decode cX6_mending 117 = .ok (.iconst 2, 1) := by decide +kernel
theorem dX6_mending_118 : decode cX6_mending 118 = .ok (.goto 5, 3) := by decide +kernel
theorem dX6_mending_121 : decode cX6_mending 121 = .ok (.iload 5, 2) := by decide +kernel
theorem dX6_mending_123 : decode cX6_mending 123 = .ok (.istore 5, 2) := by decide +kernel
theorem dX6_mending_125 : decode cX6_mending 125 = .ok (.bipush 50, 2) := by decide +kernel
theorem dX6_mending_127 : decode cX6_mending 127 = .ok (.aload_n 0, 1) := by decide +kernel
theorem dX6_mending_128 : decode cX6_mending 128 = .ok (.getfield 202, 3) := by decide +kernel
theorem dX6_mending_131 : decode cX6_mending 131 = .ok (.iadd, 1) := by decide +kernel
theorem dX6_mending_132 : decode cX6_mending 132 = .ok (.iload 4, 2) := by decide +kernel
theorem dX6_mending_134 : decode cX6_mending 134 = .ok (.if_icmp .ge 13, 3) := by decide +kernel
theorem dX6_mending_137 : decode cX6_mending 137 = .ok (.bipush 50, 2) := by decide +kernel
theorem dX6_mending_139 : decode cX6_mending 139 = .ok (.aload_n 0, 1) := by decide +kernel
theorem dX6_mending_140 : decode cX6_mending 140 = .ok (.getfield 202, 3) := by decide +kernel
theorem dX6_mending_143 : decode cX6_mending 143 = .ok (.iadd, 1) := by decide +kernel
theorem dX6_mending_144 : decode cX6_mending 144 = .ok (.goto 5, 3) := by decide +kernel
theorem dX6_mending_147 : decode cX6_mending 147 = .ok (.iload 4, 2) := by decide +kernel
theorem dX6_mending_149 : decode cX6_mending 149 = .ok (.istore 4, 2) := by decide +kernel
theorem dX6_mending_151 : decode cX6_mending 151 = .ok (.iload_n 3, 1) := by decide +kernel
theorem dX6_mending_152 : decode cX6_mending 152 = .ok (.ifCond .ne 8, 3) := by decide +kernel
theorem dX6_mending_155 : decode cX6_mending 155 = .ok (.iload 5, 2) := by decide +kernel
theorem dX6_mending_157 : decode cX6_mending 157 = .ok (.goto 5, 3) := by decide +kernel
theorem dX6_mending_160 : decode cX6_mending 160 = .ok (.iload 4, 2) := by decide +kernel
theorem dX6_mending_162 : decode cX6_mending 162 = .ok (.ireturn, 1) := by decide +kernel
theorem dX6_mend_0 : decode cX6_mend 0 = .ok (.iload_n 1, 1) := by decide +kernel
theorem dX6_mend_1 : decode cX6_mend 1 = .ok (.invokestatic 155, 3) := by decide +kernel
theorem dX6_mend_4 : decode cX6_mend 4 = .ok (.ifCond .ne 6, 3) := by decide +kernel
theorem dX6_mend_7 : decode cX6_mend 7 = .ok (.bipush (-5), 2) := by decide +kernel
theorem dX6_mend_9 : decode cX6_mend 9 = .ok (.ireturn, 1) := by decide +kernel
theorem dX6_mend_10 : decode cX6_mend 10 = .ok (.iload_n 2, 1) := by decide +kernel
theorem dX6_mend_11 : decode cX6_mend 11 = .ok (.invokestatic 158, 3) := by decide +kernel
theorem dX6_mend_14 : decode cX6_mend 14 = .ok (.ifCond .ne 6, 3) := by decide +kernel
theorem dX6_mend_17 : decode cX6_mend 17 = .ok (.bipush (-7), 2) := by decide +kernel
theorem dX6_mend_19 : decode cX6_mend 19 = .ok (.ireturn, 1) := by decide +kernel
theorem dX6_mend_20 : decode cX6_mend 20 = .ok (.aload_n 0, 1) := by decide +kernel
theorem dX6_mend_21 : decode cX6_mend 21 = .ok (.iload_n 1, 1) := by decide +kernel
theorem dX6_mend_22 : decode cX6_mend 22 = .ok (.iload_n 2, 1) := by decide +kernel
theorem dX6_mend_23 : decode cX6_mend 23 = .ok (.invokevirtual 213, 3) := by decide +kernel
theorem dX6_mend_26 : decode cX6_mend 26 = .ok (.iconst 0, 1) := by decide +kernel
theorem dX6_mend_27 : decode cX6_mend 27 = .ok (.istore_n 3, 1) := by decide +kernel
theorem dX6_mend_28 : decode cX6_mend 28 = .ok (.iconst 0, 1) := by decide +kernel
theorem dX6_mend_29 : decode cX6_mend 29 = .ok (.istore 4, 2) := by decide +kernel
theorem dX6_mend_31 : decode cX6_mend 31 = .ok (.iload 4, 2) := by decide +kernel
theorem dX6_mend_33 : decode cX6_mend 33 = .ok (.bipush 48, 2) := by decide +kernel
theorem dX6_mend_35 : decode cX6_mend 35 = .ok (.if_icmp .ge 67, 3) := by decide +kernel
theorem dX6_mend_38 : decode cX6_mend 38 = .ok (.iload_n 3, 1) := by decide +kernel
theorem dX6_mend_39 : decode cX6_mend 39 = .ok (.aload_n 0, 1) := by decide +kernel
theorem dX6_mend_40 : decode cX6_mend 40 = .ok (.getfield 58, 3) := by decide +kernel
theorem dX6_mend_43 : decode cX6_mend 43 = .ok (.iload 4, 2) := by decide +kernel
theorem dX6_mend_45 : decode cX6_mend 45 = .ok (.iaload, 1) := by decide +kernel
theorem dX6_mend_46 : decode cX6_mend 46 = .ok (.iconst (-1), 1) := by decide +kernel
theorem dX6_mend_47 : decode cX6_mend 47 = .ok (.if_icmp .eq 17, 3) := by decide +kernel
theorem dX6_mend_50 : decode cX6_mend 50 = .ok (.aload_n 0, 1) := by decide +kernel
theorem dX6_mend_51 : decode cX6_mend 51 = .ok (.getfield 19, 3) := by decide +kernel
theorem dX6_mend_54 : decode cX6_mend 54 = .ok (.iload 4, 2) := by decide +kernel
theorem dX6_mend_56 : decode cX6_mend 56 = .ok (.iaload, 1) := by decide +kernel
theorem dX6_mend_57 : decode cX6_mend 57 = .ok (.ifCond .ne 7, 3) := by decide +kernel
theorem dX6_mend_60 : decode cX6_mend 60 = .ok (.iconst 1, 1) := by decide +kernel
theorem dX6_mend_61 : decode cX6_mend 61 = .ok (.goto 4, 3) := by decide +kernel
theorem dX6_mend_64 : decode cX6_mend 64 = .ok (.iconst 0, 1) := by decide +kernel
theorem dX6_mend_65 : decode cX6_mend 65 = .ok (.iadd, 1) := by decide +kernel
theorem dX6_mend_66 : decode cX6_mend 66 = .ok (.istore_n 3, 1) := by decide +kernel
theorem dX6_mend_67 : decode cX6_mend 67 = .ok (.aload_n 0, 1) := by decide +kernel
theorem dX6_mend_68 : decode cX6_mend 68 = .ok (.getfield 19, 3) := by decide +kernel
theorem dX6_mend_71 : decode cX6_mend 71 = .ok (.iload 4, 2) := by decide +kernel
theorem dX6_mend_73 : decode cX6_mend 73 = .ok (.aload_n 0, 1) := by decide +kernel
theorem dX6_mend_74 : decode cX6_mend 74 = .ok (.getfield 58, 3) := by decide +kernel
theorem dX6_mend_77 : decode cX6_mend 77 = .ok (.iload 4, 2) := by decide +kernel
theorem dX6_mend_79 : decode cX6_mend 79 = .ok (.iaload, 1) := by decide +kernel
theorem dX6_mend_80 : decode cX6_mend 80 = .ok (.iconst (-1), 1) := by decide +kernel
theorem dX6_mend_81 : decode cX6_mend 81 = .ok (.if_icmp .eq 7, 3) := by decide +kernel
theorem dX6_mend_84 : decode cX6_mend 84 = .ok (.iconst 1, 1) := by decide +kernel
theorem dX6_mend_85 : decode cX6_mend 85 = .ok (.goto 10, 3) := by decide +kernel
theorem dX6_mend_88 : decode cX6_mend 88 = .ok (.aload_n 0, 1) := by decide +kernel
theorem dX6_mend_89 : decode cX6_mend 89 = .ok (.getfield 19, 3) := by decide +kernel
theorem dX6_mend_92 : decode cX6_mend 92 = .ok (.iload 4, 2) := by decide +kernel
theorem dX6_mend_94 : decode cX6_mend 94 = .ok (.iaload, 1) := by decide +kernel
theorem dX6_mend_95 : decode cX6_mend 95 = .ok (.iastore, 1) := by decide +kernel
theorem dX6_mend_96 : decode cX6_mend 96 = .ok (.iinc 4 1, 3) := by decide +kernel
theorem dX6_mend_99 : decode cX6_mend 99 = .ok (.goto (-68), 3) := by decide +kernel
theorem dX6_mend_102 : decode cX6_mend 102 = .ok (.iload_n 3, 1) := by decide +kernel
theorem dX6_mend_103 : decode cX6_mend 103 = .ok (.ireturn, 1) := by decide +kernel
theorem dX6_block_0 : decode cX6_block 0 = .ok (.aload_n 0, 1) := by decide +kernel
theorem dX6_block_1 : decode cX6_block 1 = .ok (.iconst 1, 1) := by decide +kernel
theorem dX6_block_2 : decode cX6_block 2 = .ok (.invokevirtual 73, 3) := by decide +kernel
theorem dX6_block_5 : decode cX6_block 5 = .ok (.istore_n 1, 1) := by decide +kernel
theorem dX6_block_6 : decode cX6_block 6 = .ok (.iconst 0, 1) := by decide +kernel
theorem dX6_block_7 : decode cX6_block 7 = .ok (.istore_n 2, 1) := by decide +kernel
theorem dX6_block_8 : decode cX6_block 8 = .ok (.iload_n 2, 1) := by decide +kernel
theorem dX6_block_9 : decode cX6_block 9 = .ok (.bipush 48, 2) := by decide +kernel
theorem dX6_block_11 : decode cX6_block 11 = .ok (.if_icmp .ge 16, 3) := by decide +kernel
theorem dX6_block_14 : decode cX6_block 14 = .ok (.aload_n 0, 1) := by decide +kernel
theorem dX6_block_15 : decode cX6_block 15 = .ok (.getfield 19, 3) := by decide +kernel
theorem dX6_block_18 : decode cX6_block 18 = .ok (.iload_n 2, 1) := by decide +kernel
theorem dX6_block_19 : decode cX6_block 19 = .ok (.iconst 0, 1) := by decide +kernel
theorem dX6_block_20 : decode cX6_block 20 = .ok (.iastore, 1) := by decide +kernel
theorem dX6_block_21 : decode cX6_block 21 = .ok (.iinc 2 1, 3) := by decide +kernel
theorem dX6_block_24 : decode cX6_block 24 = .ok (.goto (-16), 3) := by decide +kernel
theorem dX6_block_27 : decode cX6_block 27 = .ok (.iload_n 1, 1) := by decide +kernel
theorem dX6_block_28 : decode cX6_block 28 = .ok (.ireturn, 1) := by decide +kernel
theorem dX6_seen_0 : decode cX6_seen 0 = .ok (.lconst 0, 1) := by decide +kernel
theorem dX6_seen_1 : decode cX6_seen 1 = .ok (.lstore_n 1, 1) := by decide +kernel
theorem dX6_seen_2 : decode cX6_seen 2 = .ok (.iconst 0, 1) := by decide +kernel
theorem dX6_seen_3 : decode cX6_seen 3 = .ok (.istore_n 3, 1) := by decide +kernel
theorem dX6_seen_4 : decode cX6_seen 4 = .ok (.iload_n 3, 1) := by decide +kernel
theorem dX6_seen_5 : decode cX6_seen 5 = .ok (.bipush 48, 2) := by decide +kernel
theorem dX6_seen_7 : decode cX6_seen 7 = .ok (.if_icmp .ge 114, 3) := by decide +kernel
theorem dX6_seen_10 : decode cX6_seen 10 = .ok (.iload_n 3, 1) := by decide +kernel
theorem dX6_seen_11 : decode cX6_seen 11 = .ok (.bipush 6, 2) := by decide +kernel
theorem dX6_seen_13 : decode cX6_seen 13 = .ok (.irem, 1) := by decide +kernel
theorem dX6_seen_14 : decode cX6_seen 14 = .ok (.ifCond .eq 26, 3) := by decide +kernel
theorem dX6_seen_17 : decode cX6_seen 17 = .ok (.aload_n 0, 1) := by decide +kernel
theorem dX6_seen_18 : decode cX6_seen 18 = .ok (.getfield 7, 3) := by decide +kernel
theorem dX6_seen_21 : decode cX6_seen 21 = .ok (.iload_n 3, 1) := by decide +kernel
theorem dX6_seen_22 : decode cX6_seen 22 = .ok (.iconst 1, 1) := by decide +kernel
theorem dX6_seen_23 : decode cX6_seen 23 = .ok (.isub, 1) := by decide +kernel
theorem dX6_seen_24 : decode cX6_seen 24 = .ok (.iaload, 1) := by decide +kernel
theorem dX6_seen_25 : decode cX6_seen 25 = .ok (.invokestatic 146, 3) := by decide +kernel
theorem dX6_seen_28 : decode cX6_seen 28 = .ok (.aload_n 0, 1) := by decide +kernel
theorem dX6_seen_29 : decode cX6_seen 29 = .ok (.getfield 7, 3) := by decide +kernel
theorem dX6_seen_32 : decode cX6_seen 32 = .ok (.iload_n 3, 1) := by decide +kernel
theorem dX6_seen_33 : decode cX6_seen 33 = .ok (.iaload, 1) := by decide +kernel
theorem dX6_seen_34 : decode cX6_seen 34 = .ok (.invokestatic 146, 3) := by decide +kernel
theorem dX6_seen_37 : decode cX6_seen 37 = .ok (.if_icmp .eq 7, 3) := by decide +kernel
theorem dX6_seen_40 : decode cX6_seen 40 = .ok (.iconst 1, 1) := by decide +kernel
theorem dX6_seen_41 : decode cX6_seen 41 = .ok (.goto 4, 3) := by decide +kernel
theorem dX6_seen_44 : decode cX6_seen 44 = .ok (.iconst 0, 1) := by decide +kernel
theorem dX6_seen_45 : decode cX6_seen 45 = .ok (.istore 4, 2) := by decide +kernel
theorem dX6_seen_47 : decode cX6_seen 47 = .ok (.iload_n 3, 1) := by decide +kernel
theorem dX6_seen_48 : decode cX6_seen 48 = .ok (.bipush 6, 2) := by decide +kernel
theorem dX6_seen_50 : decode cX6_seen 50 = .ok (.irem, 1) := by decide +kernel
theorem dX6_seen_51 : decode cX6_seen 51 = .ok (.iconst 5, 1) := by decide +kernel
theorem dX6_seen_52 : decode cX6_seen 52 = .ok (.if_icmp .eq 26, 3) := by decide +kernel
theorem dX6_seen_55 : decode cX6_seen 55 = .ok (.aload_n 0, 1) := by decide +kernel
theorem dX6_seen_56 : decode cX6_seen 56 = .ok (.getfield 7, 3) := by decide +kernel
theorem dX6_seen_59 : decode cX6_seen 59 = .ok (.iload_n 3, 1) := by decide +kernel
theorem dX6_seen_60 : decode cX6_seen 60 = .ok (.iconst 1, 1) := by decide +kernel
theorem dX6_seen_61 : decode cX6_seen 61 = .ok (.iadd, 1) := by decide +kernel
theorem dX6_seen_62 : decode cX6_seen 62 = .ok (.iaload, 1) := by decide +kernel
theorem dX6_seen_63 : decode cX6_seen 63 = .ok (.invokestatic 146, 3) := by decide +kernel
theorem dX6_seen_66 : decode cX6_seen 66 = .ok (.aload_n 0, 1) := by decide +kernel
theorem dX6_seen_67 : decode cX6_seen 67 = .ok (.getfield 7, 3) := by decide +kernel
theorem dX6_seen_70 : decode cX6_seen 70 = .ok (.iload_n 3, 1) := by decide +kernel
theorem dX6_seen_71 : decode cX6_seen 71 = .ok (.iaload, 1) := by decide +kernel
theorem dX6_seen_72 : decode cX6_seen 72 = .ok (.invokestatic 146, 3) := by decide +kernel
theorem dX6_seen_75 : decode cX6_seen 75 = .ok (.if_icmp .eq 7, 3) := by decide +kernel
theorem dX6_seen_78 : decode cX6_seen 78 = .ok (.iconst 1, 1) := by decide +kernel
theorem dX6_seen_79 : decode cX6_seen 79 = .ok (.goto 4, 3) := by decide +kernel
theorem dX6_seen_82 : decode cX6_seen 82 = .ok (.iconst 0, 1) := by decide +kernel
theorem dX6_seen_83 : decode cX6_seen 83 = .ok (.istore 5, 2) := by decide +kernel
theorem dX6_seen_85 : decode cX6_seen 85 = .ok (.lload_n 1, 1) := by decide +kernel
theorem dX6_seen_86 : decode cX6_seen 86 = .ok (.aload_n 0, 1) := by decide +kernel
theorem dX6_seen_87 : decode cX6_seen 87 = .ok (.getfield 19, 3) := by decide +kernel
theorem dX6_seen_90 : decode cX6_seen 90 = .ok (.iload_n 3, 1) := by decide +kernel
theorem dX6_seen_91 : decode cX6_seen 91 = .ok (.iaload, 1) := by decide +kernel
theorem dX6_seen_92 : decode cX6_seen 92 = .ok (.iconst 1, 1) := by decide +kernel
theorem dX6_seen_93 : decode cX6_seen 93 = .ok (.if_icmp .ne 19, 3) := by decide +kernel
theorem dX6_seen_96 : decode cX6_seen 96 = .ok (.iload 4, 2) := by decide +kernel
theorem dX6_seen_98 : decode cX6_seen 98 = .ok (.ifCond .eq 14, 3) := by decide +kernel
theorem dX6_seen_101 : decode cX6_seen 101 = .ok (.iload 5, 2) := by decide +kernel
theorem dX6_seen_103 : decode cX6_seen 103 = .ok (.ifCond .eq 9, 3) := by decide +kernel
theorem dX6_seen_106 : decode cX6_seen 106 = .ok (.lconst 1, 1) := by decide +kernel
theorem dX6_seen_107 : decode cX6_seen 107 = .ok (.iload_n 3, 1) := by decide +kernel
theorem dX6_seen_108 : decode cX6_seen 108 = .ok (.lshl, 1) := by decide +kernel
theorem dX6_seen_109 : decode cX6_seen 109 = .ok (.goto 4, 3) := by decide +kernel
theorem dX6_seen_112 : decode cX6_seen 112 = .ok (.lconst 0, 1) := by decide +kernel
theorem dX6_seen_113 : decode cX6_seen 113 = .ok (.lor, 1) := by decide +kernel
theorem dX6_seen_114 : decode cX6_seen 114 = .ok (.lstore_n 1, 1) := by decide +kernel
theorem dX6_seen_115 : decode cX6_seen 115 = .ok (.iinc 3 1, 3) := by decide +kernel
theorem dX6_seen_118 : decode cX6_seen 118 = .ok (.goto (-114), 3) := by decide +kernel
theorem dX6_seen_121 : decode cX6_seen 121 = .ok (.lload_n 1, 1) := by decide +kernel
theorem dX6_seen_122 : decode cX6_seen 122 = .ok (.lreturn, 1) := by decide +kernel
theorem dX6_slack_0 : decode cX6_slack 0 = .ok (.iload_n 1, 1) := by decide +kernel
theorem dX6_slack_1 : decode cX6_slack 1 = .ok (.invokestatic 155, 3) := by decide +kernel
theorem dX6_slack_4 : decode cX6_slack 4 = .ok (.ifCond .ne 6, 3) := by decide +kernel
theorem dX6_slack_7 : decode cX6_slack 7 = .ok (.bipush (-5), 2) := by decide +kernel
theorem dX6_slack_9 : decode cX6_slack 9 = .ok (.ireturn, 1) := by decide +kernel
theorem dX6_slack_10 : decode cX6_slack 10 = .ok (.iload_n 2, 1) := by decide +kernel
theorem dX6_slack_11 : decode cX6_slack 11 = .ok (.invokestatic 158, 3) := by decide +kernel
theorem dX6_slack_14 : decode cX6_slack 14 = .ok (.ifCond .ne 6, 3) := by decide +kernel
theorem dX6_slack_17 : decode cX6_slack 17 = .ok (.bipush (-7), 2) := by decide +kernel
theorem dX6_slack_19 : decode cX6_slack 19 = .ok (.ireturn, 1) := by decide +kernel
theorem dX6_slack_20 : decode cX6_slack 20 = .ok (.iconst 0, 1) := by decide +kernel
theorem dX6_slack_21 : decode cX6_slack 21 = .ok (.istore_n 3, 1) := by decide +kernel
theorem dX6_slack_22 : decode cX6_slack 22 = .ok (.iconst 0, 1) := by decide +kernel
theorem dX6_slack_23 : decode cX6_slack 23 = .ok (.istore 4, 2) := by decide +kernel
theorem dX6_slack_25 : decode cX6_slack 25 = .ok (.iconst 1, 1) := by decide +kernel
theorem dX6_slack_26 : decode cX6_slack 26 = .ok (.istore 5, 2) := by decide +kernel
theorem dX6_slack_28 : decode cX6_slack 28 = .ok (.iload 5, 2) := by decide +kernel
theorem dX6_slack_30 : decode cX6_slack 30 = .ok (.bipush 6, 2) := by decide +kernel
theorem dX6_slack_32 : decode cX6_slack 32 = .ok (.if_icmp .ge 71, 3) := by decide +kernel
theorem dX6_slack_35 : decode cX6_slack 35 = .ok (.iload_n 3, 1) := by decide +kernel
theorem dX6_slack_36 : decode cX6_slack 36 = .ok (.iload_n 2, 1) := by decide +kernel
theorem dX6_slack_37 : decode cX6_slack 37 = .ok (.if_icmp .ge 66, 3) := by decide +kernel
theorem dX6_slack_40 : decode cX6_slack 40 = .ok (.iload_n 1, 1) := by decide +kernel
theorem dX6_slack_41 : decode cX6_slack 41 = .ok (.bipush 6, 2) := by decide +kernel
theorem dX6_slack_43 : decode cX6_slack 43 = .ok (.irem, 1) := by decide +kernel
theorem dX6_slack_44 : decode cX6_slack 44 = .ok (.iload 5, 2) := by decide +kernel
theorem dX6_slack_46 : decode cX6_slack 46 = .ok (.isub, 1) := by decide +kernel
theorem dX6_slack_47 : decode cX6_slack 47 = .ok (.ifCond .lt 18, 3) := by decide +kernel
theorem dX6_slack_50 : decode cX6_slack 50 = .ok (.iload_n 3, 1) := by decide +kernel
theorem dX6_slack_51 : decode cX6_slack 51 = .ok (.aload_n 0, 1) := by decide +kernel
theorem dX6_slack_52 : decode cX6_slack 52 = .ok (.getfield 13, 3) := by decide +kernel
theorem dX6_slack_55 : decode cX6_slack 55 = .ok (.iload_n 1, 1) := by decide +kernel
theorem dX6_slack_56 : decode cX6_slack 56 = .ok (.iload 5, 2) := by decide +kernel
theorem dX6_slack_58 : decode cX6_slack 58 = .ok (.isub, 1) := by decide +kernel
theorem dX6_slack_59 : decode cX6_slack 59 = .ok (.iaload, 1) := by decide +kernel
theorem dX6_slack_60 : decode cX6_slack 60 = .ok (.iadd, 1) := by decide +kernel
theorem dX6_slack_61 : decode cX6_slack 61 = .ok (.istore_n 3, 1) := by decide +kernel
theorem dX6_slack_62 : decode cX6_slack 62 = .ok (.iinc 4 1, 3) := by decide +kernel
theorem dX6_slack_65 : decode cX6_slack 65 = .ok (.iload_n 1, 1) := by decide +kernel
theorem dX6_slack_66 : decode cX6_slack 66 = .ok (.bipush 6, 2) := by decide +kernel
theorem dX6_slack_68 : decode cX6_slack 68 = .ok (.irem, 1) := by decide +kernel
theorem dX6_slack_69 : decode cX6_slack 69 = .ok (.iload 5, 2) := by decide +kernel
theorem dX6_slack_71 : decode cX6_slack 71 = .ok (.iadd, 1) := by decide +kernel
theorem dX6_slack_72 : decode cX6_slack 72 = .ok (.bipush 6, 2) := by decide +kernel
theorem dX6_slack_74 : decode cX6_slack 74 = .ok (.if_icmp .ge 23, 3) := by decide +kernel
theorem dX6_slack_77 : decode cX6_slack 77 = .ok (.iload_n 3, 1) := by decide +kernel
theorem dX6_slack_78 : decode cX6_slack 78 = .ok (.iload_n 2, 1) := by decide +kernel
theorem dX6_slack_79 : decode cX6_slack 79 = .ok (.if_icmp .ge 18, 3) := by decide +kernel
theorem dX6_slack_82 : decode cX6_slack 82 = .ok (.iload_n 3, 1) := by decide +kernel
theorem dX6_slack_83 : decode cX6_slack 83 = .ok (.aload_n 0, 1) := by decide +kernel
theorem dX6_slack_84 : decode cX6_slack 84 = .ok (.getfield 13, 3) := by decide +kernel
theorem dX6_slack_87 : decode cX6_slack 87 = .ok (.iload_n 1, 1) := by decide +kernel
theorem dX6_slack_88 : decode cX6_slack 88 = .ok (.iload 5, 2) := by decide +kernel
theorem dX6_slack_90 : decode cX6_slack 90 = .ok (.iadd, 1) := by decide +kernel
theorem dX6_slack_91 : decode cX6_slack 91 = .ok (.iaload, 1) := by decide +kernel
theorem dX6_slack_92 : decode cX6_slack 92 = .ok (.iadd, 1) := by decide +kernel
theorem dX6_slack_93 : decode cX6_slack 93 = .ok (.istore_n 3, 1) := by decide +kernel
theorem dX6_slack_94 : decode cX6_slack 94 = .ok (.iinc 4 1, 3) := by decide +kernel
theorem dX6_slack_97 : decode cX6_slack 97 = .ok (.iinc 5 1, 3) := by decide +kernel
theorem dX6_slack_100 : decode cX6_slack 100 = .ok (.goto (-72), 3) := by decide +kernel
theorem dX6_slack_103 : decode cX6_slack 103 = .ok (.iload_n 3, 1) := by decide +kernel
theorem dX6_slack_104 : decode cX6_slack 104 = .ok (.iload_n 2, 1) := by decide +kernel
theorem dX6_slack_105 : decode cX6_slack 105 = .ok (.if_icmp .lt 8, 3) := by decide +kernel
theorem dX6_slack_108 : decode cX6_slack 108 = .ok (.iload 4, 2) := by decide +kernel
theorem dX6_slack_110 : decode cX6_slack 110 = .ok (.goto 4, 3) := by decide +kernel
theorem dX6_slack_113 : decode cX6_slack 113 = .ok (.iconst (-1), 1) := by decide +kernel
theorem dX6_slack_114 : decode cX6_slack 114 = .ok (.ireturn, 1) := by decide +kernel
theorem dX6_unlike_0 : decode cX6_unlike 0 = .ok (.iconst 0, 1) := by decide +kernel
theorem dX6_unlike_1 : decode cX6_unlike 1 = .ok (.istore_n 2, 1) := by decide +kernel
theorem dX6_unlike_2 : decode cX6_unlike 2 = .ok (.iload_n 2, 1) := by decide +kernel
theorem dX6_unlike_3 : decode cX6_unlike 3 = .ok (.bipush 48, 2) := by decide +kernel
theorem dX6_unlike_5 : decode cX6_unlike 5 = .ok (.if_icmp .ge 40, 3) := by decide +kernel
theorem dX6_unlike_8 : decode cX6_unlike 8 = .ok (.aload_n 0, 1) := by decide +kernel
theorem dX6_unlike_9 : decode cX6_unlike 9 = .ok (.getfield 40, 3) := by decide +kernel
theorem dX6_unlike_12 : decode cX6_unlike 12 = .ok (.bipush 48, 2) := by decide +kernel
theorem dX6_unlike_14 : decode cX6_unlike 14 = .ok (.iload_n 1, 1) := by decide +kernel
theorem dX6_unlike_15 : decode cX6_unlike 15 = .ok (.imul, 1) := by decide +kernel
theorem dX6_unlike_16 : decode cX6_unlike 16 = .ok (.iload_n 2, 1) := by decide +kernel
theorem dX6_unlike_17 : decode cX6_unlike 17 = .ok (.iadd, 1) := by decide +kernel
theorem dX6_unlike_18 : decode cX6_unlike 18 = .ok (.iaload, 1) := by decide +kernel
theorem dX6_unlike_19 : decode cX6_unlike 19 = .ok (.aload_n 0, 1) := by decide +kernel
theorem dX6_unlike_20 : decode cX6_unlike 20 = .ok (.getfield 58, 3) := by decide +kernel
theorem dX6_unlike_23 : decode cX6_unlike 23 = .ok (.iload_n 2, 1) := by decide +kernel
theorem dX6_unlike_24 : decode cX6_unlike 24 = .ok (.iaload, 1) := by decide +kernel
theorem dX6_unlike_25 : decode cX6_unlike 25 = .ok (.iconst (-1), 1) := by decide +kernel
theorem dX6_unlike_26 : decode cX6_unlike 26 = .ok (.if_icmp .ne 7, 3) := by decide +kernel
theorem dX6_unlike_29 : decode cX6_unlike 29 = .ok (.iconst 0, 1) := by decide +kernel
theorem dX6_unlike_30 : decode cX6_unlike 30 = .ok (.goto 4, 3) := by decide +kernel
theorem dX6_unlike_33 : decode cX6_unlike 33 = .ok (.iconst 1, 1) := by decide +kernel
theorem dX6_unlike_34 : decode cX6_unlike 34 = .ok (.if_icmp .eq 5, 3) := by decide +kernel
theorem dX6_unlike_37 : decode cX6_unlike 37 = .ok (.iload_n 2, 1) := by decide +kernel
theorem dX6_unlike_38 : decode cX6_unlike 38 = .ok (.ireturn, 1) := by decide +kernel
theorem dX6_unlike_39 : decode cX6_unlike 39 = .ok (.iinc 2 1, 3) := by decide +kernel
theorem dX6_unlike_42 : decode cX6_unlike 42 = .ok (.goto (-40), 3) := by decide +kernel
theorem dX6_unlike_45 : decode cX6_unlike 45 = .ok (.iconst (-1), 1) := by decide +kernel
theorem dX6_unlike_46 : decode cX6_unlike 46 = .ok (.ireturn, 1) := by decide +kernel
theorem dX6_ragWrong_0 : decode cX6_ragWrong 0 = .ok (.aload_n 0, 1) := by decide +kernel
theorem dX6_ragWrong_1 : decode cX6_ragWrong 1 = .ok (.iload_n 1, 1) := by decide +kernel
theorem dX6_ragWrong_2 : decode cX6_ragWrong 2 = .ok (.bipush 48, 2) := by decide +kernel
theorem dX6_ragWrong_4 : decode cX6_ragWrong 4 = .ok (.invokevirtual 233, 3) := by decide +kernel
theorem dX6_ragWrong_7 : decode cX6_ragWrong 7 = .ok (.istore 4, 2) := by decide +kernel
theorem dX6_ragWrong_9 : decode cX6_ragWrong 9 = .ok (.iload 4, 2) := by decide +kernel
theorem dX6_ragWrong_11 : decode cX6_ragWrong 11 = .ok (.ifCond .eq 8, 3) := by decide +kernel
theorem dX6_ragWrong_14 : decode cX6_ragWrong 14 = .ok (.iload 4, 2) := by decide +kernel
theorem dX6_ragWrong_16 : decode cX6_ragWrong 16 = .ok (.goto 28, 3) := by decide +kernel
theorem dX6_ragWrong_19 : decode cX6_ragWrong 19 = .ok (.iload_n 2, 1) := by decide +kernel
theorem dX6_ragWrong_20 : decode cX6_ragWrong 20 = .ok (.invokestatic 155, 3) := by decide +kernel
theorem dX6_ragWrong_23 : decode cX6_ragWrong 23 = .ok (.ifCond .ne 8, 3) := by decide +kernel
theorem dX6_ragWrong_26 : decode cX6_ragWrong 26 = .ok (.bipush (-5), 2) := by decide +kernel
theorem dX6_ragWrong_28 : decode cX6_ragWrong 28 = .ok (.goto 16, 3) := by decide +kernel
theorem dX6_ragWrong_31 : decode cX6_ragWrong 31 = .ok (.iload_n 3, 1) := by decide +kernel
theorem dX6_ragWrong_32 : decode cX6_ragWrong 32 = .ok (.invokestatic 158, 3) := by decide +kernel
theorem dX6_ragWrong_35 : decode cX6_ragWrong 35 = .ok (.ifCond .eq 7, 3) := by decide +kernel
theorem dX6_ragWrong_38 : decode cX6_ragWrong 38 = .ok (.iconst 0, 1) := by decide +kernel
theorem dX6_ragWrong_39 : decode cX6_ragWrong 39 = .ok (.goto 5, 3) := by decide +kernel
theorem dX6_ragWrong_42 : decode cX6_ragWrong 42 = .ok (.bipush (-7), 2) := by decide +kernel
theorem dX6_ragWrong_44 : decode cX6_ragWrong 44 = .ok (.ireturn, 1) := by decide +kernel
theorem dX6_judge_0 : decode cX6_judge 0 = .ok (.aload_n 0, 1) := by decide +kernel
theorem dX6_judge_1 : decode cX6_judge 1 = .ok (.iload_n 1, 1) := by decide +kernel
theorem dX6_judge_2 : decode cX6_judge 2 = .ok (.iload_n 2, 1) := by decide +kernel
theorem dX6_judge_3 : decode cX6_judge 3 = .ok (.iload_n 3, 1) := by decide +kernel
theorem dX6_judge_4 : decode cX6_judge 4 = .ok (.invokevirtual 243, 3) := by decide +kernel
theorem dX6_judge_7 : decode cX6_judge 7 = .ok (.istore 4, 2) := by decide +kernel
theorem dX6_judge_9 : decode cX6_judge 9 = .ok (.iload 4, 2) := by decide +kernel
theorem dX6_judge_11 : decode cX6_judge 11 = .ok (.ifCond .eq 6, 3) := by decide +kernel
theorem dX6_judge_14 : decode cX6_judge 14 = .ok (.iload 4, 2) := by decide +kernel
theorem dX6_judge_16 : decode cX6_judge 16 = .ok (.ireturn, 1) := by decide +kernel
theorem dX6_judge_17 : decode cX6_judge 17 = .ok (.aload_n 0, 1) := by decide +kernel
theorem dX6_judge_18 : decode cX6_judge 18 = .ok (.iload_n 2, 1) := by decide +kernel
theorem dX6_judge_19 : decode cX6_judge 19 = .ok (.iload_n 3, 1) := by decide +kernel
theorem dX6_judge_20 : decode cX6_judge 20 = .ok (.invokevirtual 213, 3) := by decide +kernel
theorem dX6_judge_23 : decode cX6_judge 23 = .ok (.aload_n 0, 1) := by decide +kernel
theorem dX6_judge_24 : decode cX6_judge 24 = .ok (.iload_n 1, 1) := by decide +kernel
theorem dX6_judge_25 : decode cX6_judge 25 = .ok (.invokevirtual 246, 3) := by decide +kernel
theorem dX6_judge_28 : decode cX6_judge 28 = .ok (.ireturn, 1) := by decide +kernel
theorem dX6_which_0 : decode cX6_which 0 = .ok (.aload_n 0, 1) := by decide +kernel
theorem dX6_which_1 : decode cX6_which 1 = .ok (.iload_n 1, 1) := by decide +kernel
theorem dX6_which_2 : decode cX6_which 2 = .ok (.iconst 0, 1) := by decide +kernel
theorem dX6_which_3 : decode cX6_which 3 = .ok (.iload_n 2, 1) := by decide +kernel
theorem dX6_which_4 : decode cX6_which 4 = .ok (.invokevirtual 243, 3) := by decide +kernel
theorem dX6_which_7 : decode cX6_which 7 = .ok (.ifCond .eq 7, 3) := by decide +kernel
theorem dX6_which_10 : decode cX6_which 10 = .ok (.ldc2_w 181, 3) := by decide +kernel
theorem dX6_which_13 : decode cX6_which 13 = .ok (.lreturn, 1) := by decide +kernel
theorem dX6_which_14 : decode cX6_which 14 = .ok (.lconst 0, 1) := by decide +kernel
theorem dX6_which_15 : decode cX6_which 15 = .ok (.lstore_n 3, 1) := by decide +kernel
theorem dX6_which_16 : decode cX6_which 16 = .ok (.iconst 0, 1) := by decide +kernel
theorem dX6_which_17 : decode cX6_which 17 = .ok (.istore 5, 2) := by decide +kernel
theorem dX6_which_19 : decode cX6_which 19 = .ok (.iload 5, 2) := by decide +kernel
theorem dX6_which_21 : decode cX6_which 21 = .ok (.bipush 48, 2) := by decide +kernel
theorem dX6_which_23 : decode cX6_which 23 = .ok (.if_icmp .ge 36, 3) := by decide +kernel
theorem dX6_which_26 : decode cX6_which 26 = .ok (.aload_n 0, 1) := by decide +kernel
theorem dX6_which_27 : decode cX6_which 27 = .ok (.iload 5, 2) := by decide +kernel
theorem dX6_which_29 : decode cX6_which 29 = .ok (.iload_n 2, 1) := by decide +kernel
theorem dX6_which_30 : decode cX6_which 30 = .ok (.invokevirtual 213, 3) := by decide +kernel
theorem dX6_which_33 : decode cX6_which 33 = .ok (.lload_n 3, 1) := by decide +kernel
theorem dX6_which_34 : decode cX6_which 34 = .ok (.aload_n 0, 1) := by decide +kernel
theorem dX6_which_35 : decode cX6_which 35 = .ok (.iload_n 1, 1) := by decide +kernel
theorem dX6_which_36 : decode cX6_which 36 = .ok (.invokevirtual 246, 3) := by decide +kernel
theorem dX6_which_39 : decode cX6_which 39 = .ok (.iconst (-1), 1) := by decide +kernel
theorem dX6_which_40 : decode cX6_which 40 = .ok (.if_icmp .ne 10, 3) := by decide +kernel
theorem dX6_which_43 : decode cX6_which 43 = .ok (.lconst 1, 1) := by decide +kernel
theorem dX6_which_44 : decode cX6_which 44 = .ok (.iload 5, 2) := by decide +kernel
theorem dX6_which_46 : decode cX6_which 46 = .ok (.lshl, 1) := by decide +kernel
theorem dX6_which_47 : decode cX6_which 47 = .ok (.goto 4, 3) := by decide +kernel
theorem dX6_which_50 : decode cX6_which 50 = .ok (.lconst 0, 1) := by decide +kernel
theorem dX6_which_51 : decode cX6_which 51 = .ok (.lor, 1) := by decide +kernel
theorem dX6_which_52 : decode cX6_which 52 = .ok (.lstore_n 3, 1) := by decide +kernel
theorem dX6_which_53 : decode cX6_which 53 = .ok (.iinc 5 1, 3) := by decide +kernel
theorem dX6_which_56 : decode cX6_which 56 = .ok (.goto (-37), 3) := by decide +kernel
theorem dX6_which_59 : decode cX6_which 59 = .ok (.lload_n 3, 1) := by decide +kernel
theorem dX6_which_60 : decode cX6_which 60 = .ok (.lreturn, 1) := by decide +kernel
theorem dX6_span_0 : decode cX6_span 0 = .ok (.aload_n 0, 1) := by decide +kernel
theorem dX6_span_1 : decode cX6_span 1 = .ok (.iload_n 1, 1) := by decide +kernel
theorem dX6_span_2 : decode cX6_span 2 = .ok (.iload_n 2, 1) := by decide +kernel
theorem dX6_span_3 : decode cX6_span 3 = .ok (.iconst 0, 1) := by decide +kernel
theorem dX6_span_4 : decode cX6_span 4 = .ok (.invokevirtual 243, 3) := by decide +kernel
theorem dX6_span_7 : decode cX6_span 7 = .ok (.istore 4, 2) := by decide +kernel
theorem dX6_span_9 : decode cX6_span 9 = .ok (.iload 4, 2) := by decide +kernel
theorem dX6_span_11 : decode cX6_span 11 = .ok (.ifCond .ne 12, 3) := by decide +kernel
theorem dX6_span_14 : decode cX6_span 14 = .ok (.iload_n 3, 1) := by decide +kernel
theorem dX6_span_15 : decode cX6_span 15 = .ok (.iconst 0, 1) := by decide +kernel
theorem dX6_span_16 : decode cX6_span 16 = .ok (.iconst 1, 1) := by decide +kernel
theorem dX6_span_17 : decode cX6_span 17 = .ok (.invokestatic 69, 3) := by decide +kernel
theorem dX6_span_20 : decode cX6_span 20 = .ok (.ifCond .ne 16, 3) := by decide +kernel
theorem dX6_span_23 : decode cX6_span 23 = .ok (.iload 4, 2) := by decide +kernel
theorem dX6_span_25 : decode cX6_span 25 = .ok (.ifCond .eq 8, 3) := by decide +kernel
theorem dX6_span_28 : decode cX6_span 28 = .ok (.iload 4, 2) := by decide +kernel
theorem dX6_span_30 : decode cX6_span 30 = .ok (.goto 5, 3) := by decide +kernel
theorem dX6_span_33 : decode cX6_span 33 = .ok (.bipush (-7), 2) := by decide +kernel
theorem dX6_span_35 : decode cX6_span 35 = .ok (.ireturn, 1) := by decide +kernel
theorem dX6_span_36 : decode cX6_span 36 = .ok (.iconst (-1), 1) := by decide +kernel
theorem dX6_span_37 : decode cX6_span 37 = .ok (.istore 5, 2) := by decide +kernel
theorem dX6_span_39 : decode cX6_span 39 = .ok (.iconst (-1), 1) := by decide +kernel
theorem dX6_span_40 : decode cX6_span 40 = .ok (.istore 6, 2) := by decide +kernel
theorem dX6_span_42 : decode cX6_span 42 = .ok (.iconst 0, 1) := by decide +kernel
theorem dX6_span_43 : decode cX6_span 43 = .ok (.istore 7, 2) := by decide +kernel
theorem dX6_span_45 : decode cX6_span 45 = .ok (.iload 7, 2) := by decide +kernel
theorem dX6_span_47 : decode cX6_span 47 = .ok (.bipush 99, 2) := by decide +kernel
theorem dX6_span_49 : decode cX6_span 49 = .ok (.if_icmp .gt 44, 3) := by decide +kernel
theorem dX6_span_52 : decode cX6_span 52 = .ok (.aload_n 0, 1) := by decide +kernel
theorem dX6_span_53 : decode cX6_span 53 = .ok (.iload_n 2, 1) := by decide +kernel
theorem dX6_span_54 : decode cX6_span 54 = .ok (.iload 7, 2) := by decide +kernel
theorem dX6_span_56 : decode cX6_span 56 = .ok (.invokevirtual 213, 3) := by decide +kernel
theorem dX6_span_59 : decode cX6_span 59 = .ok (.aload_n 0, 1) := by decide +kernel
theorem dX6_span_60 : decode cX6_span 60 = .ok (.iload_n 1, 1) := by decide +kernel
theorem dX6_span_61 : decode cX6_span 61 = .ok (.invokevirtual 246, 3) := by decide +kernel
theorem dX6_span_64 : decode cX6_span 64 = .ok (.iconst (-1), 1) := by decide +kernel
theorem dX6_span_65 : decode cX6_span 65 = .ok (.if_icmp .ne 22, 3) := by decide +kernel
theorem dX6_span_68 : decode cX6_span 68 = .ok (.iload 5, 2) := by decide +kernel
theorem dX6_span_70 : decode cX6_span 70 = .ok (.iconst (-1), 1) := by decide +kernel
theorem dX6_span_71 : decode cX6_span 71 = .ok (.if_icmp .ne 8, 3) := by decide +kernel
theorem dX6_span_74 : decode cX6_span 74 = .ok (.iload 7, 2) := by decide +kernel
theorem dX6_span_76 : decode cX6_span 76 = .ok (.goto 5, 3) := by decide +kernel
theorem dX6_span_79 : decode cX6_span 79 = .ok (.iload 5, 2) := by decide +kernel
theorem dX6_span_81 : decode cX6_span 81 = .ok (.istore 5, 2) := by decide +kernel
theorem dX6_span_83 : decode cX6_span 83 = .ok (.iload 7, 2) := by decide +kernel
theorem dX6_span_85 : decode cX6_span 85 = .ok (.istore 6, 2) := by decide +kernel
theorem dX6_span_87 : decode cX6_span 87 = .ok (.iinc 7 1, 3) := by decide +kernel
theorem dX6_span_90 : decode cX6_span 90 = .ok (.goto (-45), 3) := by decide +kernel
theorem dX6_span_93 : decode cX6_span 93 = .ok (.iload_n 3, 1) := by decide +kernel
theorem dX6_span_94 : decode cX6_span 94 = .ok (.ifCond .ne 8, 3) := by decide +kernel
theorem dX6_span_97 : decode cX6_span 97 = .ok (.iload 5, 2) := by decide +kernel
theorem dX6_span_99 : decode cX6_span 99 = .ok (.goto 5, 3) := by decide +kernel
theorem dX6_span_102 : decode cX6_span 102 = .ok (.iload 6, 2) := by decide +kernel
theorem dX6_span_104 : decode cX6_span 104 = .ok (.ireturn, 1) := by decide +kernel
theorem dX6_laws_0 : decode cX6_laws 0 = .ok (.aload_n 0, 1) := by decide +kernel
theorem dX6_laws_1 : decode cX6_laws 1 = .ok (.iload_n 1, 1) := by decide +kernel
theorem dX6_laws_2 : decode cX6_laws 2 = .ok (.iload_n 2, 1) := by decide +kernel
theorem dX6_laws_3 : decode cX6_laws 3 = .ok (.iload_n 3, 1) := by decide +kernel
theorem dX6_laws_4 : decode cX6_laws 4 = .ok (.invokevirtual 243, 3) := by decide +kernel
theorem dX6_laws_7 : decode cX6_laws 7 = .ok (.istore 4, 2) := by decide +kernel
theorem dX6_laws_9 : decode cX6_laws 9 = .ok (.iload 4, 2) := by decide +kernel
theorem dX6_laws_11 : decode cX6_laws 11 = .ok (.ifCond .eq 6, 3) := by decide +kernel
theorem dX6_laws_14 : decode cX6_laws 14 = .ok (.iload 4, 2) := by decide +kernel
theorem dX6_laws_16 : decode cX6_laws 16 = .ok (.ireturn, 1) := by decide +kernel
theorem dX6_laws_17 : decode cX6_laws 17 = .ok (.aload_n 0, 1) := by decide +kernel
theorem dX6_laws_18 : decode cX6_laws 18 = .ok (.getfield 80, 3) := by decide +kernel
theorem dX6_laws_21 : decode cX6_laws 21 = .ok (.istore 5, 2) := by decide +kernel
theorem dX6_laws_23 : decode cX6_laws 23 = .ok (.iconst 0, 1) := by decide +kernel
theorem dX6_laws_24 : decode cX6_laws 24 = .ok (.istore 6, 2) := by decide +kernel
theorem dX6_laws_26 : decode cX6_laws 26 = .ok (.iconst 0, 1) := by decide +kernel
theorem dX6_laws_27 : decode cX6_laws 27 = .ok (.istore 7, 2) := by decide +kernel
theorem dX6_laws_29 : decode cX6_laws 29 = .ok (.iload 7, 2) := by decide +kernel
theorem dX6_laws_31 : decode cX6_laws 31 = .ok (.aload_n 0, 1) := by decide +kernel
theorem dX6_laws_32 : decode cX6_laws 32 = .ok (.getfield 77, 3) := by decide +kernel
theorem dX6_laws_35 : decode cX6_laws 35 = .ok (.if_icmp .ge 43, 3) := by decide +kernel
theorem dX6_laws_38 : decode cX6_laws 38 = .ok (.aload_n 0, 1) := by decide +kernel
theorem dX6_laws_39 : decode cX6_laws 39 = .ok (.iload 7, 2) := by decide +kernel
theorem dX6_laws_41 : decode cX6_laws 41 = .ok (.putfield 80, 3) := by decide +kernel
theorem dX6_laws_44 : decode cX6_laws 44 = .ok (.aload_n 0, 1) := by decide +kernel
theorem dX6_laws_45 : decode cX6_laws 45 = .ok (.iload_n 2, 1) := by decide +kernel
theorem dX6_laws_46 : decode cX6_laws 46 = .ok (.iload_n 3, 1) := by decide +kernel
theorem dX6_laws_47 : decode cX6_laws 47 = .ok (.invokevirtual 213, 3) := by decide +kernel
theorem dX6_laws_50 : decode cX6_laws 50 = .ok (.iload 6, 2) := by decide +kernel
theorem dX6_laws_52 : decode cX6_laws 52 = .ok (.aload_n 0, 1) := by decide +kernel
theorem dX6_laws_53 : decode cX6_laws 53 = .ok (.iload_n 1, 1) := by decide +kernel
theorem dX6_laws_54 : decode cX6_laws 54 = .ok (.invokevirtual 246, 3) := by decide +kernel
theorem dX6_laws_57 : decode cX6_laws 57 = .ok (.iconst (-1), 1) := by decide +kernel
theorem dX6_laws_58 : decode cX6_laws 58 = .ok (.if_icmp .ne 10, 3) := by decide +kernel
theorem dX6_laws_61 : decode cX6_laws 61 = .ok (.iconst 1, 1) := by decide +kernel
theorem dX6_laws_62 : decode cX6_laws 62 = .ok (.iload 7, 2) := by decide +kernel
theorem dX6_laws_64 : decode cX6_laws 64 = .ok (.ishl, 1) := by decide +kernel
theorem dX6_laws_65 : decode cX6_laws 65 = .ok (.goto 4, 3) := by decide +kernel
theorem dX6_laws_68 : decode cX6_laws 68 = .ok (.iconst 0, 1) := by decide +kernel
theorem dX6_laws_69 : decode cX6_laws 69 = .ok (.ior, 1) := by decide +kernel
theorem dX6_laws_70 : decode cX6_laws 70 = .ok (.istore 6, 2) := by decide +kernel
theorem dX6_laws_72 : decode cX6_laws 72 = .ok (.iinc 7 1, 3) := by decide +kernel
theorem dX6_laws_75 : decode cX6_laws 75 = .ok (.goto (-46), 3) := by decide +kernel
theorem dX6_laws_78 : decode cX6_laws 78 = .ok (.aload_n 0, 1) := by decide +kernel
theorem dX6_laws_79 : decode cX6_laws 79 = .ok (.iload 5, 2) := by decide +kernel
theorem dX6_laws_81 : decode cX6_laws 81 = .ok (.putfield 80, 3) := by decide +kernel
theorem dX6_laws_84 : decode cX6_laws 84 = .ok (.iload 6, 2) := by decide +kernel
theorem dX6_laws_86 : decode cX6_laws 86 = .ok (.ireturn, 1) := by decide +kernel
theorem dX6_film_0 : decode cX6_film 0 = .ok (.iload_n 1, 1) := by decide +kernel
theorem dX6_film_1 : decode cX6_film 1 = .ok (.iconst 0, 1) := by decide +kernel
theorem dX6_film_2 : decode cX6_film 2 = .ok (.iconst 3, 1) := by decide +kernel
theorem dX6_film_3 : decode cX6_film 3 = .ok (.invokestatic 69, 3) := by decide +kernel
theorem dX6_film_6 : decode cX6_film 6 = .ok (.ifCond .ne 6, 3) := by decide +kernel
theorem dX6_film_9 : decode cX6_film 9 = .ok (.bipush (-2), 2) := by decide +kernel
theorem dX6_film_11 : decode cX6_film 11 = .ok (.ireturn, 1) := by decide +kernel
theorem dX6_film_12 : decode cX6_film 12 = .ok (.iload_n 2, 1) := by decide +kernel
theorem dX6_film_13 : decode cX6_film 13 = .ok (.invokestatic 155, 3) := by decide +kernel
theorem dX6_film_16 : decode cX6_film 16 = .ok (.ifCond .ne 6, 3) := by decide +kernel
theorem dX6_film_19 : decode cX6_film 19 = .ok (.bipush (-5), 2) := by decide +kernel
theorem dX6_film_21 : decode cX6_film 21 = .ok (.ireturn, 1) := by decide +kernel
theorem dX6_film_22 : decode cX6_film 22 = .ok (.iload_n 3, 1) := by decide +kernel
theorem dX6_film_23 : decode cX6_film 23 = .ok (.invokestatic 158, 3) := by decide +kernel
theorem dX6_film_26 : decode cX6_film 26 = .ok (.ifCond .ne 6, 3) := by decide +kernel
theorem dX6_film_29 : decode cX6_film 29 = .ok (.bipush (-7), 2) := by decide +kernel
theorem dX6_film_31 : decode cX6_film 31 = .ok (.ireturn, 1) := by decide +kernel
theorem dX6_film_32 : decode cX6_film 32 = .ok (.aload_n 0, 1) := by decide +kernel
theorem dX6_film_33 : decode cX6_film 33 = .ok (.iload_n 2, 1) := by decide +kernel
theorem dX6_film_34 : decode cX6_film 34 = .ok (.iload_n 3, 1) := by decide +kernel
theorem dX6_film_35 : decode cX6_film 35 = .ok (.invokevirtual 213, 3) := by decide +kernel
theorem dX6_film_38 : decode cX6_film 38 = .ok (.aload_n 0, 1) := by decide +kernel
theorem dX6_film_39 : decode cX6_film 39 = .ok (.getfield 34, 3) := by decide +kernel
theorem dX6_film_42 : decode cX6_film 42 = .ok (.iload_n 1, 1) := by decide +kernel
theorem dX6_film_43 : decode cX6_film 43 = .ok (.iconst 2, 1) := by decide +kernel
theorem dX6_film_44 : decode cX6_film 44 = .ok (.iastore, 1) := by decide +kernel
theorem dX6_film_45 : decode cX6_film 45 = .ok (.aload_n 0, 1) := by decide +kernel
theorem dX6_film_46 : decode cX6_film 46 = .ok (.getfield 37, 3) := by decide +kernel
theorem dX6_film_49 : decode cX6_film 49 = .ok (.iload_n 1, 1) := by decide +kernel
theorem dX6_film_50 : decode cX6_film 50 = .ok (.bipush 48, 2) := by decide +kernel
theorem dX6_film_52 : decode cX6_film 52 = .ok (.iastore, 1) := by decide +kernel
theorem dX6_film_53 : decode cX6_film 53 = .ok (.iconst 0, 1) := by decide +kernel
theorem dX6_film_54 : decode cX6_film 54 = .ok (.istore 4, 2) := by decide +kernel
theorem dX6_film_56 : decode cX6_film 56 = .ok (.iload 4, 2) := by decide +kernel
theorem dX6_film_58 : decode cX6_film 58 = .ok (.bipush 48, 2) := by decide +kernel
theorem dX6_film_60 : decode cX6_film 60 = .ok (.if_icmp .ge 37, 3) := by decide +kernel
theorem dX6_film_63 : decode cX6_film 63 = .ok (.aload_n 0, 1) := by decide +kernel
theorem dX6_film_64 : decode cX6_film 64 = .ok (.getfield 40, 3) := by decide +kernel
theorem dX6_film_67 : decode cX6_film 67 = .ok (.bipush 48, 2) := by decide +kernel
theorem dX6_film_69 : decode cX6_film 69 = .ok (.iload_n 1, 1) := by decide +kernel
theorem dX6_film_70 : decode cX6_film 70 = .ok (.imul, 1) := by decide +kernel
theorem dX6_film_71 : decode cX6_film 71 = .ok (.iload 4, 2) := by decide +kernel
theorem dX6_film_73 : decode cX6_film 73 = .ok (.iadd, 1) := by decide +kernel
theorem dX6_film_74 : decode cX6_film 74 = .ok (.aload_n 0, 1) := by decide +kernel
theorem dX6_film_75 : decode cX6_film 75 = .ok (.getfield 58, 3) := by decide +kernel
theorem dX6_film_78 : decode cX6_film 78 = .ok (.iload 4, 2) := by decide +kernel
theorem dX6_film_80 : decode cX6_film 80 = .ok (.iaload, 1) := by decide +kernel
theorem dX6_film_81 : decode cX6_film 81 = .ok (.iconst (-1), 1) := by decide +kernel
theorem dX6_film_82 : decode cX6_film 82 = .ok (.if_icmp .ne 7, 3) := by decide +kernel
theorem dX6_film_85 : decode cX6_film 85 = .ok (.iconst 0, 1) := by decide +kernel
theorem dX6_film_86 : decode cX6_film 86 = .ok (.goto 4, 3) := by decide +kernel
theorem dX6_film_89 : decode cX6_film 89 = .ok (.iconst 1, 1) := by decide +kernel
theorem dX6_film_90 : decode cX6_film 90 = .ok (.iastore, 1) := by decide +kernel
theorem dX6_film_91 : decode cX6_film 91 = .ok (.iinc 4 1, 3) := by decide +kernel
theorem dX6_film_94 : decode cX6_film 94 = .ok (.goto (-38), 3) := by decide +kernel
theorem dX6_film_97 : decode cX6_film 97 = .ok (.bipush 48, 2) := by decide +kernel
theorem dX6_film_99 : decode cX6_film 99 = .ok (.ireturn, 1) := by decide +kernel
theorem dX6_missed_0 : decode cX6_missed 0 = .ok (.iload_n 1, 1) := by decide +kernel
theorem dX6_missed_1 : decode cX6_missed 1 = .ok (.i2l, 1) := by decide +kernel
theorem dX6_missed_2 : decode cX6_missed 2 = .ok (.lconst 1, 1) := by decide +kernel
theorem dX6_missed_3 : decode cX6_missed 3 = .ok (.ladd, 1) := by decide +kernel
theorem dX6_missed_4 : decode cX6_missed 4 = .ok (.lstore_n 3, 1) := by decide +kernel
theorem dX6_missed_5 : decode cX6_missed 5 = .ok (.iconst 0, 1) := by decide +kernel
theorem dX6_missed_6 : decode cX6_missed 6 = .ok (.istore 5, 2) := by decide +kernel
theorem dX6_missed_8 : decode cX6_missed 8 = .ok (.iconst 0, 1) := by decide +kernel
theorem dX6_missed_9 : decode cX6_missed 9 = .ok (.istore 6, 2) := by decide +kernel
theorem dX6_missed_11 : decode cX6_missed 11 = .ok (.iload 6, 2) := by decide +kernel
theorem dX6_missed_13 : decode cX6_missed 13 = .ok (.bipush 48, 2) := by decide +kernel
theorem dX6_missed_15 : decode cX6_missed 15 = .ok (.if_icmp .ge 51, 3) := by decide +kernel
theorem dX6_missed_18 : decode cX6_missed 18 = .ok (.aload_n 0, 1) := by decide +kernel
theorem dX6_missed_19 : decode cX6_missed 19 = .ok (.getfield 58, 3) := by decide +kernel
theorem dX6_missed_22 : decode cX6_missed 22 = .ok (.iload 6, 2) := by decide +kernel
theorem dX6_missed_24 : decode cX6_missed 24 = .ok (.iaload, 1) := by decide +kernel
theorem dX6_missed_25 : decode cX6_missed 25 = .ok (.iconst (-1), 1) := by decide +kernel
theorem dX6_missed_26 : decode cX6_missed 26 = .ok (.if_icmp .eq 34, 3) := by decide +kernel
theorem dX6_missed_29 : decode cX6_missed 29 = .ok (.lload_n 3, 1) := by decide +kernel
theorem dX6_missed_30 : decode cX6_missed 30 = .ok (.ldc2_w 249, 3) := by decide +kernel
theorem dX6_missed_33 : decode cX6_missed 33 = .ok (.lmul, 1) := by decide +kernel
theorem dX6_missed_34 : decode cX6_missed 34 = .ok (.ldc2_w 251, 3) := by decide +kernel
theorem dX6_missed_37 : decode cX6_missed 37 = .ok (.lrem, 1) := by decide +kernel
theorem dX6_missed_38 : decode cX6_missed 38 = .ok (.lstore_n 3, 1) := by decide +kernel
theorem dX6_missed_39 : decode cX6_missed 39 = .ok (.iload 5, 2) := by decide +kernel
theorem dX6_missed_41 : decode cX6_missed 41 = .ok (.lload_n 3, 1) := by decide +kernel
theorem dX6_missed_42 : decode cX6_missed 42 = .ok (.ldc2_w 253, 3) := by decide +kernel
theorem dX6_missed_45 : decode cX6_missed 45 = .ok (.lrem, 1) := by decide +kernel
theorem dX6_missed_46 : decode cX6_missed 46 = .ok (.iload_n 2, 1) := by decide +kernel
theorem dX6_missed_47 : decode cX6_missed 47 = .ok (.i2l, 1) := by decide +kernel
theorem dX6_missed_48 : decode cX6_missed 48 = .ok (.lcmp, 1) := by decide +kernel
theorem dX6_missed_49 : decode cX6_missed 49 = .ok (.ifCond .ge 7, 3) := by decide +kernel
theorem dX6_missed_52 : decode cX6_missed 52 = .ok (.iconst 1, 1) := by decide +kernel
theorem dX6_missed_53 : decode cX6_missed 53 = .ok (.goto 4, 3) := by decide +kernel
theorem dX6_missed_56 : decode cX6_missed 56 = .ok (.iconst 0, 1) := by decide +kernel
theorem dX6_missed_57 : decode cX6_missed 57 = .ok (.iadd, 1) := by decide +kernel
theorem dX6_missed_58 : decode cX6_missed 58 = .ok (.istore 5, 2) := by decide +kernel
theorem dX6_missed_60 : decode cX6_missed 60 = .ok (.iinc 6 1, 3) := by decide +kernel
theorem dX6_missed_63 : decode cX6_missed 63 = .ok (.goto (-52), 3) := by decide +kernel
theorem dX6_missed_66 : decode cX6_missed 66 = .ok (.iload 5, 2) := by decide +kernel
theorem dX6_missed_68 : decode cX6_missed 68 = .ok (.ireturn, 1) := by decide +kernel
theorem dX6_isSeed_0 : decode cX6_isSeed 0 = .ok (.iload_n 0, 1) := by decide +kernel
theorem dX6_isSeed_1 : decode cX6_isSeed 1 = .ok (.iconst 0, 1) := by decide +kernel
theorem dX6_isSeed_2 : decode cX6_isSeed 2 = .ok (.ldc 255, 2) := by decide +kernel
theorem dX6_isSeed_4 : decode cX6_isSeed 4 = .ok (.invokestatic 69, 3) := by decide +kernel
theorem dX6_isSeed_7 : decode cX6_isSeed 7 = .ok (.ireturn, 1) := by decide +kernel
theorem dX6_slips_0 : decode cX6_slips 0 = .ok (.iload_n 2, 1) := by decide +kernel
theorem dX6_slips_1 : decode cX6_slips 1 = .ok (.invokestatic 155, 3) := by decide +kernel
theorem dX6_slips_4 : decode cX6_slips 4 = .ok (.ifCond .ne 6, 3) := by decide +kernel
theorem dX6_slips_7 : decode cX6_slips 7 = .ok (.bipush (-5), 2) := by decide +kernel
theorem dX6_slips_9 : decode cX6_slips 9 = .ok (.ireturn, 1) := by decide +kernel
theorem dX6_slips_10 : decode cX6_slips 10 = .ok (.iload_n 1, 1) := by decide +kernel
theorem dX6_slips_11 : decode cX6_slips 11 = .ok (.invokestatic 256, 3) := by decide +kernel
theorem dX6_slips_14 : decode cX6_slips 14 = .ok (.ifCond .eq 21, 3) := by decide +kernel
theorem dX6_slips_17 : decode cX6_slips 17 = .ok (.iload_n 3, 1) := by decide +kernel
theorem dX6_slips_18 : decode cX6_slips 18 = .ok (.invokestatic 158, 3) := by decide +kernel
theorem dX6_slips_21 : decode cX6_slips 21 = .ok (.ifCond .eq 14, 3) := by decide +kernel
theorem dX6_slips_24 : decode cX6_slips 24 = .ok (.iload 4, 2) := by decide +kernel
theorem dX6_slips_26 : decode cX6_slips 26 = .ok (.iconst 0, 1) := by decide +kernel
theorem dX6_slips_27 : decode cX6_slips 27 = .ok (.bipush 100, 2) := by decide +kernel
theorem dX6_slips_29 : decode cX6_slips 29 = .ok (.invokestatic 69, 3) := by decide +kernel
theorem dX6_slips_32 : decode cX6_slips 32 = .ok (.ifCond .ne 6, 3) := by decide +kernel
theorem dX6_slips_35 : decode cX6_slips 35 = .ok (.bipush (-7), 2) := by decide +kernel
theorem dX6_slips_37 : decode cX6_slips 37 = .ok (.ireturn, 1) := by decide +kernel
theorem dX6_slips_38 : decode cX6_slips 38 = .ok (.aload_n 0, 1) := by decide +kernel
theorem dX6_slips_39 : decode cX6_slips 39 = .ok (.iload_n 2, 1) := by decide +kernel
theorem dX6_slips_40 : decode cX6_slips 40 = .ok (.iload_n 3, 1) := by decide +kernel
theorem dX6_slips_41 : decode cX6_slips 41 = .ok (.invokevirtual 213, 3) := by decide +kernel
theorem dX6_slips_44 : decode cX6_slips 44 = .ok (.aload_n 0, 1) := by decide +kernel
theorem dX6_slips_45 : decode cX6_slips 45 = .ok (.iload_n 1, 1) := by decide +kernel
theorem dX6_slips_46 : decode cX6_slips 46 = .ok (.iload 4, 2) := by decide +kernel
theorem dX6_slips_48 : decode cX6_slips 48 = .ok (.invokevirtual 259, 3) := by decide +kernel
theorem dX6_slips_51 : decode cX6_slips 51 = .ok (.ireturn, 1) := by decide +kernel
theorem dX6_lowest__0 : decode cX6_lowest_ 0 = .ok (.lload_n 0, 1) := by decide +kernel
theorem dX6_lowest__1 : decode cX6_lowest_ 1 = .ok (.lconst 0, 1) := by decide +kernel
theorem dX6_lowest__2 : decode cX6_lowest_ 2 = .ok (.lcmp, 1) := by decide +kernel
theorem dX6_lowest__3 : decode cX6_lowest_ 3 = .ok (.ifCond .ne 7, 3) := by decide +kernel
theorem dX6_lowest__6 : decode cX6_lowest_ 6 = .ok (.iload 4, 2) := by decide +kernel
theorem dX6_lowest__8 : decode cX6_lowest_ 8 = .ok (.i2l, 1) := by decide +kernel
theorem dX6_lowest__9 : decode cX6_lowest_ 9 = .ok (.lreturn, 1) := by decide +kernel
theorem dX6_lowest__10 : decode cX6_lowest_ 10 = .ok (.lload_n 0, 1) := by decide +kernel
theorem dX6_lowest__11 : decode cX6_lowest_ 11 = .ok (.lstore 5, 2) := by decide +kernel
theorem dX6_lowest__13 : decode cX6_lowest_ 13 = .ok (.lload_n 2, 1) := by decide +kernel
theorem dX6_lowest__14 : decode cX6_lowest_ 14 = .ok (.lstore 7, 2) := by decide +kernel
theorem dX6_lowest__16 : decode cX6_lowest_ 16 = .ok (.lload 7, 2) := by decide +kernel
theorem dX6_lowest__18 : decode cX6_lowest_ 18 = .ok (.lconst 0, 1) := by decide +kernel
theorem dX6_lowest__19 : decode cX6_lowest_ 19 = .ok (.lcmp, 1) := by decide +kernel
theorem dX6_lowest__20 : decode cX6_lowest_ 20 = .ok (.ifCond .eq 21, 3) := by decide +kernel
theorem dX6_lowest__23 : decode cX6_lowest_ 23 = .ok (.lload 5, 2) := by decide +kernel
theorem dX6_lowest__25 : decode cX6_lowest_ 25 = .ok (.lload 7, 2) := by decide +kernel
theorem dX6_lowest__27 : decode cX6_lowest_ 27 = .ok (.lrem, 1) := by decide +kernel
theorem dX6_lowest__28 : decode cX6_lowest_ 28 = .ok (.lstore 9, 2) := by decide +kernel
theorem dX6_lowest__30 : decode cX6_lowest_ 30 = .ok (.lload 7, 2) := by decide +kernel
theorem dX6_lowest__32 : decode cX6_lowest_ 32 = .ok (.lstore 5, 2) := by decide +kernel
theorem dX6_lowest__34 : decode cX6_lowest_ 34 = .ok (.lload 9, 2) := by decide +kernel
theorem dX6_lowest__36 : decode cX6_lowest_ 36 = .ok (.lstore 7, 2) := by decide +kernel
theorem dX6_lowest__38 : decode cX6_lowest_ 38 = .ok (.goto (-22), 3) := by decide +kernel
theorem dX6_lowest__41 : decode cX6_lowest_ 41 = .ok (.iload 4, 2) := by decide +kernel
theorem dX6_lowest__43 : decode cX6_lowest_ 43 = .ok (.ifCond .ne 7, 3) := by decide +kernel
theorem dX6_lowest__46 : decode cX6_lowest_ 46 = .ok (.lload_n 0, 1) := by decide +kernel
theorem dX6_lowest__47 : decode cX6_lowest_ 47 = .ok (.goto 4, 3) := by decide +kernel
theorem dX6_lowest__50 : decode cX6_lowest_ 50 = .ok (.lload_n 2, 1) := by decide +kernel
theorem dX6_lowest__51 : decode cX6_lowest_ 51 = .ok (.lload 5, 2) := by decide +kernel
theorem dX6_lowest__53 : decode cX6_lowest_ 53 = .ok (.ldiv, 1) := by decide +kernel
theorem dX6_lowest__54 : decode cX6_lowest_ 54 = .ok (.lreturn, 1) := by decide +kernel
theorem dX6_odds_0 : decode cX6_odds 0 = .ok (.iload_n 1, 1) := by decide +kernel
theorem dX6_odds_1 : decode cX6_odds 1 = .ok (.invokestatic 256, 3) := by decide +kernel
theorem dX6_odds_4 : decode cX6_odds 4 = .ok (.ifCond .eq 49, 3) := by decide +kernel
theorem dX6_odds_7 : decode cX6_odds 7 = .ok (.iload_n 2, 1) := by decide +kernel
theorem dX6_odds_8 : decode cX6_odds 8 = .ok (.iconst 1, 1) := by decide +kernel
theorem dX6_odds_9 : decode cX6_odds 9 = .ok (.bipush 50, 2) := by decide +kernel
theorem dX6_odds_11 : decode cX6_odds 11 = .ok (.invokestatic 69, 3) := by decide +kernel
theorem dX6_odds_14 : decode cX6_odds 14 = .ok (.ifCond .eq 39, 3) := by decide +kernel
theorem dX6_odds_17 : decode cX6_odds 17 = .ok (.iload_n 3, 1) := by decide +kernel
theorem dX6_odds_18 : decode cX6_odds 18 = .ok (.invokestatic 155, 3) := by decide +kernel
theorem dX6_odds_21 : decode cX6_odds 21 = .ok (.ifCond .eq 32, 3) := by decide +kernel
theorem dX6_odds_24 : decode cX6_odds 24 = .ok (.iload 4, 2) := by decide +kernel
theorem dX6_odds_26 : decode cX6_odds 26 = .ok (.invokestatic 158, 3) := by decide +kernel
theorem dX6_odds_29 : decode cX6_odds 29 = .ok (.ifCond .eq 24, 3) := by decide +kernel
theorem dX6_odds_32 : decode cX6_odds 32 = .ok (.iload 5, 2) := by decide +kernel
theorem dX6_odds_34 : decode cX6_odds 34 = .ok (.iconst 0, 1) := by decide +kernel
theorem dX6_odds_35 : decode cX6_odds 35 = .ok (.bipush 100, 2) := by decide +kernel
theorem dX6_odds_37 : decode cX6_odds 37 = .ok (.invokestatic 69, 3) := by decide +kernel
theorem dX6_odds_40 : decode cX6_odds 40 = .ok (.ifCond .eq 13, 3) := by decide +kernel
theorem dX6_odds_43 : decode cX6_odds 43 = .ok (.iload 6, 2) := by decide +kernel
theorem dX6_odds_45 : decode cX6_odds 45 = .ok (.iconst 0, 1) := by decide +kernel
theorem dX6_odds_46 : decode cX6_odds 46 = .ok (.iconst 1, 1) := by decide +kernel
theorem dX6_odds_47 : decode cX6_odds 47 = .ok (.invokestatic 69, 3) := by decide +kernel
theorem dX6_odds_50 : decode cX6_odds 50 = .ok (.ifCond .ne 7, 3) := by decide +kernel
theorem dX6_odds_53 : decode cX6_odds 53 = .ok (.ldc2_w 181, 3) := by decide +kernel
theorem dX6_odds_56 : decode cX6_odds 56 = .ok (.lreturn, 1) := by decide +kernel
theorem dX6_odds_57 : decode cX6_odds 57 = .ok (.aload_n 0, 1) := by decide +kernel
theorem dX6_odds_58 : decode cX6_odds 58 = .ok (.iload_n 3, 1) := by decide +kernel
theorem dX6_odds_59 : decode cX6_odds 59 = .ok (.iload 4, 2) := by decide +kernel
theorem dX6_odds_61 : decode cX6_odds 61 = .ok (.invokevirtual 213, 3) := by decide +kernel
theorem dX6_odds_64 : decode cX6_odds 64 = .ok (.lconst 0, 1) := by decide +kernel
theorem dX6_odds_65 : decode cX6_odds 65 = .ok (.lstore 7, 2) := by decide +kernel
theorem dX6_odds_67 : decode cX6_odds 67 = .ok (.iconst 0, 1) := by decide +kernel
theorem dX6_odds_68 : decode cX6_odds 68 = .ok (.istore 9, 2) := by decide +kernel
theorem dX6_odds_70 : decode cX6_odds 70 = .ok (.iload 9, 2) := by decide +kernel
theorem dX6_odds_72 : decode cX6_odds 72 = .ok (.iload_n 2, 1) := by decide +kernel
theorem dX6_odds_73 : decode cX6_odds 73 = .ok (.if_icmp .ge 32, 3) := by decide +kernel
theorem dX6_odds_76 : decode cX6_odds 76 = .ok (.lload 7, 2) := by decide +kernel
theorem dX6_odds_78 : decode cX6_odds 78 = .ok (.aload_n 0, 1) := by decide +kernel
theorem dX6_odds_79 : decode cX6_odds 79 = .ok (.iload_n 1, 1) := by decide +kernel
theorem dX6_odds_80 : decode cX6_odds 80 = .ok (.iload 9, 2) := by decide +kernel
theorem dX6_odds_82 : decode cX6_odds 82 = .ok (.iadd, 1) := by decide +kernel
theorem dX6_odds_83 : decode cX6_odds 83 = .ok (.iload 5, 2) := by decide +kernel
theorem dX6_odds_85 : decode cX6_odds 85 = .ok (.invokevirtual 259, 3) := by decide +kernel
theorem dX6_odds_88 : decode cX6_odds 88 = .ok (.ifCond .ne 7, 3) := by decide +kernel
theorem dX6_odds_91 : decode cX6_odds 91 = .ok (.lconst 1, 1) := by decide +kernel
theorem dX6_odds_92 : decode cX6_odds 92 = .ok (.goto 4, 3) := by decide +kernel
theorem dX6_odds_95 : decode cX6_odds 95 = .ok (.lconst 0, 1) := by decide +kernel
theorem dX6_odds_96 : decode cX6_odds 96 = .ok (.ladd, 1) := by decide +kernel
theorem dX6_odds_97 : decode cX6_odds 97 = .ok (.lstore 7, 2) := by decide +kernel
theorem dX6_odds_99 : decode cX6_odds 99 = .ok (.iinc 9 1, 3) := by decide +kernel
theorem dX6_odds_102 : decode cX6_odds 102 = .ok (.goto (-32), 3) := by decide +kernel
theorem dX6_odds_105 : decode cX6_odds 105 = .ok (.lload 7, 2) := by decide +kernel
theorem dX6_odds_107 : decode cX6_odds 107 = .ok (.iload_n 2, 1) := by decide +kernel
theorem dX6_odds_108 : decode cX6_odds 108 = .ok (.i2l, 1) := by decide +kernel
theorem dX6_odds_109 : decode cX6_odds 109 = .ok (.iload 6, 2) := by decide +kernel
theorem dX6_odds_111 : decode cX6_odds 111 = .ok (.invokestatic 262, 3) := by decide +kernel
theorem dX6_odds_114 : decode cX6_odds 114 = .ok (.lreturn, 1) := by decide +kernel
theorem dX6_image_0 : decode cX6_image 0 = .ok (.aload_n 0, 1) := by decide +kernel
theorem dX6_image_1 : decode cX6_image 1 = .ok (.iconst 1, 1) := by decide +kernel
theorem dX6_image_2 : decode cX6_image 2 = .ok (.putfield 265, 3) := by decide +kernel
theorem dX6_image_5 : decode cX6_image 5 = .ok (.aload_n 0, 1) := by decide +kernel
theorem dX6_image_6 : decode cX6_image 6 = .ok (.aload_n 0, 1) := by decide +kernel
theorem dX6_image_7 : decode cX6_image 7 = .ok (.getfield 80, 3) := by decide +kernel
theorem dX6_image_10 : decode cX6_image 10 = .ok (.putfield 269, 3) := by decide +kernel
theorem dX6_image_13 : decode cX6_image 13 = .ok (.iconst 0, 1) := by decide +kernel
theorem dX6_image_14 : decode cX6_image 14 = .ok (.istore_n 1, 1) := by decide +kernel
theorem dX6_image_15 : decode cX6_image 15 = .ok (.iload_n 1, 1) := by decide +kernel
theorem dX6_image_16 : decode cX6_image 16 = .ok (.bipush 48, 2) := by decide +kernel
theorem dX6_image_18 : decode cX6_image 18 = .ok (.if_icmp .ge 67, 3) := by decide +kernel
theorem dX6_image_21 : decode cX6_image 21 = .ok (.aload_n 0, 1) := by decide +kernel
theorem dX6_image_22 : decode cX6_image 22 = .ok (.getfield 31, 3) := by decide +kernel
theorem dX6_image_25 : decode cX6_image 25 = .ok (.iload_n 1, 1) := by decide +kernel
theorem dX6_image_26 : decode cX6_image 26 = .ok (.aload_n 0, 1) := by decide +kernel
theorem dX6_image_27 : decode cX6_image 27 = .ok (.getfield 7, 3) := by decide +kernel
theorem dX6_image_30 : decode cX6_image 30 = .ok (.iload_n 1, 1) := by decide +kernel
theorem dX6_image_31 : decode cX6_image 31 = .ok (.iaload, 1) := by decide +kernel
theorem dX6_image_32 : decode cX6_image 32 = .ok (.iastore, 1) := by decide +kernel
theorem dX6_image_33 : decode cX6_image 33 = .ok (.aload_n 0, 1) := by decide +kernel
theorem dX6_image_34 : decode cX6_image 34 = .ok (.getfield 31, 3) := by decide +kernel
theorem dX6_image_37 : decode cX6_image 37 = .ok (.bipush 48, 2) := by decide +kernel
theorem dX6_image_39 : decode cX6_image 39 = .ok (.iload_n 1, 1) := by decide +kernel
theorem dX6_image_40 : decode cX6_image 40 = .ok (.iadd, 1) := by decide +kernel
theorem dX6_image_41 : decode cX6_image 41 = .ok (.aload_n 0, 1) := by decide +kernel
theorem dX6_image_42 : decode cX6_image 42 = .ok (.getfield 13, 3) := by decide +kernel
theorem dX6_image_45 : decode cX6_image 45 = .ok (.iload_n 1, 1) := by decide +kernel
theorem dX6_image_46 : decode cX6_image 46 = .ok (.iaload, 1) := by decide +kernel
theorem dX6_image_47 : decode cX6_image 47 = .ok (.iastore, 1) := by decide +kernel
theorem dX6_image_48 : decode cX6_image 48 = .ok (.aload_n 0, 1) := by decide +kernel
theorem dX6_image_49 : decode cX6_image 49 = .ok (.getfield 31, 3) := by decide +kernel
theorem dX6_image_52 : decode cX6_image 52 = .ok (.bipush 96, 2) := by decide +kernel
theorem dX6_image_54 : decode cX6_image 54 = .ok (.iload_n 1, 1) := by decide +kernel
theorem dX6_image_55 : decode cX6_image 55 = .ok (.iadd, 1) := by decide +kernel
theorem dX6_image_56 : decode cX6_image 56 = .ok (.aload_n 0, 1) := by decide +kernel
theorem dX6_image_57 : decode cX6_image 57 = .ok (.getfield 16, 3) := by decide +kernel
theorem dX6_image_60 : decode cX6_image 60 = .ok (.iload_n 1, 1) := by decide +kernel
theorem dX6_image_61 : decode cX6_image 61 = .ok (.iaload, 1) := by decide +kernel
theorem dX6_image_62 : decode cX6_image 62 = .ok (.iastore, 1) := by decide +kernel
theorem dX6_image_63 : decode cX6_image 63 = .ok (.aload_n 0, 1) := by decide +kernel
theorem dX6_image_64 : decode cX6_image 64 = .ok (.getfield 31, 3) := by decide +kernel
theorem dX6_image_67 : decode cX6_image 67 = .ok (.sipush 144, 3) := by decide +kernel
theorem dX6_image_70 : decode cX6_image 70 = .ok (.iload_n 1, 1) := by decide +kernel
theorem dX6_image_71 : decode cX6_image 71 = .ok (.iadd, 1) := by decide +kernel
theorem dX6_image_72 : decode cX6_image 72 = .ok (.aload_n 0, 1) := by decide +kernel
theorem dX6_image_73 : decode cX6_image 73 = .ok (.getfield 19, 3) := by decide +kernel
theorem dX6_image_76 : decode cX6_image 76 = .ok (.iload_n 1, 1) := by decide +kernel
theorem dX6_image_77 : decode cX6_image 77 = .ok (.iaload, 1) := by decide +kernel
theorem dX6_image_78 : decode cX6_image 78 = .ok (.iastore, 1) := by decide +kernel
theorem dX6_image_79 : decode cX6_image 79 = .ok (.iinc 1 1, 3) := by decide +kernel
theorem dX6_image_82 : decode cX6_image 82 = .ok (.goto (-67), 3) := by decide +kernel
theorem dX6_image_85 : decode cX6_image 85 = .ok (.aload_n 0, 1) := by decide +kernel
theorem dX6_image_86 : decode cX6_image 86 = .ok (.iconst 0, 1) := by decide +kernel
theorem dX6_image_87 : decode cX6_image 87 = .ok (.invokevirtual 73, 3) := by decide +kernel
theorem dX6_image_90 : decode cX6_image 90 = .ok (.ireturn, 1) := by decide +kernel
theorem dX6_restore_0 : decode cX6_restore 0 = .ok (.aload_n 0, 1) := by decide +kernel
theorem dX6_restore_1 : decode cX6_restore 1 = .ok (.getfield 265, 3) := by decide +kernel
theorem dX6_restore_4 : decode cX6_restore 4 = .ok (.ifCond .ne 6, 3) := by decide +kernel
theorem dX6_restore_7 : decode cX6_restore 7 = .ok (.bipush (-3), 2) := by decide +kernel
theorem dX6_restore_9 : decode cX6_restore 9 = .ok (.ireturn, 1) := by decide +kernel
theorem dX6_restore_10 : decode cX6_restore 10 = .ok (.aload_n 0, 1) := by decide +kernel
theorem dX6_restore_11 : decode cX6_restore 11 = .ok (.aload_n 0, 1) := by decide +kernel
theorem dX6_restore_12 : decode cX6_restore 12 = .ok (.getfield 269, 3) := by decide +kernel
theorem dX6_restore_15 : decode cX6_restore 15 = .ok (.putfield 80, 3) := by decide +kernel
theorem dX6_restore_18 : decode cX6_restore 18 = .ok (.iconst 0, 1) := by decide +kernel
theorem dX6_restore_19 : decode cX6_restore 19 = .ok (.istore_n 1, 1) := by decide +kernel
theorem dX6_restore_20 : decode cX6_restore 20 = .ok (.iload_n 1, 1) := by decide +kernel
theorem dX6_restore_21 : decode cX6_restore 21 = .ok (.bipush 48, 2) := by decide +kernel
theorem dX6_restore_23 : decode cX6_restore 23 = .ok (.if_icmp .ge 67, 3) := by decide +kernel
theorem dX6_restore_26 : decode cX6_restore 26 = .ok (.aload_n 0, 1) := by decide +kernel
theorem dX6_restore_27 : decode cX6_restore 27 = .ok (.getfield 7, 3) := by decide +kernel
theorem dX6_restore_30 : decode cX6_restore 30 = .ok (.iload_n 1, 1) := by decide +kernel
theorem dX6_restore_31 : decode cX6_restore 31 = .ok (.aload_n 0, 1) := by decide +kernel
theorem dX6_restore_32 : decode cX6_restore 32 = .ok (.getfield 31, 3) := by decide +kernel
theorem dX6_restore_35 : decode cX6_restore 35 = .ok (.iload_n 1, 1) := by decide +kernel
theorem dX6_restore_36 : decode cX6_restore 36 = .ok (.iaload, 1) := by decide +kernel
theorem dX6_restore_37 : decode cX6_restore 37 = .ok (.iastore, 1) := by decide +kernel
theorem dX6_restore_38 : decode cX6_restore 38 = .ok (.aload_n 0, 1) := by decide +kernel
theorem dX6_restore_39 : decode cX6_restore 39 = .ok (.getfield 13, 3) := by decide +kernel
theorem dX6_restore_42 : decode cX6_restore 42 = .ok (.iload_n 1, 1) := by decide +kernel
theorem dX6_restore_43 : decode cX6_restore 43 = .ok (.aload_n 0, 1) := by decide +kernel
theorem dX6_restore_44 : decode cX6_restore 44 = .ok (.getfield 31, 3) := by decide +kernel
theorem dX6_restore_47 : decode cX6_restore 47 = .ok (.bipush 48, 2) := by decide +kernel
theorem dX6_restore_49 : decode cX6_restore 49 = .ok (.iload_n 1, 1) := by decide +kernel
theorem dX6_restore_50 : decode cX6_restore 50 = .ok (.iadd, 1) := by decide +kernel
theorem dX6_restore_51 : decode cX6_restore 51 = .ok (.iaload, 1) := by decide +kernel
theorem dX6_restore_52 : decode cX6_restore 52 = .ok (.iastore, 1) := by decide +kernel
theorem dX6_restore_53 : decode cX6_restore 53 = .ok (.aload_n 0, 1) := by decide +kernel
theorem dX6_restore_54 : decode cX6_restore 54 = .ok (.getfield 16, 3) := by decide +kernel
theorem dX6_restore_57 : decode cX6_restore 57 = .ok (.iload_n 1, 1) := by decide +kernel
theorem dX6_restore_58 : decode cX6_restore 58 = .ok (.aload_n 0, 1) := by decide +kernel
theorem dX6_restore_59 : decode cX6_restore 59 = .ok (.getfield 31, 3) := by decide +kernel
theorem dX6_restore_62 : decode cX6_restore 62 = .ok (.bipush 96, 2) := by decide +kernel
theorem dX6_restore_64 : decode cX6_restore 64 = .ok (.iload_n 1, 1) := by decide +kernel
theorem dX6_restore_65 : decode cX6_restore 65 = .ok (.iadd, 1) := by decide +kernel
theorem dX6_restore_66 : decode cX6_restore 66 = .ok (.iaload, 1) := by decide +kernel
theorem dX6_restore_67 : decode cX6_restore 67 = .ok (.iastore, 1) := by decide +kernel
theorem dX6_restore_68 : decode cX6_restore 68 = .ok (.aload_n 0, 1) := by decide +kernel
theorem dX6_restore_69 : decode cX6_restore 69 = .ok (.getfield 19, 3) := by decide +kernel
theorem dX6_restore_72 : decode cX6_restore 72 = .ok (.iload_n 1, 1) := by decide +kernel
theorem dX6_restore_73 : decode cX6_restore 73 = .ok (.aload_n 0, 1) := by decide +kernel
theorem dX6_restore_74 : decode cX6_restore 74 = .ok (.getfield 31, 3) := by decide +kernel
theorem dX6_restore_77 : decode cX6_restore 77 = .ok (.sipush 144, 3) := by decide +kernel
theorem dX6_restore_80 : decode cX6_restore 80 = .ok (.iload_n 1, 1) := by decide +kernel
theorem dX6_restore_81 : decode cX6_restore 81 = .ok (.iadd, 1) := by decide +kernel
theorem dX6_restore_82 : decode cX6_restore 82 = .ok (.iaload, 1) := by decide +kernel
theorem dX6_restore_83 : decode cX6_restore 83 = .ok (.iastore, 1) := by decide +kernel
theorem dX6_restore_84 : decode cX6_restore 84 = .ok (.iinc 1 1, 3) := by decide +kernel
theorem dX6_restore_87 : decode cX6_restore 87 = .ok (.goto (-67), 3) := by decide +kernel
theorem dX6_restore_90 : decode cX6_restore 90 = .ok (.aload_n 0, 1) := by decide +kernel
theorem dX6_restore_91 : decode cX6_restore 91 = .ok (.iconst 0, 1) := by decide +kernel
theorem dX6_restore_92 : decode cX6_restore 92 = .ok (.invokevirtual 73, 3) := by decide +kernel
theorem dX6_restore_95 : decode cX6_restore 95 = .ok (.ireturn, 1) := by decide +kernel
theorem dX6_sheet_0 : decode cX6_sheet 0 = .ok (.iload_n 1, 1) := by decide +kernel
theorem dX6_sheet_1 : decode cX6_sheet 1 = .ok (.iconst 0, 1) := by decide +kernel
theorem dX6_sheet_2 : decode cX6_sheet 2 = .ok (.iconst 3, 1) := by decide +kernel
theorem dX6_sheet_3 : decode cX6_sheet 3 = .ok (.invokestatic 69, 3) := by decide +kernel
theorem dX6_sheet_6 : decode cX6_sheet 6 = .ok (.ifCond .eq 23, 3) := by decide +kernel
theorem dX6_sheet_9 : decode cX6_sheet 9 = .ok (.iload_n 2, 1) := by decide +kernel
theorem dX6_sheet_10 : decode cX6_sheet 10 = .ok (.iconst (-1), 1) := by decide +kernel
theorem dX6_sheet_11 : decode cX6_sheet 11 = .ok (.iconst 2, 1) := by decide +kernel
theorem dX6_sheet_12 : decode cX6_sheet 12 = .ok (.invokestatic 69, 3) := by decide +kernel
theorem dX6_sheet_15 : decode cX6_sheet 15 = .ok (.ifCond .eq 14, 3) := by decide +kernel
theorem dX6_sheet_18 : decode cX6_sheet 18 = .ok (.iload_n 2, 1) := by decide +kernel
theorem dX6_sheet_19 : decode cX6_sheet 19 = .ok (.iconst (-1), 1) := by decide +kernel
theorem dX6_sheet_20 : decode cX6_sheet 20 = .ok (.if_icmp .eq 12, 3) := by decide +kernel
theorem dX6_sheet_23 : decode cX6_sheet 23 = .ok (.iload_n 3, 1) := by decide +kernel
theorem dX6_sheet_24 : decode cX6_sheet 24 = .ok (.bipush 48, 2) := by decide +kernel
theorem dX6_sheet_26 : decode cX6_sheet 26 = .ok (.if_icmp .le 6, 3) := by decide +kernel
theorem dX6_sheet_29 : decode cX6_sheet 29 = .ok (.bipush (-2), 2) := by decide +kernel
theorem dX6_sheet_31 : decode cX6_sheet 31 = .ok (.ireturn, 1) := by decide +kernel
theorem dX6_sheet_32 : decode cX6_sheet 32 = .ok (.iload_n 2, 1) := by decide +kernel
theorem dX6_sheet_33 : decode cX6_sheet 33 = .ok (.iconst (-1), 1) := by decide +kernel
theorem dX6_sheet_34 : decode cX6_sheet 34 = .ok (.if_icmp .eq 10, 3) := by decide +kernel
theorem dX6_sheet_37 : decode cX6_sheet 37 = .ok (.iload_n 3, 1) := by decide +kernel
theorem dX6_sheet_38 : decode cX6_sheet 38 = .ok (.ifCond .ge 6, 3) := by decide +kernel
theorem dX6_sheet_41 : decode cX6_sheet 41 = .ok (.bipush (-14), 2) := by decide +kernel
theorem dX6_sheet_43 : decode cX6_sheet 43 = .ok (.ireturn, 1) := by decide +kernel
theorem dX6_sheet_44 : decode cX6_sheet 44 = .ok (.aload_n 0, 1) := by decide +kernel
theorem dX6_sheet_45 : decode cX6_sheet 45 = .ok (.getfield 34, 3) := by decide +kernel
theorem dX6_sheet_48 : decode cX6_sheet 48 = .ok (.iload_n 1, 1) := by decide +kernel
theorem dX6_sheet_49 : decode cX6_sheet 49 = .ok (.iload_n 2, 1) := by decide +kernel
theorem dX6_sheet_50 : decode cX6_sheet 50 = .ok (.iastore, 1) := by decide +kernel
theorem dX6_sheet_51 : decode cX6_sheet 51 = .ok (.aload_n 0, 1) := by decide +kernel
theorem dX6_sheet_52 : decode cX6_sheet 52 = .ok (.getfield 37, 3) := by decide +kernel
theorem dX6_sheet_55 : decode cX6_sheet 55 = .ok (.iload_n 1, 1) := by decide +kernel
theorem dX6_sheet_56 : decode cX6_sheet 56 = .ok (.iload_n 2, 1) := by decide +kernel
theorem dX6_sheet_57 : decode cX6_sheet 57 = .ok (.iconst (-1), 1) := by decide +kernel
theorem dX6_sheet_58 : decode cX6_sheet 58 = .ok (.if_icmp .ne 7, 3) := by decide +kernel
theorem dX6_sheet_61 : decode cX6_sheet 61 = .ok (.iconst 0, 1) := by decide +kernel
theorem dX6_sheet_62 : decode cX6_sheet 62 = .ok (.goto 4, 3) := by decide +kernel
theorem dX6_sheet_65 : decode cX6_sheet 65 = .ok (.iload_n 3, 1) := by decide +kernel
theorem dX6_sheet_66 : decode cX6_sheet 66 = .ok (.iastore, 1) := by decide +kernel
theorem dX6_sheet_67 : decode cX6_sheet 67 = .ok (.iconst 0, 1) := by decide +kernel
theorem dX6_sheet_68 : decode cX6_sheet 68 = .ok (.istore 4, 2) := by decide +kernel
theorem dX6_sheet_70 : decode cX6_sheet 70 = .ok (.iload 4, 2) := by decide +kernel
theorem dX6_sheet_72 : decode cX6_sheet 72 = .ok (.bipush 48, 2) := by decide +kernel
theorem dX6_sheet_74 : decode cX6_sheet 74 = .ok (.if_icmp .ge 22, 3) := by decide +kernel
theorem dX6_sheet_77 : decode cX6_sheet 77 = .ok (.aload_n 0, 1) := by decide +kernel
theorem dX6_sheet_78 : decode cX6_sheet 78 = .ok (.getfield 40, 3) := by decide +kernel
theorem dX6_sheet_81 : decode cX6_sheet 81 = .ok (.bipush 48, 2) := by decide +kernel
theorem dX6_sheet_83 : decode cX6_sheet 83 = .ok (.iload_n 1, 1) := by decide +kernel
theorem dX6_sheet_84 : decode cX6_sheet 84 = .ok (.imul, 1) := by decide +kernel
theorem dX6_sheet_85 : decode cX6_sheet 85 = .ok (.iload 4, 2) := by decide +kernel
theorem dX6_sheet_87 : decode cX6_sheet 87 = .ok (.iadd, 1) := by decide +kernel
theorem dX6_sheet_88 : decode cX6_sheet 88 = .ok (.iconst 0, 1) := by decide +kernel
theorem dX6_sheet_89 : decode cX6_sheet 89 = .ok (.iastore, 1) := by decide +kernel
theorem dX6_sheet_90 : decode cX6_sheet 90 = .ok (.iinc 4 1, 3) := by decide +kernel
theorem dX6_sheet_93 : decode cX6_sheet 93 = .ok (.goto (-23), 3) := by decide +kernel
theorem dX6_sheet_96 : decode cX6_sheet 96 = .ok (.iconst 1, 1) := by decide +kernel
theorem dX6_sheet_97 : decode cX6_sheet 97 = .ok (.ireturn, 1) := by decide +kernel
theorem dX6_cell_0 : decode cX6_cell 0 = .ok (.iload_n 1, 1) := by decide +kernel
theorem dX6_cell_1 : decode cX6_cell 1 = .ok (.iconst 0, 1) := by decide +kernel
theorem dX6_cell_2 : decode cX6_cell 2 = .ok (.iconst 3, 1) := by decide +kernel
theorem dX6_cell_3 : decode cX6_cell 3 = .ok (.invokestatic 69, 3) := by decide +kernel
theorem dX6_cell_6 : decode cX6_cell 6 = .ok (.ifCond .ne 6, 3) := by decide +kernel
theorem dX6_cell_9 : decode cX6_cell 9 = .ok (.bipush (-2), 2) := by decide +kernel
theorem dX6_cell_11 : decode cX6_cell 11 = .ok (.ireturn, 1) := by decide +kernel
theorem dX6_cell_12 : decode cX6_cell 12 = .ok (.aload_n 0, 1) := by decide +kernel
theorem dX6_cell_13 : decode cX6_cell 13 = .ok (.getfield 34, 3) := by decide +kernel
theorem dX6_cell_16 : decode cX6_cell 16 = .ok (.iload_n 1, 1) := by decide +kernel
theorem dX6_cell_17 : decode cX6_cell 17 = .ok (.iaload, 1) := by decide +kernel
theorem dX6_cell_18 : decode cX6_cell 18 = .ok (.iconst (-1), 1) := by decide +kernel
theorem dX6_cell_19 : decode cX6_cell 19 = .ok (.if_icmp .ne 6, 3) := by decide +kernel
theorem dX6_cell_22 : decode cX6_cell 22 = .ok (.bipush (-11), 2) := by decide +kernel
theorem dX6_cell_24 : decode cX6_cell 24 = .ok (.ireturn, 1) := by decide +kernel
theorem dX6_cell_25 : decode cX6_cell 25 = .ok (.iload_n 2, 1) := by decide +kernel
theorem dX6_cell_26 : decode cX6_cell 26 = .ok (.iconst 0, 1) := by decide +kernel
theorem dX6_cell_27 : decode cX6_cell 27 = .ok (.aload_n 0, 1) := by decide +kernel
theorem dX6_cell_28 : decode cX6_cell 28 = .ok (.getfield 37, 3) := by decide +kernel
theorem dX6_cell_31 : decode cX6_cell 31 = .ok (.iload_n 1, 1) := by decide +kernel
theorem dX6_cell_32 : decode cX6_cell 32 = .ok (.iaload, 1) := by decide +kernel
theorem dX6_cell_33 : decode cX6_cell 33 = .ok (.iconst 1, 1) := by decide +kernel
theorem dX6_cell_34 : decode cX6_cell 34 = .ok (.isub, 1) := by decide +kernel
theorem dX6_cell_35 : decode cX6_cell 35 = .ok (.invokestatic 69, 3) := by decide +kernel
theorem dX6_cell_38 : decode cX6_cell 38 = .ok (.ifCond .ne 6, 3) := by decide +kernel
theorem dX6_cell_41 : decode cX6_cell 41 = .ok (.bipush (-12), 2) := by decide +kernel
theorem dX6_cell_43 : decode cX6_cell 43 = .ok (.ireturn, 1) := by decide +kernel
theorem dX6_cell_44 : decode cX6_cell 44 = .ok (.aload_n 0, 1) := by decide +kernel
theorem dX6_cell_45 : decode cX6_cell 45 = .ok (.getfield 40, 3) := by decide +kernel
theorem dX6_cell_48 : decode cX6_cell 48 = .ok (.bipush 48, 2) := by decide +kernel
theorem dX6_cell_50 : decode cX6_cell 50 = .ok (.iload_n 1, 1) := by decide +kernel
theorem dX6_cell_51 : decode cX6_cell 51 = .ok (.imul, 1) := by decide +kernel
theorem dX6_cell_52 : decode cX6_cell 52 = .ok (.iload_n 2, 1) := by decide +kernel
theorem dX6_cell_53 : decode cX6_cell 53 = .ok (.iadd, 1) := by decide +kernel
theorem dX6_cell_54 : decode cX6_cell 54 = .ok (.aload_n 0, 1) := by decide +kernel
theorem dX6_cell_55 : decode cX6_cell 55 = .ok (.getfield 34, 3) := by decide +kernel
theorem dX6_cell_58 : decode cX6_cell 58 = .ok (.iload_n 1, 1) := by decide +kernel
theorem dX6_cell_59 : decode cX6_cell 59 = .ok (.iaload, 1) := by decide +kernel
theorem dX6_cell_60 : decode cX6_cell 60 = .ok (.ifCond .ne 8, 3) := by decide +kernel
theorem dX6_cell_63 : decode cX6_cell 63 = .ok (.iload_n 3, 1) := by decide +kernel
theorem dX6_cell_64 : decode cX6_cell 64 = .ok (.i2b, 1) := by decide +kernel
theorem dX6_cell_65 : decode cX6_cell 65 = .ok (.goto 19, 3) := by decide +kernel
theorem dX6_cell_68 : decode cX6_cell 68 = .ok (.aload_n 0, 1) := by decide +kernel
theorem dX6_cell_69 : decode cX6_cell 69 = .ok (.getfield 34, 3) := by decide +kernel
theorem dX6_cell_72 : decode cX6_cell 72 = .ok (.iload_n 1, 1) := by decide +kernel
theorem dX6_cell_73 : decode cX6_cell 73 = .ok (.iaload, 1) := by decide +kernel
theorem dX6_cell_74 : decode cX6_cell 74 = .ok (.iconst 1, 1) := by decide +kernel
theorem dX6_cell_75 : decode cX6_cell 75 = .ok (.if_icmp .ne 8, 3) := by decide +kernel
theorem dX6_cell_78 : decode cX6_cell 78 = .ok (.iload_n 3, 1) := by decide +kernel
theorem dX6_cell_79 : decode cX6_cell 79 = .ok (.i2s, 1) := by decide +kernel
theorem dX6_cell_80 : decode cX6_cell 80 = .ok (.goto 4, 3) := by decide +kernel
theorem dX6_cell_83 : decode cX6_cell 83 = .ok (.iload_n 3, 1) := by decide +kernel
theorem dX6_cell_84 : decode cX6_cell 84 = .ok (.iastore, 1) := by decide +kernel
theorem dX6_cell_85 : decode cX6_cell 85 = .ok (.iconst 1, 1) := by decide +kernel
theorem dX6_cell_86 : decode cX6_cell 86 = .ok (.ireturn, 1) := by decide +kernel
theorem dX6_copy_0 : decode cX6_copy 0 = .ok (.iload_n 1, 1) := by decide +kernel
theorem dX6_copy_1 : decode cX6_copy 1 = .ok (.iconst 0, 1) := by decide +kernel
theorem dX6_copy_2 : decode cX6_copy 2 = .ok (.iconst 3, 1) := by decide +kernel
theorem dX6_copy_3 : decode cX6_copy 3 = .ok (.invokestatic 69, 3) := by decide +kernel
theorem dX6_copy_6 : decode cX6_copy 6 = .ok (.ifCond .eq 12, 3) := by decide +kernel
theorem dX6_copy_9 : decode cX6_copy 9 = .ok (.iload_n 3, 1) := by decide +kernel
theorem dX6_copy_10 : decode cX6_copy 10 = .ok (.iconst 0, 1) := by decide +kernel
theorem dX6_copy_11 : decode cX6_copy 11 = .ok (.iconst 3, 1) := by decide +kernel
theorem dX6_copy_12 : decode cX6_copy 12 = .ok (.invokestatic 69, 3) := by decide +kernel
theorem dX6_copy_15 : decode cX6_copy 15 = .ok (.ifCond .ne 6, 3) := by decide +kernel
theorem dX6_copy_18 : decode cX6_copy 18 = .ok (.bipush (-2), 2) := by decide +kernel
theorem dX6_copy_20 : decode cX6_copy 20 = .ok (.ireturn, 1) := by decide +kernel
theorem dX6_copy_21 : decode cX6_copy 21 = .ok (.aload_n 0, 1) := by decide +kernel
theorem dX6_copy_22 : decode cX6_copy 22 = .ok (.getfield 34, 3) := by decide +kernel
theorem dX6_copy_25 : decode cX6_copy 25 = .ok (.iload_n 1, 1) := by decide +kernel
theorem dX6_copy_26 : decode cX6_copy 26 = .ok (.iaload, 1) := by decide +kernel
theorem dX6_copy_27 : decode cX6_copy 27 = .ok (.iconst (-1), 1) := by decide +kernel
theorem dX6_copy_28 : decode cX6_copy 28 = .ok (.if_icmp .eq 13, 3) := by decide +kernel
theorem dX6_copy_31 : decode cX6_copy 31 = .ok (.aload_n 0, 1) := by decide +kernel
theorem dX6_copy_32 : decode cX6_copy 32 = .ok (.getfield 34, 3) := by decide +kernel
theorem dX6_copy_35 : decode cX6_copy 35 = .ok (.iload_n 3, 1) := by decide +kernel
theorem dX6_copy_36 : decode cX6_copy 36 = .ok (.iaload, 1) := by decide +kernel
theorem dX6_copy_37 : decode cX6_copy 37 = .ok (.iconst (-1), 1) := by decide +kernel
theorem dX6_copy_38 : decode cX6_copy 38 = .ok (.if_icmp .ne 6, 3) := by decide +kernel
theorem dX6_copy_41 : decode cX6_copy 41 = .ok (.bipush (-11), 2) := by decide +kernel
theorem dX6_copy_43 : decode cX6_copy 43 = .ok (.ireturn, 1) := by decide +kernel
theorem dX6_copy_44 : decode cX6_copy 44 = .ok (.aload_n 0, 1) := by decide +kernel
theorem dX6_copy_45 : decode cX6_copy 45 = .ok (.getfield 34, 3) := by decide +kernel
theorem dX6_copy_48 : decode cX6_copy 48 = .ok (.iload_n 1, 1) := by decide +kernel
theorem dX6_copy_49 : decode cX6_copy 49 = .ok (.iaload, 1) := by decide +kernel
theorem dX6_copy_50 : decode cX6_copy 50 = .ok (.aload_n 0, 1) := by decide +kernel
theorem dX6_copy_51 : decode cX6_copy 51 = .ok (.getfield 34, 3) := by decide +kernel
theorem dX6_copy_54 : decode cX6_copy 54 = .ok (.iload_n 3, 1) := by decide +kernel
theorem dX6_copy_55 : decode cX6_copy 55 = .ok (.iaload, 1) := by decide +kernel
theorem dX6_copy_56 : decode cX6_copy 56 = .ok (.if_icmp .eq 6, 3) := by decide +kernel
theorem dX6_copy_59 : decode cX6_copy 59 = .ok (.bipush (-13), 2) := by decide +kernel
theorem dX6_copy_61 : decode cX6_copy 61 = .ok (.ireturn, 1) := by decide +kernel
theorem dX6_copy_62 : decode cX6_copy 62 = .ok (.iload 5, 2) := by decide +kernel
theorem dX6_copy_64 : decode cX6_copy 64 = .ok (.ifCond .lt 60, 3) := by decide +kernel
theorem dX6_copy_67 : decode cX6_copy 67 = .ok (.iload_n 2, 1) := by decide +kernel
theorem dX6_copy_68 : decode cX6_copy 68 = .ok (.ifCond .lt 56, 3) := by decide +kernel
theorem dX6_copy_71 : decode cX6_copy 71 = .ok (.iload 4, 2) := by decide +kernel
theorem dX6_copy_73 : decode cX6_copy 73 = .ok (.ifCond .lt 51, 3) := by decide +kernel
theorem dX6_copy_76 : decode cX6_copy 76 = .ok (.iload_n 2, 1) := by decide +kernel
theorem dX6_copy_77 : decode cX6_copy 77 = .ok (.aload_n 0, 1) := by decide +kernel
theorem dX6_copy_78 : decode cX6_copy 78 = .ok (.getfield 37, 3) := by decide +kernel
theorem dX6_copy_81 : decode cX6_copy 81 = .ok (.iload_n 1, 1) := by decide +kernel
theorem dX6_copy_82 : decode cX6_copy 82 = .ok (.iaload, 1) := by decide +kernel
theorem dX6_copy_83 : decode cX6_copy 83 = .ok (.if_icmp .gt 41, 3) := by decide +kernel
theorem dX6_copy_86 : decode cX6_copy 86 = .ok (.iload 4, 2) := by decide +kernel
theorem dX6_copy_88 : decode cX6_copy 88 = .ok (.aload_n 0, 1) := by decide +kernel
theorem dX6_copy_89 : decode cX6_copy 89 = .ok (.getfield 37, 3) := by decide +kernel
theorem dX6_copy_92 : decode cX6_copy 92 = .ok (.iload_n 3, 1) := by decide +kernel
theorem dX6_copy_93 : decode cX6_copy 93 = .ok (.iaload, 1) := by decide +kernel
theorem dX6_copy_94 : decode cX6_copy 94 = .ok (.if_icmp .gt 30, 3) := by decide +kernel
theorem dX6_copy_97 : decode cX6_copy 97 = .ok (.iload 5, 2) := by decide +kernel
theorem dX6_copy_99 : decode cX6_copy 99 = .ok (.aload_n 0, 1) := by decide +kernel
theorem dX6_copy_100 : decode cX6_copy 100 = .ok (.getfield 37, 3) := by decide +kernel
theorem dX6_copy_103 : decode cX6_copy 103 = .ok (.iload_n 1, 1) := by decide +kernel
theorem dX6_copy_104 : decode cX6_copy 104 = .ok (.iaload, 1) := by decide +kernel
theorem dX6_copy_105 : decode cX6_copy 105 = .ok (.iload_n 2, 1) := by decide +kernel
theorem dX6_copy_106 : decode cX6_copy 106 = .ok (.isub, 1) := by decide +kernel
theorem dX6_copy_107 : decode cX6_copy 107 = .ok (.if_icmp .gt 17, 3) := by decide +kernel
theorem dX6_copy_110 : decode cX6_copy 110 = .ok (.iload 5, 2) := by decide +kernel
theorem dX6_copy_112 : decode cX6_copy 112 = .ok (.aload_n 0, 1) := by decide +kernel
theorem dX6_copy_113 : decode cX6_copy 113 = .ok (.getfield 37, 3) := by decide +kernel
theorem dX6_copy_116 : decode cX6_copy 116 = .ok (.iload_n 3, 1) := by decide +kernel
theorem dX6_copy_117 : decode cX6_copy 117 = .ok (.iaload, 1) := by decide +kernel
theorem dX6_copy_118 : decode cX6_copy 118 = .ok (.iload 4, 2) := by decide +kernel
theorem dX6_copy_120 : decode cX6_copy 120 = .ok (.isub, 1) := by decide +kernel
theorem dX6_copy_121 : decode cX6_copy 121 = .ok (.if_icmp .le 6, 3) := by decide +kernel
theorem dX6_copy_124 : decode cX6_copy 124 = .ok (.bipush (-12), 2) := by decide +kernel
theorem dX6_copy_126 : decode cX6_copy 126 = .ok (.ireturn, 1) := by decide +kernel
theorem dX6_copy_127 : decode cX6_copy 127 = .ok (.bipush 48, 2) := by decide +kernel
theorem dX6_copy_129 : decode cX6_copy 129 = .ok (.iload_n 1, 1) := by decide +kernel
theorem dX6_copy_130 : decode cX6_copy 130 = .ok (.imul, 1) := by decide +kernel
theorem dX6_copy_131 : decode cX6_copy 131 = .ok (.iload_n 2, 1) := by decide +kernel
theorem dX6_copy_132 : decode cX6_copy 132 = .ok (.iadd, 1) := by decide +kernel
theorem dX6_copy_133 : decode cX6_copy 133 = .ok (.istore 6, 2) := by decide +kernel
theorem dX6_copy_135 : decode cX6_copy 135 = .ok (.bipush 48, 2) := by decide +kernel
theorem dX6_copy_137 : decode cX6_copy 137 = .ok (.iload_n 3, 1) := by decide +kernel
theorem dX6_copy_138 : decode cX6_copy 138 = .ok (.imul, 1) := by decide +kernel
theorem dX6_copy_139 : decode cX6_copy 139 = .ok (.iload 4, 2) := by decide +kernel
theorem dX6_copy_141 : decode cX6_copy 141 = .ok (.iadd, 1) := by decide +kernel
theorem dX6_copy_142 : decode cX6_copy 142 = .ok (.istore 7, 2) := by decide +kernel
theorem dX6_copy_144 : decode cX6_copy 144 = .ok (.iconst 0, 1) := by decide +kernel
theorem dX6_copy_145 : decode cX6_copy 145 = .ok (.istore 8, 2) := by decide +kernel
theorem dX6_copy_147 : decode cX6_copy 147 = .ok (.iload 8, 2) := by decide +kernel
theorem dX6_copy_149 : decode cX6_copy 149 = .ok (.iload 5, 2) := by decide +kernel
theorem dX6_copy_151 : decode cX6_copy 151 = .ok (.if_icmp .ge 50, 3) := by decide +kernel
theorem dX6_copy_154 : decode cX6_copy 154 = .ok (.iload 6, 2) := by decide +kernel
theorem dX6_copy_156 : decode cX6_copy 156 = .ok (.iload 7, 2) := by decide +kernel
theorem dX6_copy_158 : decode cX6_copy 158 = .ok (.if_icmp .ge 13, 3) := by decide +kernel
theorem dX6_copy_161 : decode cX6_copy 161 = .ok (.iload 5, 2) := by decide +kernel
theorem dX6_copy_163 : decode cX6_copy 163 = .ok (.iconst 1, 1) := by decide +kernel
theorem dX6_copy_164 : decode cX6_copy 164 = .ok (.isub, 1) := by decide +kernel
theorem dX6_copy_165 : decode cX6_copy 165 = .ok (.iload 8, 2) := by decide +kernel
theorem dX6_copy_167 : decode cX6_copy 167 = .ok (.isub, 1) := by decide +kernel
theorem dX6_copy_168 : decode cX6_copy 168 = .ok (.goto 5, 3) := by decide +kernel
theorem dX6_copy_171 : decode cX6_copy 171 = .ok (.iload 8, 2) := by decide +kernel
theorem dX6_copy_173 : decode cX6_copy 173 = .ok (.istore 9, 2) := by decide +kernel
theorem dX6_copy_175 : decode cX6_copy 175 = .ok (.aload_n 0, 1) := by decide +kernel
theorem dX6_copy_176 : decode cX6_copy 176 = .ok (.getfield 40, 3) := by decide +kernel
theorem dX6_copy_179 : decode cX6_copy 179 = .ok (.iload 7, 2) := by decide +kernel
theorem dX6_copy_181 : decode cX6_copy 181 = .ok (.iload 9, 2) := by decide +kernel
theorem dX6_copy_183 : decode cX6_copy 183 = .ok (.iadd, 1) := by decide +kernel
theorem dX6_copy_184 : decode cX6_copy 184 = .ok (.aload_n 0, 1) := by decide +kernel
theorem dX6_copy_185 : decode cX6_copy 185 = .ok (.getfield 40, 3) := by decide +kernel
theorem dX6_copy_188 : decode cX6_copy 188 = .ok (.iload 6, 2) := by decide +kernel
theorem dX6_copy_190 : decode cX6_copy 190 = .ok (.iload 9, 2) := by decide +kernel
theorem dX6_copy_192 : decode cX6_copy 192 = .ok (.iadd, 1) := by decide +kernel
theorem dX6_copy_193 : decode cX6_copy 193 = .ok (.iaload, 1) := by decide +kernel
theorem dX6_copy_194 : decode cX6_copy 194 = .ok (.iastore, 1) := by decide +kernel
theorem dX6_copy_195 : decode cX6_copy 195 = .ok (.iinc 8 1, 3) := by decide +kernel
theorem dX6_copy_198 : decode cX6_copy 198 = .ok (.goto (-51), 3) := by decide +kernel
theorem dX6_copy_201 : decode cX6_copy 201 = .ok (.iload 5, 2) := by decide +kernel
theorem dX6_copy_203 : decode cX6_copy 203 = .ok (.ireturn, 1) := by decide +kernel
theorem dX6_knits_0 : decode cX6_knits 0 = .ok (.iload_n 1, 1) := by decide +kernel
theorem dX6_knits_1 : decode cX6_knits 1 = .ok (.iconst 0, 1) := by decide +kernel
theorem dX6_knits_2 : decode cX6_knits 2 = .ok (.iconst 3, 1) := by decide +kernel
theorem dX6_knits_3 : decode cX6_knits 3 = .ok (.invokestatic 69, 3) := by decide +kernel
theorem dX6_knits_6 : decode cX6_knits 6 = .ok (.ifCond .eq 23, 3) := by decide +kernel
theorem dX6_knits_9 : decode cX6_knits 9 = .ok (.iload_n 2, 1) := by decide +kernel
theorem dX6_knits_10 : decode cX6_knits 10 = .ok (.iconst 0, 1) := by decide +kernel
theorem dX6_knits_11 : decode cX6_knits 11 = .ok (.iconst 2, 1) := by decide +kernel
theorem dX6_knits_12 : decode cX6_knits 12 = .ok (.invokestatic 69, 3) := by decide +kernel
theorem dX6_knits_15 : decode cX6_knits 15 = .ok (.ifCond .eq 14, 3) := by decide +kernel
theorem dX6_knits_18 : decode cX6_knits 18 = .ok (.iload 4, 2) := by decide +kernel
theorem dX6_knits_20 : decode cX6_knits 20 = .ok (.iconst 0, 1) := by decide +kernel
theorem dX6_knits_21 : decode cX6_knits 21 = .ok (.bipush 16, 2) := by decide +kernel
theorem dX6_knits_23 : decode cX6_knits 23 = .ok (.invokestatic 69, 3) := by decide +kernel
theorem dX6_knits_26 : decode cX6_knits 26 = .ok (.ifCond .ne 6, 3) := by decide +kernel
theorem dX6_knits_29 : decode cX6_knits 29 = .ok (.bipush (-2), 2) := by decide +kernel
theorem dX6_knits_31 : decode cX6_knits 31 = .ok (.ireturn, 1) := by decide +kernel
theorem dX6_knits_32 : decode cX6_knits 32 = .ok (.aload_n 0, 1) := by decide +kernel
theorem dX6_knits_33 : decode cX6_knits 33 = .ok (.getfield 34, 3) := by decide +kernel
theorem dX6_knits_36 : decode cX6_knits 36 = .ok (.iload_n 1, 1) := by decide +kernel
theorem dX6_knits_37 : decode cX6_knits 37 = .ok (.iaload, 1) := by decide +kernel
theorem dX6_knits_38 : decode cX6_knits 38 = .ok (.iconst (-1), 1) := by decide +kernel
theorem dX6_knits_39 : decode cX6_knits 39 = .ok (.if_icmp .ne 6, 3) := by decide +kernel
theorem dX6_knits_42 : decode cX6_knits 42 = .ok (.bipush (-11), 2) := by decide +kernel
theorem dX6_knits_44 : decode cX6_knits 44 = .ok (.ireturn, 1) := by decide +kernel
theorem dX6_knits_45 : decode cX6_knits 45 = .ok (.aload_n 0, 1) := by decide +kernel
theorem dX6_knits_46 : decode cX6_knits 46 = .ok (.getfield 34, 3) := by decide +kernel
theorem dX6_knits_49 : decode cX6_knits 49 = .ok (.iload_n 1, 1) := by decide +kernel
theorem dX6_knits_50 : decode cX6_knits 50 = .ok (.iaload, 1) := by decide +kernel
theorem dX6_knits_51 : decode cX6_knits 51 = .ok (.iload_n 2, 1) := by decide +kernel
theorem dX6_knits_52 : decode cX6_knits 52 = .ok (.if_icmp .eq 6, 3) := by decide +kernel
theorem dX6_knits_55 : decode cX6_knits 55 = .ok (.bipush (-13), 2) := by decide +kernel
theorem dX6_knits_57 : decode cX6_knits 57 = .ok (.ireturn, 1) := by decide +kernel
theorem dX6_knits_58 : decode cX6_knits 58 = .ok (.iconst 0, 1) := by decide +kernel
theorem dX6_knits_59 : decode cX6_knits 59 = .ok (.istore 5, 2) := by decide +kernel
theorem dX6_knits_61 : decode cX6_knits 61 = .ok (.iconst 0, 1) := by decide +kernel
theorem dX6_knits_62 : decode cX6_knits 62 = .ok (.istore 6, 2) := by decide +kernel
theorem dX6_knits_64 : decode cX6_knits 64 = .ok (.iload 6, 2) := by decide +kernel
theorem dX6_knits_66 : decode cX6_knits 66 = .ok (.iload 4, 2) := by decide +kernel
theorem dX6_knits_68 : decode cX6_knits 68 = .ok (.if_icmp .ge 94, 3) := by decide +kernel
theorem dX6_knits_71 : decode cX6_knits 71 = .ok (.iload_n 3, 1) := by decide +kernel
theorem dX6_knits_72 : decode cX6_knits 72 = .ok (.iconst 3, 1) := by decide +kernel
theorem dX6_knits_73 : decode cX6_knits 73 = .ok (.iload 6, 2) := by decide +kernel
theorem dX6_knits_75 : decode cX6_knits 75 = .ok (.imul, 1) := by decide +kernel
theorem dX6_knits_76 : decode cX6_knits 76 = .ok (.iadd, 1) := by decide +kernel
theorem dX6_knits_77 : decode cX6_knits 77 = .ok (.istore 7, 2) := by decide +kernel
theorem dX6_knits_79 : decode cX6_knits 79 = .ok (.iload_n 3, 1) := by decide +kernel
theorem dX6_knits_80 : decode cX6_knits 80 = .ok (.ifCond .lt 22, 3) := by decide +kernel
theorem dX6_knits_83 : decode cX6_knits 83 = .ok (.iload 7, 2) := by decide +kernel
theorem dX6_knits_85 : decode cX6_knits 85 = .ok (.iload_n 3, 1) := by decide +kernel
theorem dX6_knits_86 : decode cX6_knits 86 = .ok (.if_icmp .lt 16, 3) := by decide +kernel
theorem dX6_knits_89 : decode cX6_knits 89 = .ok (.iload 7, 2) := by decide +kernel
theorem dX6_knits_91 : decode cX6_knits 91 = .ok (.aload_n 0, 1) := by decide +kernel
theorem dX6_knits_92 : decode cX6_knits 92 = .ok (.getfield 37, 3) := by decide +kernel
theorem dX6_knits_95 : decode cX6_knits 95 = .ok (.iload_n 1, 1) := by decide +kernel
theorem dX6_knits_96 : decode cX6_knits 96 = .ok (.iaload, 1) := by decide +kernel
theorem dX6_knits_97 : decode cX6_knits 97 = .ok (.iconst 3, 1) := by decide +kernel
theorem dX6_knits_98 : decode cX6_knits 98 = .ok (.isub, 1) := by decide +kernel
theorem dX6_knits_99 : decode cX6_knits 99 = .ok (.if_icmp .le 6, 3) := by decide +kernel
theorem dX6_knits_102 : decode cX6_knits 102 = .ok (.bipush (-12), 2) := by decide +kernel
theorem dX6_knits_104 : decode cX6_knits 104 = .ok (.ireturn, 1) := by decide +kernel
theorem dX6_knits_105 : decode cX6_knits 105 = .ok (.bipush 48, 2) := by decide +kernel
theorem dX6_knits_107 : decode cX6_knits 107 = .ok (.iload_n 1, 1) := by decide +kernel
theorem dX6_knits_108 : decode cX6_knits 108 = .ok (.imul, 1) := by decide +kernel
theorem dX6_knits_109 : decode cX6_knits 109 = .ok (.iload 7, 2) := by decide +kernel
theorem dX6_knits_111 : decode cX6_knits 111 = .ok (.iadd, 1) := by decide +kernel
theorem dX6_knits_112 : decode cX6_knits 112 = .ok (.istore 8, 2) := by decide +kernel
theorem dX6_knits_114 : decode cX6_knits 114 = .ok (.iload 5, 2) := by decide +kernel
theorem dX6_knits_116 : decode cX6_knits 116 = .ok (.aload_n 0, 1) := by decide +kernel
theorem dX6_knits_117 : decode cX6_knits 117 = .ok (.aload_n 0, 1) := by decide +kernel
theorem dX6_knits_118 : decode cX6_knits 118 = .ok (.getfield 40, 3) := by decide +kernel
theorem dX6_knits_121 : decode cX6_knits 121 = .ok (.iload 8, 2) := by decide +kernel
theorem dX6_knits_123 : decode cX6_knits 123 = .ok (.iaload, 1) := by decide +kernel
theorem dX6_knits_124 : decode cX6_knits 124 = .ok (.aload_n 0, 1) := by decide +kernel
theorem dX6_knits_125 : decode cX6_knits 125 = .ok (.getfield 40, 3) := by decide +kernel
theorem dX6_knits_128 : decode cX6_knits 128 = .ok (.iload 8, 2) := by decide +kernel
theorem dX6_knits_130 : decode cX6_knits 130 = .ok (.iconst 1, 1) := by decide +kernel
theorem dX6_knits_131 : decode cX6_knits 131 = .ok (.iadd, 1) := by decide +kernel
theorem dX6_knits_132 : decode cX6_knits 132 = .ok (.iaload, 1) := by decide +kernel
theorem dX6_knits_133 : decode cX6_knits 133 = .ok (.aload_n 0, 1) := by decide +kernel
theorem dX6_knits_134 : decode cX6_knits 134 = .ok (.getfield 40, 3) := by decide +kernel
theorem dX6_knits_137 : decode cX6_knits 137 = .ok (.iload 8, 2) := by decide +kernel
theorem dX6_knits_139 : decode cX6_knits 139 = .ok (.iconst 2, 1) := by decide +kernel
theorem dX6_knits_140 : decode cX6_knits 140 = .ok (.iadd, 1) := by decide +kernel
theorem dX6_knits_141 : decode cX6_knits 141 = .ok (.iaload, 1) := by decide +kernel
theorem dX6_knits_142 : decode cX6_knits 142 = .ok (.invokevirtual 168, 3) := by decide +kernel
theorem dX6_knits_145 : decode cX6_knits 145 = .ok (.ifCond .lt 7, 3) := by decide +kernel
theorem dX6_knits_148 : decode cX6_knits 148 = .ok (.iconst 1, 1) := by decide +kernel
theorem dX6_knits_149 : decode cX6_knits 149 = .ok (.goto 4, 3) := by decide +kernel
theorem dX6_knits_152 : decode cX6_knits 152 = .ok (.iconst 0, 1) := by decide +kernel
theorem dX6_knits_153 : decode cX6_knits 153 = .ok (.iadd, 1) := by decide +kernel
theorem dX6_knits_154 : decode cX6_knits 154 = .ok (.istore 5, 2) := by decide +kernel
theorem dX6_knits_156 : decode cX6_knits 156 = .ok (.iinc 6 1, 3) := by decide +kernel
theorem dX6_knits_159 : decode cX6_knits 159 = .ok (.goto (-95), 3) := by decide +kernel
theorem dX6_knits_162 : decode cX6_knits 162 = .ok (.iload 5, 2) := by decide +kernel
theorem dX6_knits_164 : decode cX6_knits 164 = .ok (.ireturn, 1) := by decide +kernel
theorem dX6_isUnder_0 : decode cX6_isUnder 0 = .ok (.iload_n 1, 1) := by decide +kernel
theorem dX6_isUnder_1 : decode cX6_isUnder 1 = .ok (.ifCond .eq 28, 3) := by decide +kernel
theorem dX6_isUnder_4 : decode cX6_isUnder 4 = .ok (.iload_n 0, 1) := by decide +kernel
theorem dX6_isUnder_5 : decode cX6_isUnder 5 = .ok (.iload_n 1, 1) := by decide +kernel
theorem dX6_isUnder_6 : decode cX6_isUnder 6 = .ok (.if_icmp .eq 23, 3) := by decide +kernel
theorem dX6_isUnder_9 : decode cX6_isUnder 9 = .ok (.iload_n 1, 1) := by decide +kernel
theorem dX6_isUnder_10 : decode cX6_isUnder 10 = .ok (.iconst 1, 1) := by decide +kernel
theorem dX6_isUnder_11 : decode cX6_isUnder 11 = .ok (.if_icmp .ne 8, 3) := by decide +kernel
theorem dX6_isUnder_14 : decode cX6_isUnder 14 = .ok (.iload_n 0, 1) := by decide +kernel
theorem dX6_isUnder_15 : decode cX6_isUnder 15 = .ok (.iconst 5, 1) := by decide +kernel
theorem dX6_isUnder_16 : decode cX6_isUnder 16 = .ok (.if_icmp .eq 13, 3) := by decide +kernel
theorem dX6_isUnder_19 : decode cX6_isUnder 19 = .ok (.iload_n 1, 1) := by decide +kernel
theorem dX6_isUnder_20 : decode cX6_isUnder 20 = .ok (.iconst 2, 1) := by decide +kernel
theorem dX6_isUnder_21 : decode cX6_isUnder 21 = .ok (.if_icmp .ne 12, 3) := by decide +kernel
theorem dX6_isUnder_24 : decode cX6_isUnder 24 = .ok (.iload_n 0, 1) := by decide +kernel
theorem dX6_isUnder_25 : decode cX6_isUnder 25 = .ok (.iconst 3, 1) := by decide +kernel
theorem dX6_isUnder_26 : decode cX6_isUnder 26 = .ok (.if_icmp .ne 7, 3) := by decide +kernel
theorem dX6_isUnder_29 : decode cX6_isUnder 29 = .ok (.iconst 1, 1) := by decide +kernel
theorem dX6_isUnder_30 : decode cX6_isUnder 30 = .ok (.goto 4, 3) := by decide +kernel
theorem dX6_isUnder_33 : decode cX6_isUnder 33 = .ok (.iconst 0, 1) := by decide +kernel
theorem dX6_isUnder_34 : decode cX6_isUnder 34 = .ok (.ireturn, 1) := by decide +kernel
theorem dX6_pinsIn_0 : decode cX6_pinsIn 0 = .ok (.iconst 0, 1) := by decide +kernel
theorem dX6_pinsIn_1 : decode cX6_pinsIn 1 = .ok (.istore_n 2, 1) := by decide +kernel
theorem dX6_pinsIn_2 : decode cX6_pinsIn 2 = .ok (.iconst 0, 1) := by decide +kernel
theorem dX6_pinsIn_3 : decode cX6_pinsIn 3 = .ok (.istore_n 3, 1) := by decide +kernel
theorem dX6_pinsIn_4 : decode cX6_pinsIn 4 = .ok (.iload_n 3, 1) := by decide +kernel
theorem dX6_pinsIn_5 : decode cX6_pinsIn 5 = .ok (.bipush 6, 2) := by decide +kernel
theorem dX6_pinsIn_7 : decode cX6_pinsIn 7 = .ok (.if_icmp .ge 25, 3) := by decide +kernel
theorem dX6_pinsIn_10 : decode cX6_pinsIn 10 = .ok (.iload_n 2, 1) := by decide +kernel
theorem dX6_pinsIn_11 : decode cX6_pinsIn 11 = .ok (.aload_n 0, 1) := by decide +kernel
theorem dX6_pinsIn_12 : decode cX6_pinsIn 12 = .ok (.getfield 16, 3) := by decide +kernel
theorem dX6_pinsIn_15 : decode cX6_pinsIn 15 = .ok (.bipush 6, 2) := by decide +kernel
theorem dX6_pinsIn_17 : decode cX6_pinsIn 17 = .ok (.iload_n 1, 1) := by decide +kernel
theorem dX6_pinsIn_18 : decode cX6_pinsIn 18 = .ok (.imul, 1) := by decide +kernel
theorem dX6_pinsIn_19 : decode cX6_pinsIn 19 = .ok (.iload_n 3, 1) := by decide +kernel
theorem dX6_pinsIn_20 : decode cX6_pinsIn 20 = .ok (.iadd, 1) := by decide +kernel
theorem dX6_pinsIn_21 : decode cX6_pinsIn 21 = .ok (.iaload, 1) := by decide +kernel
theorem dX6_pinsIn_22 : decode cX6_pinsIn 22 = .ok (.iload_n 3, 1) := by decide +kernel
theorem dX6_pinsIn_23 : decode cX6_pinsIn 23 = .ok (.ishl, 1) := by decide +kernel
theorem dX6_pinsIn_24 : decode cX6_pinsIn 24 = .ok (.ior, 1) := by decide +kernel
theorem dX6_pinsIn_25 : decode cX6_pinsIn 25 = .ok (.istore_n 2, 1) := by decide +kernel
theorem dX6_pinsIn_26 : decode cX6_pinsIn 26 = .ok (.iinc 3 1, 3) := by decide +kernel
theorem dX6_pinsIn_29 : decode cX6_pinsIn 29 = .ok (.goto (-25), 3) := by decide +kernel
theorem dX6_pinsIn_32 : decode cX6_pinsIn 32 = .ok (.iload_n 2, 1) := by decide +kernel
theorem dX6_pinsIn_33 : decode cX6_pinsIn 33 = .ok (.ireturn, 1) := by decide +kernel
theorem dX6_taken_0 : decode cX6_taken 0 = .ok (.iload_n 2, 1) := by decide +kernel
theorem dX6_taken_1 : decode cX6_taken 1 = .ok (.iconst 0, 1) := by decide +kernel
theorem dX6_taken_2 : decode cX6_taken 2 = .ok (.bipush 6, 2) := by decide +kernel
theorem dX6_taken_4 : decode cX6_taken 4 = .ok (.invokestatic 69, 3) := by decide +kernel
theorem dX6_taken_7 : decode cX6_taken 7 = .ok (.ifCond .ne 6, 3) := by decide +kernel
theorem dX6_taken_10 : decode cX6_taken 10 = .ok (.bipush (-2), 2) := by decide +kernel
theorem dX6_taken_12 : decode cX6_taken 12 = .ok (.ireturn, 1) := by decide +kernel
theorem dX6_taken_13 : decode cX6_taken 13 = .ok (.iload_n 1, 1) := by decide +kernel
theorem dX6_taken_14 : decode cX6_taken 14 = .ok (.iconst 0, 1) := by decide +kernel
theorem dX6_taken_15 : decode cX6_taken 15 = .ok (.bipush 55, 2) := by decide +kernel
theorem dX6_taken_17 : decode cX6_taken 17 = .ok (.invokestatic 69, 3) := by decide +kernel
theorem dX6_taken_20 : decode cX6_taken 20 = .ok (.ifCond .ne 6, 3) := by decide +kernel
theorem dX6_taken_23 : decode cX6_taken 23 = .ok (.bipush (-12), 2) := by decide +kernel
theorem dX6_taken_25 : decode cX6_taken 25 = .ok (.ireturn, 1) := by decide +kernel
theorem dX6_taken_26 : decode cX6_taken 26 = .ok (.iload_n 1, 1) := by decide +kernel
theorem dX6_taken_27 : decode cX6_taken 27 = .ok (.bipush 48, 2) := by decide +kernel
theorem dX6_taken_29 : decode cX6_taken 29 = .ok (.if_icmp .ge 29, 3) := by decide +kernel
theorem dX6_taken_32 : decode cX6_taken 32 = .ok (.iload_n 2, 1) := by decide +kernel
theorem dX6_taken_33 : decode cX6_taken 33 = .ok (.bipush 6, 2) := by decide +kernel
theorem dX6_taken_35 : decode cX6_taken 35 = .ok (.if_icmp .ge 20, 3) := by decide +kernel
theorem dX6_taken_38 : decode cX6_taken 38 = .ok (.aload_n 0, 1) := by decide +kernel
theorem dX6_taken_39 : decode cX6_taken 39 = .ok (.getfield 7, 3) := by decide +kernel
theorem dX6_taken_42 : decode cX6_taken 42 = .ok (.iload_n 1, 1) := by decide +kernel
theorem dX6_taken_43 : decode cX6_taken 43 = .ok (.iaload, 1) := by decide +kernel
theorem dX6_taken_44 : decode cX6_taken 44 = .ok (.iload_n 2, 1) := by decide +kernel
theorem dX6_taken_45 : decode cX6_taken 45 = .ok (.invokestatic 272, 3) := by decide +kernel
theorem dX6_taken_48 : decode cX6_taken 48 = .ok (.ifCond .eq 7, 3) := by decide +kernel
theorem dX6_taken_51 : decode cX6_taken 51 = .ok (.iload_n 1, 1) := by decide +kernel
theorem dX6_taken_52 : decode cX6_taken 52 = .ok (.goto 5, 3) := by decide +kernel
theorem dX6_taken_55 : decode cX6_taken 55 = .ok (.bipush (-13), 2) := by decide +kernel
theorem dX6_taken_57 : decode cX6_taken 57 = .ok (.ireturn, 1) := by decide +kernel
theorem dX6_taken_58 : decode cX6_taken 58 = .ok (.aload_n 0, 1) := by decide +kernel
theorem dX6_taken_59 : decode cX6_taken 59 = .ok (.iload_n 1, 1) := by decide +kernel
theorem dX6_taken_60 : decode cX6_taken 60 = .ok (.bipush 48, 2) := by decide +kernel
theorem dX6_taken_62 : decode cX6_taken 62 = .ok (.isub, 1) := by decide +kernel
theorem dX6_taken_63 : decode cX6_taken 63 = .ok (.invokevirtual 275, 3) := by decide +kernel
theorem dX6_taken_66 : decode cX6_taken 66 = .ok (.ifCond .ne 8, 3) := by decide +kernel
theorem dX6_taken_69 : decode cX6_taken 69 = .ok (.bipush (-11), 2) := by decide +kernel
theorem dX6_taken_71 : decode cX6_taken 71 = .ok (.goto 22, 3) := by decide +kernel
theorem dX6_taken_74 : decode cX6_taken 74 = .ok (.iload_n 2, 1) := by decide +kernel
theorem dX6_taken_75 : decode cX6_taken 75 = .ok (.bipush 6, 2) := by decide +kernel
theorem dX6_taken_77 : decode cX6_taken 77 = .ok (.if_icmp .ne 14, 3) := by decide +kernel
theorem dX6_taken_80 : decode cX6_taken 80 = .ok (.aload_n 0, 1) := by decide +kernel
theorem dX6_taken_81 : decode cX6_taken 81 = .ok (.iload_n 1, 1) := by decide +kernel
theorem dX6_taken_82 : decode cX6_taken 82 = .ok (.bipush 48, 2) := by decide +kernel
theorem dX6_taken_84 : decode cX6_taken 84 = .ok (.isub, 1) := by decide +kernel
theorem dX6_taken_85 : decode cX6_taken 85 = .ok (.invokevirtual 275, 3) := by decide +kernel
theorem dX6_taken_88 : decode cX6_taken 88 = .ok (.goto 5, 3) := by decide +kernel
theorem dX6_taken_91 : decode cX6_taken 91 = .ok (.bipush (-13), 2) := by decide +kernel
theorem dX6_taken_93 : decode cX6_taken 93 = .ok (.ireturn, 1) := by decide +kernel
