theorem dX10_init_0 : decode cX10_init 0 = .ok (.aload_n 0, 1) := by decide +kernel
theorem dX10_init_1 : decode cX10_init 1 = .ok (.invokespecial 3, 3) := by decide +kernel
theorem dX10_init_4 : decode cX10_init 4 = .ok (.aload_n 0, 1) := by decide +kernel
theorem dX10_init_5 : decode cX10_init 5 = .ok (.sipush 934, 3) := by decide +kernel
theorem dX10_init_8 : decode cX10_init 8 = .ok (.newarray .int, 2) := by decide +kernel
theorem dX10_init_10 : decode cX10_init 10 = .ok (.putfield 9, 3) := by decide +kernel
theorem dX10_init_13 : decode cX10_init 13 = .ok (.aload_n 0, 1) := by decide +kernel
theorem dX10_init_14 : decode cX10_init 14 = .ok (.aload_n 0, 1) := by decide +kernel
theorem dX10_init_15 : decode cX10_init 15 = .ok (.getfield 9, 3) := by decide +kernel
theorem dX10_init_18 : decode cX10_init 18 = .ok (.putfield 15, 3) := by decide +kernel
theorem dX10_init_21 : decode cX10_init 21 = .ok (.aload_n 0, 1) := by decide +kernel
theorem dX10_init_22 : decode cX10_init 22 = .ok (.sipush 934, 3) := by decide +kernel
theorem dX10_init_25 : decode cX10_init 25 = .ok (.newarray .int, 2) := by decide +kernel
theorem dX10_init_27 : decode cX10_init 27 = .ok (.putfield 18, 3) := by decide +kernel
theorem dX10_init_30 : decode cX10_init 30 = .ok (.aload_n 0, 1) := by decide +kernel
theorem dX10_init_31 : decode cX10_init 31 = .ok (.sipush 934, 3) := by decide +kernel
theorem dX10_init_34 : decode cX10_init 34 = .ok (.newarray .int, 2) := by decide +kernel
theorem dX10_init_36 : decode cX10_init 36 = .ok (.putfield 21, 3) := by decide +kernel
theorem dX10_init_39 : decode cX10_init 39 = .ok (.aload_n 0, 1) := by decide +kernel
theorem dX10_init_40 : decode cX10_init 40 = .ok (.sipush 934, 3) := by decide +kernel
theorem dX10_init_43 : decode cX10_init 43 = .ok (.newarray .int, 2) := by decide +kernel
theorem dX10_init_45 : decode cX10_init 45 = .ok (.putfield 24, 3) := by decide +kernel
theorem dX10_init_48 : decode cX10_init 48 = .ok (.aload_n 0, 1) := by decide +kernel
theorem dX10_init_49 : decode cX10_init 49 = .ok (.bipush 30, 2) := by decide +kernel
theorem dX10_init_51 : decode cX10_init 51 = .ok (.newarray .int, 2) := by decide +kernel
theorem dX10_init_53 : decode cX10_init 53 = .ok (.putfield 27, 3) := by decide +kernel
theorem dX10_init_56 : decode cX10_init 56 = .ok (.aload_n 0, 1) := by decide +kernel
theorem dX10_init_57 : decode cX10_init 57 = .ok (.bipush 30, 2) := by decide +kernel
theorem dX10_init_59 : decode cX10_init 59 = .ok (.newarray .int, 2) := by decide +kernel
theorem dX10_init_61 : decode cX10_init 61 = .ok (.putfield 30, 3) := by decide +kernel
theorem dX10_init_64 : decode cX10_init 64 = .ok (.aload_n 0, 1) := by decide +kernel
theorem dX10_init_65 : decode cX10_init 65 = .ok (.bipush 30, 2) := by decide +kernel
theorem dX10_init_67 : decode cX10_init 67 = .ok (.newarray .int, 2) := by decide +kernel
theorem dX10_init_69 : decode cX10_init 69 = .ok (.putfield 33, 3) := by decide +kernel
theorem dX10_init_72 : decode cX10_init 72 = .ok (.aload_n 0, 1) := by decide +kernel
theorem dX10_init_73 : decode cX10_init 73 = .ok (.bipush 30, 2) := by decide +kernel
theorem dX10_init_75 : decode cX10_init 75 = .ok (.newarray .int, 2) := by decide +kernel
theorem dX10_init_77 : decode cX10_init 77 = .ok (.putfield 36, 3) := by decide +kernel
theorem dX10_init_80 : decode cX10_init 80 = .ok (.aload_n 0, 1) := by decide +kernel
theorem dX10_init_81 : decode cX10_init 81 = .ok (.bipush 30, 2) := by decide +kernel
theorem dX10_init_83 : decode cX10_init 83 = .ok (.newarray .int, 2) := by decide +kernel
theorem dX10_init_85 : decode cX10_init 85 = .ok (.putfield 39, 3) := by decide +kernel
theorem dX10_init_88 : decode cX10_init 88 = .ok (.aload_n 0, 1) := by decide +kernel
theorem dX10_init_89 : decode cX10_init 89 = .ok (.bipush 24, 2) := by decide +kernel
theorem dX10_init_91 : decode cX10_init 91 = .ok (.newarray .int, 2) := by decide +kernel
theorem dX10_init_93 : decode cX10_init 93 = .ok (.putfield 42, 3) := by decide +kernel
theorem dX10_init_96 : decode cX10_init 96 = .ok (.aload_n 0, 1) := by decide +kernel
theorem dX10_init_97 : decode cX10_init 97 = .ok (.sipush 192, 3) := by decide +kernel
theorem dX10_init_100 : decode cX10_init 100 = .ok (.newarray .int, 2) := by decide +kernel
theorem dX10_init_102 : decode cX10_init 102 = .ok (.putfield 45, 3) := by decide +kernel
theorem dX10_init_105 : decode cX10_init 105 = .ok (.aload_n 0, 1) := by decide +kernel
theorem dX10_init_106 : decode cX10_init 106 = .ok (.bipush 24, 2) := by decide +kernel
theorem dX10_init_108 : decode cX10_init 108 = .ok (.newarray .int, 2) := by decide +kernel
theorem dX10_init_110 : decode cX10_init 110 = .ok (.putfield 48, 3) := by decide +kernel
theorem dX10_init_113 : decode cX10_init 113 = .ok (.aload_n 0, 1) := by decide +kernel
theorem dX10_init_114 : decode cX10_init 114 = .ok (.sipush 192, 3) := by decide +kernel
theorem dX10_init_117 : decode cX10_init 117 = .ok (.newarray .int, 2) := by decide +kernel
theorem dX10_init_119 : decode cX10_init 119 = .ok (.putfield 51, 3) := by decide +kernel
theorem dX10_init_122 : decode cX10_init 122 = .ok (.aload_n 0, 1) := by decide +kernel
theorem dX10_init_123 : decode cX10_init 123 = .ok (.bipush 120, 2) := by decide +kernel
theorem dX10_init_125 : decode cX10_init 125 = .ok (.newarray .int, 2) := by decide +kernel
theorem dX10_init_127 : decode cX10_init 127 = .ok (.putfield 54, 3) := by decide +kernel
theorem dX10_init_130 : decode cX10_init 130 = .ok (.aload_n 0, 1) := by decide +kernel
theorem dX10_init_131 : decode cX10_init 131 = .ok (.bipush 60, 2) := by decide +kernel
theorem dX10_init_133 : decode cX10_init 133 = .ok (.newarray .int, 2) := by decide +kernel
theorem dX10_init_135 : decode cX10_init 135 = .ok (.dup, 1) := by decide +kernel
theorem dX10_init_136 : decode cX10_init 136 = .ok (.iconst 0, 1) := by decide +kernel
theorem dX10_init_137 : decode cX10_init 137 = .ok (.bipush 98, 2) := by decide +kernel
theorem dX10_init_139 : decode cX10_init 139 = .ok (.iastore, 1) := by decide +kernel
theorem dX10_init_140 : decode cX10_init 140 = .ok (.dup, 1) := by decide +kernel
theorem dX10_init_141 : decode cX10_init 141 = .ok (.iconst 1, 1) := by decide +kernel
theorem dX10_init_142 : decode cX10_init 142 = .ok (.bipush 108, 2) := by decide +kernel
theorem dX10_init_144 : decode cX10_init 144 = .ok (.iastore, 1) := by decide +kernel
theorem dX10_init_145 : decode cX10_init 145 = .ok (.dup, 1) := by decide +kernel
theorem dX10_init_146 : decode cX10_init 146 = .ok (.iconst 2, 1) := by decide +kernel
theorem dX10_init_147 : decode cX10_init 147 = .ok (.bipush 111, 2) := by decide +kernel
theorem dX10_init_149 : decode cX10_init 149 = .ok (.iastore, 1) := by decide +kernel
theorem dX10_init_150 : decode cX10_init 150 = .ok (.dup, 1) := by decide +kernel
theorem dX10_init_151 : decode cX10_init 151 = .ok (.iconst 3, 1) := by decide +kernel
theorem dX10_init_152 : decode cX10_init 152 = .ok (.bipush 99, 2) := by decide +kernel
theorem dX10_init_154 : decode cX10_init 154 = .ok (.iastore, 1) := by decide +kernel
theorem dX10_init_155 : decode cX10_init 155 = .ok (.dup, 1) := by decide +kernel
theorem dX10_init_156 : decode cX10_init 156 = .ok (.iconst 4, 1) := by decide +kernel
theorem dX10_init_157 : decode cX10_init 157 = .ok (.bipush 107, 2) := by decide +kernel
theorem dX10_init_159 : decode cX10_init 159 = .ok (.iastore, 1) := by decide +kernel
theorem dX10_init_160 : decode cX10_init 160 = .ok (.dup, 1) := by decide +kernel
theorem dX10_init_161 : decode cX10_init 161 = .ok (.iconst 5, 1) := by decide +kernel
theorem dX10_init_162 : decode cX10_init 162 = .ok (.iconst 0, 1) := by decide +kernel
theorem dX10_init_163 : decode cX10_init 163 = .ok (.iastore, 1) := by decide +kernel
theorem dX10_init_164 : decode cX10_init 164 = .ok (.dup, 1) := by decide +kernel
theorem dX10_init_165 : decode cX10_init 165 = .ok (.bipush 6, 2) := by decide +kernel
theorem dX10_init_167 : decode cX10_init 167 = .ok (.bipush 116, 2) := by decide +kernel
theorem dX10_init_169 : decode cX10_init 169 = .ok (.iastore, 1) := by decide +kernel
theorem dX10_init_170 : decode cX10_init 170 = .ok (.dup, 1) := by decide +kernel
theorem dX10_init_171 : decode cX10_init 171 = .ok (.bipush 7, 2) := by decide +kernel
theorem dX10_init_173 : decode cX10_init 173 = .ok (.bipush 101, 2) := by decide +kernel
theorem dX10_init_175 : decode cX10_init 175 = .ok (.iastore, 1) := by decide +kernel
theorem dX10_init_176 : decode cX10_init 176 = .ok (.dup, 1) := by decide +kernel
theorem dX10_init_177 : decode cX10_init 177 = .ok (.bipush 8, 2) := by decide +kernel
theorem dX10_init_179 : decode cX10_init 179 = .ok (.bipush 120, 2) := by decide +kernel
theorem dX10_init_181 : decode cX10_init 181 = .ok (.iastore, 1) := by decide +kernel
theorem dX10_init_182 : decode cX10_init 182 = .ok (.dup, 1) := by decide +kernel
theorem dX10_init_183 : decode cX10_init 183 = .ok (.bipush 9, 2) := by decide +kernel
theorem dX10_init_185 : decode cX10_init 185 = .ok (.bipush 116, 2) := by decide +kernel
theorem dX10_init_187 : decode cX10_init 187 = .ok (.iastore, 1) := by decide +kernel
theorem dX10_init_188 : decode cX10_init 188 = .ok (.dup, 1) := by decide +kernel
theorem dX10_init_189 : decode cX10_init 189 = .ok (.bipush 10, 2) := by decide +kernel
theorem dX10_init_191 : decode cX10_init 191 = .ok (.iconst 0, 1) := by decide +kernel
theorem dX10_init_192 : decode cX10_init 192 = .ok (.iastore, 1) := by decide +kernel
theorem dX10_init_193 : decode cX10_init 193 = .ok (.dup, 1) := by decide +kernel
theorem dX10_init_194 : decode cX10_init 194 = .ok (.bipush 11, 2) := by decide +kernel
theorem dX10_init_196 : decode cX10_init 196 = .ok (.iconst 0, 1) := by decide +kernel
theorem dX10_init_197 : decode cX10_init 197 = .ok (.iastore, 1) := by decide +kernel
theorem dX10_init_198 : decode cX10_init 198 = .ok (.dup, 1) := by decide +kernel
theorem dX10_init_199 : decode cX10_init 199 = .ok (.bipush 12, 2) := by decide +kernel
theorem dX10_init_201 : decode cX10_init 201 = .ok (.bipush 112, 2) := by decide +kernel
theorem dX10_init_203 : decode cX10_init 203 = .ok (.iastore, 1) := by decide +kernel
theorem dX10_init_204 : decode cX10_init 204 = .ok (.dup, 1) := by decide +kernel
theorem dX10_init_205 : decode cX10_init 205 = .ok (.bipush 13, 2) := by decide +kernel
theorem dX10_init_207 : decode cX10_init 207 = .ok (.bipush 97, 2) := by decide +kernel
theorem dX10_init_209 : decode cX10_init 209 = .ok (.iastore, 1) := by decide +kernel
theorem dX10_init_210 : decode cX10_init 210 = .ok (.dup, 1) := by decide +kernel
theorem dX10_init_211 : decode cX10_init 211 = .ok (.bipush 14, 2) := by decide +kernel
theorem dX10_init_213 : decode cX10_init 213 = .ok (.bipush 100, 2) := by decide +kernel
theorem dX10_init_215 : decode cX10_init 215 = .ok (.iastore, 1) := by decide +kernel
theorem dX10_init_216 : decode cX10_init 216 = .ok (.dup, 1) := by decide +kernel
theorem dX10_init_217 : decode cX10_init 217 = .ok (.bipush 15, 2) := by decide +kernel
theorem dX10_init_219 : decode cX10_init 219 = .ok (.iconst 0, 1) := by decide +kernel
theorem dX10_init_220 : decode cX10_init 220 = .ok (.iastore, 1) := by decide +kernel
theorem dX10_init_221 : decode cX10_init 221 = .ok (.dup, 1) := by decide +kernel
theorem dX10_init_222 : decode cX10_init 222 = .ok (.bipush 16, 2) := by decide +kernel
theorem dX10_init_224 : decode cX10_init 224 = .ok (.iconst 0, 1) := by decide +kernel
theorem dX10_init_225 : decode cX10_init 225 = .ok (.iastore, 1) := by decide +kernel
theorem dX10_init_226 : decode cX10_init 226 = .ok (.dup, 1) := by decide +kernel
theorem dX10_init_227 : decode cX10_init 227 = .ok (.bipush 17, 2) := by decide +kernel
theorem dX10_init_229 : decode cX10_init 229 = .ok (.iconst 0, 1) := by decide +kernel
theorem dX10_init_230 : decode cX10_init 230 = .ok (.iastore, 1) := by decide +kernel
theorem dX10_init_231 : decode cX10_init 231 = .ok (.dup, 1) := by decide +kernel
theorem dX10_init_232 : decode cX10_init 232 = .ok (.bipush 18, 2) := by decide +kernel
theorem dX10_init_234 : decode cX10_init 234 = .ok (.bipush 108, 2) := by decide +kernel
theorem dX10_init_236 : decode cX10_init 236 = .ok (.iastore, 1) := by decide +kernel
theorem dX10_init_237 : decode cX10_init 237 = .ok (.dup, 1) := by decide +kernel
theorem dX10_init_238 : decode cX10_init 238 = .ok (.bipush 19, 2) := by decide +kernel
theorem dX10_init_240 : decode cX10_init 240 = .ok (.bipush 105, 2) := by decide +kernel
theorem dX10_init_242 : decode cX10_init 242 = .ok (.iastore, 1) := by decide +kernel
theorem dX10_init_243 : decode cX10_init 243 = .ok (.dup, 1) := by decide +kernel
theorem dX10_init_244 : decode cX10_init 244 = .ok (.bipush 20, 2) := by decide +kernel
theorem dX10_init_246 : decode cX10_init 246 = .ok (.bipush 109, 2) := by decide +kernel
theorem dX10_init_248 : decode cX10_init 248 = .ok (.iastore, 1) := by decide +kernel
theorem dX10_init_249 : decode cX10_init 249 = .ok (.dup, 1) := by decide +kernel
theorem dX10_init_250 : decode cX10_init 250 = .ok (.bipush 21, 2) := by decide +kernel
theorem dX10_init_252 : decode cX10_init 252 = .ok (.bipush 105, 2) := by decide +kernel
theorem dX10_init_254 : decode cX10_init 254 = .ok (.iastore, 1) := by decide +kernel
theorem dX10_init_255 : decode cX10_init 255 = .ok (.dup, 1) := by decide +kernel
theorem dX10_init_256 : decode cX10_init 256 = .ok (.bipush 22, 2) := by decide +kernel
theorem dX10_init_258 : decode cX10_init 258 = .ok (.bipush 116, 2) := by decide +kernel
theorem dX10_init_260 : decode cX10_init 260 = .ok (.iastore, 1) := by decide +kernel
theorem dX10_init_261 : decode cX10_init 261 = .ok (.dup, 1) := by decide +kernel
theorem dX10_init_262 : decode cX10_init 262 = .ok (.bipush 23, 2) := by decide +kernel
theorem dX10_init_264 : decode cX10_init 264 = .ok (.iconst 0, 1) := by decide +kernel
theorem dX10_init_265 : decode cX10_init 265 = .ok (.iastore, 1) := by decide +kernel
theorem dX10_init_266 : decode cX10_init 266 = .ok (.dup, 1) := by decide +kernel
theorem dX10_init_267 : decode cX10_init 267 = .ok (.bipush 24, 2) := by decide +kernel
theorem dX10_init_269 : decode cX10_init 269 = .ok (.bipush 99, 2) := by decide +kernel
theorem dX10_init_271 : decode cX10_init 271 = .ok (.iastore, 1) := by decide +kernel
theorem dX10_init_272 : decode cX10_init 272 = .ok (.dup, 1) := by decide +kernel
theorem dX10_init_273 : decode cX10_init 273 = .ok (.bipush 25, 2) := by decide +kernel
theorem dX10_init_275 : decode cX10_init 275 = .ok (.bipush 101, 2) := by decide +kernel
theorem dX10_init_277 : decode cX10_init 277 = .ok (.iastore, 1) := by decide +kernel
theorem dX10_init_278 : decode cX10_init 278 = .ok (.dup, 1) := by decide +kernel
theorem dX10_init_279 : decode cX10_init 279 = .ok (.bipush 26, 2) := by decide +kernel
theorem dX10_init_281 : decode cX10_init 281 = .ok (.bipush 110, 2) := by decide +kernel
theorem dX10_init_283 : decode cX10_init 283 = .ok (.iastore, 1) := by decide +kernel
theorem dX10_init_284 : decode cX10_init 284 = .ok (.dup, 1) := by decide +kernel
theorem dX10_init_285 : decode cX10_init 285 = .ok (.bipush 27, 2) := by decide +kernel
theorem dX10_init_287 : decode cX10_init 287 = .ok (.bipush 116, 2) := by decide +kernel
theorem dX10_init_289 : decode cX10_init 289 = .ok (.iastore, 1) := by decide +kernel
theorem dX10_init_290 : decode cX10_init 290 = .ok (.dup, 1) := by decide +kernel
theorem dX10_init_291 : decode cX10_init 291 = .ok (.bipush 28, 2) := by decide +kernel
theorem dX10_init_293 : decode cX10_init 293 = .ok (.bipush 114, 2) := by decide +kernel
theorem dX10_init_295 : decode cX10_init 295 = .ok (.iastore, 1) := by decide +kernel
theorem dX10_init_296 : decode cX10_init 296 = .ok (.dup, 1) := by decide +kernel
theorem dX10_init_297 : decode cX10_init 297 = .ok (.bipush 29, 2) := by decide +kernel
theorem dX10_init_299 : decode cX10_init 299 = .ok (.bipush 101, 2) := by decide +kernel
theorem dX10_init_301 : decode cX10_init 301 = .ok (.iastore, 1) := by decide +kernel
theorem dX10_init_302 : decode cX10_init 302 = .ok (.dup, 1) := by decide +kernel
theorem dX10_init_303 : decode cX10_init 303 = .ok (.bipush 30, 2) := by decide +kernel
theorem dX10_init_305 : decode cX10_init 305 = .ok (.bipush 102, 2) := by decide +kernel
theorem dX10_init_307 : decode cX10_init 307 = .ok (.iastore, 1) := by decide +kernel
theorem dX10_init_308 : decode cX10_init 308 = .ok (.dup, 1) := by decide +kernel
theorem dX10_init_309 : decode cX10_init 309 = .ok (.bipush 31, 2) := by decide +kernel
theorem dX10_init_311 : decode cX10_init 311 = .ok (.bipush 105, 2) := by decide +kernel
theorem dX10_init_313 : decode cX10_init 313 = .ok (.iastore, 1) := by decide +kernel
theorem dX10_init_314 : decode cX10_init 314 = .ok (.dup, 1) := by decide +kernel
theorem dX10_init_315 : decode cX10_init 315 = .ok (.bipush 32, 2) := by decide +kernel
theorem dX10_init_317 : decode cX10_init 317 = .ok (.bipush 116, 2) := by decide +kernel
theorem dX10_init_319 : decode cX10_init 319 = .ok (.iastore, 1) := by decide +kernel
theorem dX10_init_320 : decode cX10_init 320 = .ok (.dup, 1) := by decide +kernel
theorem dX10_init_321 : decode cX10_init 321 = .ok (.bipush 33, 2) := by decide +kernel
theorem dX10_init_323 : decode cX10_init 323 = .ok (.iconst 0, 1) := by decide +kernel
theorem dX10_init_324 : decode cX10_init 324 = .ok (.iastore, 1) := by decide +kernel
theorem dX10_init_325 : decode cX10_init 325 = .ok (.dup, 1) := by decide +kernel
theorem dX10_init_326 : decode cX10_init 326 = .ok (.bipush 34, 2) := by decide +kernel
theorem dX10_init_328 : decode cX10_init 328 = .ok (.iconst 0, 1) := by decide +kernel
theorem dX10_init_329 : decode cX10_init 329 = .ok (.iastore, 1) := by decide +kernel
theorem dX10_init_330 : decode cX10_init 330 = .ok (.dup, 1) := by decide +kernel
theorem dX10_init_331 : decode cX10_init 331 = .ok (.bipush 35, 2) := by decide +kernel
theorem dX10_init_333 : decode cX10_init 333 = .ok (.iconst 0, 1) := by decide +kernel
theorem dX10_init_334 : decode cX10_init 334 = .ok (.iastore, 1) := by decide +kernel
theorem dX10_init_335 : decode cX10_init 335 = .ok (.dup, 1) := by decide +kernel
theorem dX10_init_336 : decode cX10_init 336 = .ok (.bipush 36, 2) := by decide +kernel
theorem dX10_init_338 : decode cX10_init 338 = .ok (.bipush 114, 2) := by decide +kernel
theorem dX10_init_340 : decode cX10_init 340 = .ok (.iastore, 1) := by decide +kernel
theorem dX10_init_341 : decode cX10_init 341 = .ok (.dup, 1) := by decide +kernel
theorem dX10_init_342 : decode cX10_init 342 = .ok (.bipush 37, 2) := by decide +kernel
theorem dX10_init_344 : decode cX10_init 344 = .ok (.bipush 97, 2) := by decide +kernel
theorem dX10_init_346 : decode cX10_init 346 = .ok (.iastore, 1) := by decide +kernel
theorem dX10_init_347 : decode cX10_init 347 = .ok (.dup, 1) := by decide +kernel
theorem dX10_init_348 : decode cX10_init 348 = .ok (.bipush 38, 2) := by decide +kernel
theorem dX10_init_350 : decode cX10_init 350 = .ok (.bipush 116, 2) := by decide +kernel
theorem dX10_init_352 : decode cX10_init 352 = .ok (.iastore, 1) := by decide +kernel
theorem dX10_init_353 : decode cX10_init 353 = .ok (.dup, 1) := by decide +kernel
theorem dX10_init_354 : decode cX10_init 354 = .ok (.bipush 39, 2) := by decide +kernel
theorem dX10_init_356 : decode cX10_init 356 = .ok (.bipush 105, 2) := by decide +kernel
theorem dX10_init_358 : decode cX10_init 358 = .ok (.iastore, 1) := by decide +kernel
theorem dX10_init_359 : decode cX10_init 359 = .ok (.dup, 1) := by decide +kernel
theorem dX10_init_360 : decode cX10_init 360 = .ok (.bipush 40, 2) := by decide +kernel
theorem dX10_init_362 : decode cX10_init 362 = .ok (.bipush 111, 2) := by decide +kernel
theorem dX10_init_364 : decode cX10_init 364 = .ok (.iastore, 1) := by decide +kernel
theorem dX10_init_365 : decode cX10_init 365 = .ok (.dup, 1) := by decide +kernel
theorem dX10_init_366 : decode cX10_init 366 = .ok (.bipush 41, 2) := by decide +kernel
theorem dX10_init_368 : decode cX10_init 368 = .ok (.iconst 0, 1) := by decide +kernel
theorem dX10_init_369 : decode cX10_init 369 = .ok (.iastore, 1) := by decide +kernel
theorem dX10_init_370 : decode cX10_init 370 = .ok (.dup, 1) := by decide +kernel
theorem dX10_init_371 : decode cX10_init 371 = .ok (.bipush 42, 2) := by decide +kernel
theorem dX10_init_373 : decode cX10_init 373 = .ok (.bipush 108, 2) := by decide +kernel
theorem dX10_init_375 : decode cX10_init 375 = .ok (.iastore, 1) := by decide +kernel
theorem dX10_init_376 : decode cX10_init 376 = .ok (.dup, 1) := by decide +kernel
theorem dX10_init_377 : decode cX10_init 377 = .ok (.bipush 43, 2) := by decide +kernel
theorem dX10_init_379 : decode cX10_init 379 = .ok (.bipush 97, 2) := by decide +kernel
theorem dX10_init_381 : decode cX10_init 381 = .ok (.iastore, 1) := by decide +kernel
theorem dX10_init_382 : decode cX10_init 382 = .ok (.dup, 1) := by decide +kernel
theorem dX10_init_383 : decode cX10_init 383 = .ok (.bipush 44, 2) := by decide +kernel
theorem dX10_init_385 : decode cX10_init 385 = .ok (.bipush 121, 2) := by decide +kernel
theorem dX10_init_387 : decode cX10_init 387 = .ok (.iastore, 1) := by decide +kernel
theorem dX10_init_388 : decode cX10_init 388 = .ok (.dup, 1) := by decide +kernel
theorem dX10_init_389 : decode cX10_init 389 = .ok (.bipush 45, 2) := by decide +kernel
theorem dX10_init_391 : decode cX10_init 391 = .ok (.bipush 101, 2) := by decide +kernel
theorem dX10_init_393 : decode cX10_init 393 = .ok (.iastore, 1) := by decide +kernel
theorem dX10_init_394 : decode cX10_init 394 = .ok (.dup, 1) := by decide +kernel
theorem dX10_init_395 : decode cX10_init 395 = .ok (.bipush 46, 2) := by decide +kernel
theorem dX10_init_397 : decode cX10_init 397 = .ok (.bipush 114, 2) := by decide +kernel
theorem dX10_init_399 : decode cX10_init 399 = .ok (.iastore, 1) := by decide +kernel
theorem dX10_init_400 : decode cX10_init 400 = .ok (.dup, 1) := by decide +kernel
theorem dX10_init_401 : decode cX10_init 401 = .ok (.bipush 47, 2) := by decide +kernel
theorem dX10_init_403 : decode cX10_init 403 = .ok (.bipush 115, 2) := by decide +kernel
theorem dX10_init_405 : decode cX10_init 405 = .ok (.iastore, 1) := by decide +kernel
theorem dX10_init_406 : decode cX10_init 406 = .ok (.dup, 1) := by decide +kernel
theorem dX10_init_407 : decode cX10_init 407 = .ok (.bipush 48, 2) := by decide +kernel
theorem dX10_init_409 : decode cX10_init 409 = .ok (.bipush 114, 2) := by decide +kernel
theorem dX10_init_411 : decode cX10_init 411 = .ok (.iastore, 1) := by decide +kernel
theorem dX10_init_412 : decode cX10_init 412 = .ok (.dup, 1) := by decide +kernel
theorem dX10_init_413 : decode cX10_init 413 = .ok (.bipush 49, 2) := by decide +kernel
theorem dX10_init_415 : decode cX10_init 415 = .ok (.bipush 111, 2) := by decide +kernel
theorem dX10_init_417 : decode cX10_init 417 = .ok (.iastore, 1) := by decide +kernel
theorem dX10_init_418 : decode cX10_init 418 = .ok (.dup, 1) := by decide +kernel
theorem dX10_init_419 : decode cX10_init 419 = .ok (.bipush 50, 2) := by decide +kernel
theorem dX10_init_421 : decode cX10_init 421 = .ok (.bipush 119, 2) := by decide +kernel
theorem dX10_init_423 : decode cX10_init 423 = .ok (.iastore, 1) := by decide +kernel
theorem dX10_init_424 : decode cX10_init 424 = .ok (.dup, 1) := by decide +kernel
theorem dX10_init_425 : decode cX10_init 425 = .ok (.bipush 51, 2) := by decide +kernel
theorem dX10_init_427 : decode cX10_init 427 = .ok (.iconst 0, 1) := by decide +kernel
theorem dX10_init_428 : decode cX10_init 428 = .ok (.iastore, 1) := by decide +kernel
theorem dX10_init_429 : decode cX10_init 429 = .ok (.dup, 1) := by decide +kernel
theorem dX10_init_430 : decode cX10_init 430 = .ok (.bipush 52, 2) := by decide +kernel
theorem dX10_init_432 : decode cX10_init 432 = .ok (.iconst 0, 1) := by decide +kernel
theorem dX10_init_433 : decode cX10_init 433 = .ok (.iastore, 1) := by decide +kernel
theorem dX10_init_434 : decode cX10_init 434 = .ok (.dup, 1) := by decide +kernel
theorem dX10_init_435 : decode cX10_init 435 = .ok (.bipush 53, 2) := by decide +kernel
theorem dX10_init_437 : decode cX10_init 437 = .ok (.iconst 0, 1) := by decide +kernel
theorem dX10_init_438 : decode cX10_init 438 = .ok (.iastore, 1) := by decide +kernel
theorem dX10_init_439 : decode cX10_init 439 = .ok (.dup, 1) := by decide +kernel
theorem dX10_init_440 : decode cX10_init 440 = .ok (.bipush 54, 2) := by decide +kernel
theorem dX10_init_442 : decode cX10_init 442 = .ok (.bipush 99, 2) := by decide +kernel
theorem dX10_init_444 : decode cX10_init 444 = .ok (.iastore, 1) := by decide +kernel
theorem dX10_init_445 : decode cX10_init 445 = .ok (.dup, 1) := by decide +kernel
theorem dX10_init_446 : decode cX10_init 446 = .ok (.bipush 55, 2) := by decide +kernel
theorem dX10_init_448 : decode cX10_init 448 = .ok (.bipush 111, 2) := by decide +kernel
theorem dX10_init_450 : decode cX10_init 450 = .ok (.iastore, 1) := by decide +kernel
theorem dX10_init_451 : decode cX10_init 451 = .ok (.dup, 1) := by decide +kernel
theorem dX10_init_452 : decode cX10_init 452 = .ok (.bipush 56, 2) := by decide +kernel
theorem dX10_init_454 : decode cX10_init 454 = .ok (.bipush 108, 2) := by decide +kernel
theorem dX10_init_456 : decode cX10_init 456 = .ok (.iastore, 1) := by decide +kernel
theorem dX10_init_457 : decode cX10_init 457 = .ok (.dup, 1) := by decide +kernel
theorem dX10_init_458 : decode cX10_init 458 = .ok (.bipush 57, 2) := by decide +kernel
theorem dX10_init_460 : decode cX10_init 460 = .ok (.bipush 117, 2) := by decide +kernel
theorem dX10_init_462 : decode cX10_init 462 = .ok (.iastore, 1) := by decide +kernel
theorem dX10_init_463 : decode cX10_init 463 = .ok (.dup, 1) := by decide +kernel
theorem dX10_init_464 : decode cX10_init 464 = .ok (.bipush 58, 2) := by decide +kernel
theorem dX10_init_466 : decode cX10_init 466 = .ok (.bipush 109, 2) := by decide +kernel
theorem dX10_init_468 : decode cX10_init 468 = .ok (.iastore, 1) := by decide +kernel
theorem dX10_init_469 : decode cX10_init 469 = .ok (.dup, 1) := by decide +kernel
theorem dX10_init_470 : decode cX10_init 470 = .ok (.bipush 59, 2) := by decide +kernel
theorem dX10_init_472 : decode cX10_init 472 = .ok (.bipush 110, 2) := by decide +kernel
theorem dX10_init_474 : decode cX10_init 474 = .ok (.iastore, 1) := by decide +kernel
theorem dX10_init_475 : decode cX10_init 475 = .ok (.putfield 57, 3) := by decide +kernel
theorem dX10_init_478 : decode cX10_init 478 = .ok (.aload_n 0, 1) := by decide +kernel
theorem dX10_init_479 : decode cX10_init 479 = .ok (.sipush 192, 3) := by decide +kernel
theorem dX10_init_482 : decode cX10_init 482 = .ok (.newarray .int, 2) := by decide +kernel
theorem dX10_init_484 : decode cX10_init 484 = .ok (.putfield 60, 3) := by decide +kernel
theorem dX10_init_487 : decode cX10_init 487 = .ok (.aload_n 0, 1) := by decide +kernel
theorem dX10_init_488 : decode cX10_init 488 = .ok (.bipush 26, 2) := by decide +kernel
theorem dX10_init_490 : decode cX10_init 490 = .ok (.newarray .int, 2) := by decide +kernel
theorem dX10_init_492 : decode cX10_init 492 = .ok (.putfield 63, 3) := by decide +kernel
theorem dX10_init_495 : decode cX10_init 495 = .ok (.aload_n 0, 1) := by decide +kernel
theorem dX10_init_496 : decode cX10_init 496 = .ok (.sipush 700, 3) := by decide +kernel
theorem dX10_init_499 : decode cX10_init 499 = .ok (.newarray .int, 2) := by decide +kernel
theorem dX10_init_501 : decode cX10_init 501 = .ok (.putfield 66, 3) := by decide +kernel
theorem dX10_init_504 : decode cX10_init 504 = .ok (.aload_n 0, 1) := by decide +kernel
theorem dX10_init_505 : decode cX10_init 505 = .ok (.bipush 6, 2) := by decide +kernel
theorem dX10_init_507 : decode cX10_init 507 = .ok (.newarray .int, 2) := by decide +kernel
theorem dX10_init_509 : decode cX10_init 509 = .ok (.putfield 69, 3) := by decide +kernel
theorem dX10_init_512 : decode cX10_init 512 = .ok (.aload_n 0, 1) := by decide +kernel
theorem dX10_init_513 : decode cX10_init 513 = .ok (.iconst 4, 1) := by decide +kernel
theorem dX10_init_514 : decode cX10_init 514 = .ok (.newarray .int, 2) := by decide +kernel
theorem dX10_init_516 : decode cX10_init 516 = .ok (.putfield 72, 3) := by decide +kernel
theorem dX10_init_519 : decode cX10_init 519 = .ok (.aload_n 0, 1) := by decide +kernel
theorem dX10_init_520 : decode cX10_init 520 = .ok (.iconst 4, 1) := by decide +kernel
theorem dX10_init_521 : decode cX10_init 521 = .ok (.newarray .int, 2) := by decide +kernel
theorem dX10_init_523 : decode cX10_init 523 = .ok (.putfield 75, 3) := by decide +kernel
theorem dX10_init_526 : decode cX10_init 526 = .ok (.aload_n 0, 1) := by decide +kernel
theorem dX10_init_527 : decode cX10_init 527 = .ok (.sipush 240, 3) := by decide +kernel
theorem dX10_init_530 : decode cX10_init 530 = .ok (.newarray .long, 2) := by decide +kernel
theorem dX10_init_532 : decode cX10_init 532 = .ok (.putfield 78, 3) := by decide +kernel
theorem dX10_init_535 : decode cX10_init 535 = .ok (.aload_n 0, 1) := by decide +kernel
theorem dX10_init_536 : decode cX10_init 536 = .ok (.bipush 60, 2) := by decide +kernel
theorem dX10_init_538 : decode cX10_init 538 = .ok (.newarray .long, 2) := by decide +kernel
theorem dX10_init_540 : decode cX10_init 540 = .ok (.putfield 82, 3) := by decide +kernel
theorem dX10_init_543 : decode cX10_init 543 = .ok (.aload_n 0, 1) := by decide +kernel
theorem dX10_init_544 : decode cX10_init 544 = .ok (.getfield 9, 3) := by decide +kernel
theorem dX10_init_547 : decode cX10_init 547 = .ok (.iconst 0, 1) := by decide +kernel
theorem dX10_init_548 : decode cX10_init 548 = .ok (.iconst (-1), 1) := by decide +kernel
theorem dX10_init_549 : decode cX10_init 549 = .ok (.iastore, 1) := by decide +kernel
theorem dX10_init_550 : decode cX10_init 550 = .ok (.aload_n 0, 1) := by decide +kernel
theorem dX10_init_551 : decode cX10_init 551 = .ok (.getfield 9, 3) := by decide +kernel
theorem dX10_init_554 : decode cX10_init 554 = .ok (.iconst 1, 1) := by decide +kernel
theorem dX10_init_555 : decode cX10_init 555 = .ok (.bipush 100, 2) := by decide +kernel
theorem dX10_init_557 : decode cX10_init 557 = .ok (.iastore, 1) := by decide +kernel
theorem dX10_init_558 : decode cX10_init 558 = .ok (.aload_n 0, 1) := by decide +kernel
theorem dX10_init_559 : decode cX10_init 559 = .ok (.getfield 9, 3) := by decide +kernel
theorem dX10_init_562 : decode cX10_init 562 = .ok (.iconst 2, 1) := by decide +kernel
theorem dX10_init_563 : decode cX10_init 563 = .ok (.bipush 100, 2) := by decide +kernel
theorem dX10_init_565 : decode cX10_init 565 = .ok (.iastore, 1) := by decide +kernel
theorem dX10_init_566 : decode cX10_init 566 = .ok (.aload_n 0, 1) := by decide +kernel
theorem dX10_init_567 : decode cX10_init 567 = .ok (.getfield 9, 3) := by decide +kernel
theorem dX10_init_570 : decode cX10_init 570 = .ok (.iconst 4, 1) := by decide +kernel
theorem dX10_init_571 : decode cX10_init 571 = .ok (.iconst 1, 1) := by decide +kernel
theorem dX10_init_572 : decode cX10_init 572 = .ok (.iastore, 1) := by decide +kernel
theorem dX10_init_573 : decode cX10_init 573 = .ok (.return_, 1) := by decide +kernel
theorem dX10_in_0 : decode cX10_in 0 = .ok (.lload_n 0, 1) := by decide +kernel
theorem dX10_in_1 : decode cX10_in 1 = .ok (.lload_n 2, 1) := by decide +kernel
theorem dX10_in_2 : decode cX10_in 2 = .ok (.lcmp, 1) := by decide +kernel
theorem dX10_in_3 : decode cX10_in 3 = .ok (.ifCond .lt 14, 3) := by decide +kernel
theorem dX10_in_6 : decode cX10_in 6 = .ok (.lload_n 0, 1) := by decide +kernel
theorem dX10_in_7 : decode cX10_in 7 = .ok (.lload 4, 2) := by decide +kernel
theorem dX10_in_9 : decode cX10_in 9 = .ok (.lcmp, 1) := by decide +kernel
theorem dX10_in_10 : decode cX10_in 10 = .ok (.ifCond .gt 7, 3) := by decide +kernel
theorem dX10_in_13 : decode cX10_in 13 = .ok (.iconst 1, 1) := by decide +kernel
theorem dX10_in_14 : decode cX10_in 14 = .ok (.goto 4, 3) := by decide +kernel
theorem dX10_in_17 : decode cX10_in 17 = .ok (.iconst 0, 1) := by decide +kernel
theorem dX10_in_18 : decode cX10_in 18 = .ok (.ireturn, 1) := by decide +kernel
theorem dX10_held_0 : decode cX10_held 0 = .ok (.iload_n 0, 1) := by decide +kernel
theorem dX10_held_1 : decode cX10_held 1 = .ok (.iload_n 1, 1) := by decide +kernel
theorem dX10_held_2 : decode cX10_held 2 = .ok (.if_icmp .ge 7, 3) := by decide +kernel
theorem dX10_held_5 : decode cX10_held 5 = .ok (.iload_n 1, 1) := by decide +kernel
theorem dX10_held_6 : decode cX10_held 6 = .ok (.goto 13, 3) := by decide +kernel
theorem dX10_held_9 : decode cX10_held 9 = .ok (.iload_n 0, 1) := by decide +kernel
theorem dX10_held_10 : decode cX10_held 10 = .ok (.iload_n 2, 1) := by decide +kernel
theorem dX10_held_11 : decode cX10_held 11 = .ok (.if_icmp .le 7, 3) := by decide +kernel
theorem dX10_held_14 : decode cX10_held 14 = .ok (.iload_n 2, 1) := by decide +kernel
theorem dX10_held_15 : decode cX10_held 15 = .ok (.goto 4, 3) := by decide +kernel
theorem dX10_held_18 : decode cX10_held 18 = .ok (.iload_n 0, 1) := by decide +kernel
theorem dX10_held_19 : decode cX10_held 19 = .ok (.ireturn, 1) := by decide +kernel
theorem dX10_ended_0 : decode cX10_ended 0 = .ok (.iload_n 0, 1) := by decide +kernel
theorem dX10_ended_1 : decode cX10_ended 1 = .ok (.bipush 99, 2) := by decide +kernel
theorem dX10_ended_3 : decode cX10_ended 3 = .ok (.if_icmp .ne 9, 3) := by decide +kernel
theorem dX10_ended_6 : decode cX10_ended 6 = .ok (.sipush 1000, 3) := by decide +kernel
theorem dX10_ended_9 : decode cX10_ended 9 = .ok (.goto 4, 3) := by decide +kernel
theorem dX10_ended_12 : decode cX10_ended 12 = .ok (.iload_n 0, 1) := by decide +kernel
theorem dX10_ended_13 : decode cX10_ended 13 = .ok (.ireturn, 1) := by decide +kernel
theorem dX10_get_0 : decode cX10_get 0 = .ok (.aload_n 0, 1) := by decide +kernel
theorem dX10_get_1 : decode cX10_get 1 = .ok (.getfield 9, 3) := by decide +kernel
theorem dX10_get_4 : decode cX10_get 4 = .ok (.bipush 22, 2) := by decide +kernel
theorem dX10_get_6 : decode cX10_get 6 = .ok (.bipush 38, 2) := by decide +kernel
theorem dX10_get_8 : decode cX10_get 8 = .ok (.iload_n 1, 1) := by decide +kernel
theorem dX10_get_9 : decode cX10_get 9 = .ok (.imul, 1) := by decide +kernel
theorem dX10_get_10 : decode cX10_get 10 = .ok (.iadd, 1) := by decide +kernel
theorem dX10_get_11 : decode cX10_get 11 = .ok (.iload_n 2, 1) := by decide +kernel
theorem dX10_get_12 : decode cX10_get 12 = .ok (.iadd, 1) := by decide +kernel
theorem dX10_get_13 : decode cX10_get 13 = .ok (.iaload, 1) := by decide +kernel
theorem dX10_get_14 : decode cX10_get 14 = .ok (.ireturn, 1) := by decide +kernel
theorem dX10_put_0 : decode cX10_put 0 = .ok (.aload_n 0, 1) := by decide +kernel
theorem dX10_put_1 : decode cX10_put 1 = .ok (.getfield 9, 3) := by decide +kernel
theorem dX10_put_4 : decode cX10_put 4 = .ok (.bipush 22, 2) := by decide +kernel
theorem dX10_put_6 : decode cX10_put 6 = .ok (.bipush 38, 2) := by decide +kernel
theorem dX10_put_8 : decode cX10_put 8 = .ok (.iload_n 1, 1) := by decide +kernel
theorem dX10_put_9 : decode cX10_put 9 = .ok (.imul, 1) := by decide +kernel
theorem dX10_put_10 : decode cX10_put 10 = .ok (.iadd, 1) := by decide +kernel
theorem dX10_put_11 : decode cX10_put 11 = .ok (.iload_n 2, 1) := by decide +kernel
theorem dX10_put_12 : decode cX10_put 12 = .ok (.iadd, 1) := by decide +kernel
theorem dX10_put_13 : decode cX10_put 13 = .ok (.iload_n 3, 1) := by decide +kernel
theorem dX10_put_14 : decode cX10_put 14 = .ok (.iastore, 1) := by decide +kernel
theorem dX10_put_15 : decode cX10_put 15 = .ok (.return_, 1) := by decide +kernel
theorem dX10_isBox_0 : decode cX10_isBox 0 = .ok (.iload_n 1, 1) := by decide +kernel
theorem dX10_isBox_1 : decode cX10_isBox 1 = .ok (.i2l, 1) := by decide +kernel
theorem dX10_isBox_2 : decode cX10_isBox 2 = .ok (.lconst 0, 1) := by decide +kernel
theorem dX10_isBox_3 : decode cX10_isBox 3 = .ok (.ldc2_w 85, 3) := by decide +kernel
theorem dX10_isBox_6 : decode cX10_isBox 6 = .ok (.invokestatic 87, 3) := by decide +kernel
theorem dX10_isBox_9 : decode cX10_isBox 9 = .ok (.ifCond .eq 17, 3) := by decide +kernel
theorem dX10_isBox_12 : decode cX10_isBox 12 = .ok (.aload_n 0, 1) := by decide +kernel
theorem dX10_isBox_13 : decode cX10_isBox 13 = .ok (.iload_n 1, 1) := by decide +kernel
theorem dX10_isBox_14 : decode cX10_isBox 14 = .ok (.iconst 0, 1) := by decide +kernel
theorem dX10_isBox_15 : decode cX10_isBox 15 = .ok (.invokevirtual 91, 3) := by decide +kernel
theorem dX10_isBox_18 : decode cX10_isBox 18 = .ok (.iconst 1, 1) := by decide +kernel
theorem dX10_isBox_19 : decode cX10_isBox 19 = .ok (.if_icmp .ne 7, 3) := by decide +kernel
theorem dX10_isBox_22 : decode cX10_isBox 22 = .ok (.iconst 1, 1) := by decide +kernel
theorem dX10_isBox_23 : decode cX10_isBox 23 = .ok (.goto 4, 3) := by decide +kernel
theorem dX10_isBox_26 : decode cX10_isBox 26 = .ok (.iconst 0, 1) := by decide +kernel
theorem dX10_isBox_27 : decode cX10_isBox 27 = .ok (.ireturn, 1) := by decide +kernel
theorem dX10_childOf_0 : decode cX10_childOf 0 = .ok (.aload_n 0, 1) := by decide +kernel
theorem dX10_childOf_1 : decode cX10_childOf 1 = .ok (.iload_n 1, 1) := by decide +kernel
theorem dX10_childOf_2 : decode cX10_childOf 2 = .ok (.bipush 11, 2) := by decide +kernel
theorem dX10_childOf_4 : decode cX10_childOf 4 = .ok (.iload_n 2, 1) := by decide +kernel
theorem dX10_childOf_5 : decode cX10_childOf 5 = .ok (.iadd, 1) := by decide +kernel
theorem dX10_childOf_6 : decode cX10_childOf 6 = .ok (.invokevirtual 91, 3) := by decide +kernel
theorem dX10_childOf_9 : decode cX10_childOf 9 = .ok (.ireturn, 1) := by decide +kernel
theorem dX10_manyOf_0 : decode cX10_manyOf 0 = .ok (.aload_n 0, 1) := by decide +kernel
theorem dX10_manyOf_1 : decode cX10_manyOf 1 = .ok (.iload_n 1, 1) := by decide +kernel
theorem dX10_manyOf_2 : decode cX10_manyOf 2 = .ok (.bipush 10, 2) := by decide +kernel
theorem dX10_manyOf_4 : decode cX10_manyOf 4 = .ok (.invokevirtual 91, 3) := by decide +kernel
theorem dX10_manyOf_7 : decode cX10_manyOf 7 = .ok (.ireturn, 1) := by decide +kernel
theorem dX10_copies_0 : decode cX10_copies 0 = .ok (.iconst 0, 1) := by decide +kernel
theorem dX10_copies_1 : decode cX10_copies 1 = .ok (.istore_n 2, 1) := by decide +kernel
theorem dX10_copies_2 : decode cX10_copies 2 = .ok (.iload_n 2, 1) := by decide +kernel
theorem dX10_copies_3 : decode cX10_copies 3 = .ok (.sipush 934, 3) := by decide +kernel
theorem dX10_copies_6 : decode cX10_copies 6 = .ok (.if_icmp .ge 15, 3) := by decide +kernel
theorem dX10_copies_9 : decode cX10_copies 9 = .ok (.aload_n 1, 1) := by decide +kernel
theorem dX10_copies_10 : decode cX10_copies 10 = .ok (.iload_n 2, 1) := by decide +kernel
theorem dX10_copies_11 : decode cX10_copies 11 = .ok (.aload_n 0, 1) := by decide +kernel
theorem dX10_copies_12 : decode cX10_copies 12 = .ok (.iload_n 2, 1) := by decide +kernel
theorem dX10_copies_13 : decode cX10_copies 13 = .ok (.iaload, 1) := by decide +kernel
theorem dX10_copies_14 : decode cX10_copies 14 = .ok (.iastore, 1) := by decide +kernel
theorem dX10_copies_15 : decode cX10_copies 15 = .ok (.iinc 2 1, 3) := by decide +kernel
theorem dX10_copies_18 : decode cX10_copies 18 = .ok (.goto (-16), 3) := by decide +kernel
theorem dX10_copies_21 : decode cX10_copies 21 = .ok (.return_, 1) := by decide +kernel
theorem dX10_takes_0 : decode cX10_takes 0 = .ok (.iload_n 0, 1) := by decide +kernel
theorem dX10_takes_1 : decode cX10_takes 1 = .ok (.iconst 2, 1) := by decide +kernel
theorem dX10_takes_2 : decode cX10_takes 2 = .ok (.if_icmp .ge 7, 3) := by decide +kernel
theorem dX10_takes_5 : decode cX10_takes 5 = .ok (.iconst 0, 1) := by decide +kernel
theorem dX10_takes_6 : decode cX10_takes 6 = .ok (.goto 15, 3) := by decide +kernel
theorem dX10_takes_9 : decode cX10_takes 9 = .ok (.iload_n 0, 1) := by decide +kernel
theorem dX10_takes_10 : decode cX10_takes 10 = .ok (.bipush 7, 2) := by decide +kernel
theorem dX10_takes_12 : decode cX10_takes 12 = .ok (.if_icmp .ge 7, 3) := by decide +kernel
theorem dX10_takes_15 : decode cX10_takes 15 = .ok (.iconst 1, 1) := by decide +kernel
theorem dX10_takes_16 : decode cX10_takes 16 = .ok (.goto 5, 3) := by decide +kernel
theorem dX10_takes_19 : decode cX10_takes 19 = .ok (.bipush 8, 2) := by decide +kernel
theorem dX10_takes_21 : decode cX10_takes 21 = .ok (.ireturn, 1) := by decide +kernel
theorem dX10_numbersOf_0 : decode cX10_numbersOf 0 = .ok (.iload_n 0, 1) := by decide +kernel
theorem dX10_numbersOf_1 : decode cX10_numbersOf 1 = .ok (.tableswitch 41 3 7 #[35, 37, 37, 41, 39], 35) := by decide +kernel
theorem dX10_numbersOf_36 : decode cX10_numbersOf 36 = .ok (.iconst 4, 1) := by decide +kernel
theorem dX10_numbersOf_37 : decode cX10_numbersOf 37 = .ok (.ireturn, 1) := by decide +kernel
theorem dX10_numbersOf_38 : decode cX10_numbersOf 38 = .ok (.iconst 0, 1) := by decide +kernel
theorem dX10_numbersOf_39 : decode cX10_numbersOf 39 = .ok (.ireturn, 1) := by decide +kernel
theorem dX10_numbersOf_40 : decode cX10_numbersOf 40 = .ok (.iconst 1, 1) := by decide +kernel
theorem dX10_numbersOf_41 : decode cX10_numbersOf 41 = .ok (.ireturn, 1) := by decide +kernel
theorem dX10_numbersOf_42 : decode cX10_numbersOf 42 = .ok (.iconst 2, 1) := by decide +kernel
theorem dX10_numbersOf_43 : decode cX10_numbersOf 43 = .ok (.ireturn, 1) := by decide +kernel
theorem dX10_leastOf_0 : decode cX10_leastOf 0 = .ok (.iload_n 0, 1) := by decide +kernel
theorem dX10_leastOf_1 : decode cX10_leastOf 1 = .ok (.bipush 6, 2) := by decide +kernel
theorem dX10_leastOf_3 : decode cX10_leastOf 3 = .ok (.if_icmp .ne 7, 3) := by decide +kernel
theorem dX10_leastOf_6 : decode cX10_leastOf 6 = .ok (.iconst 1, 1) := by decide +kernel
theorem dX10_leastOf_7 : decode cX10_leastOf 7 = .ok (.goto 4, 3) := by decide +kernel
theorem dX10_leastOf_10 : decode cX10_leastOf 10 = .ok (.iconst 0, 1) := by decide +kernel
theorem dX10_leastOf_11 : decode cX10_leastOf 11 = .ok (.ireturn, 1) := by decide +kernel
theorem dX10_mostOf_0 : decode cX10_mostOf 0 = .ok (.iload_n 0, 1) := by decide +kernel
theorem dX10_mostOf_1 : decode cX10_mostOf 1 = .ok (.tableswitch 70 0 7 #[47, 50, 62, 47, 70, 70, 65, 68], 47) := by decide +kernel
theorem dX10_mostOf_48 : decode cX10_mostOf 48 = .ok (.bipush 99, 2) := by decide +kernel
theorem dX10_mostOf_50 : decode cX10_mostOf 50 = .ok (.ireturn, 1) := by decide +kernel
theorem dX10_mostOf_51 : decode cX10_mostOf 51 = .ok (.iload_n 1, 1) := by decide +kernel
theorem dX10_mostOf_52 : decode cX10_mostOf 52 = .ok (.ifCond .ne 8, 3) := by decide +kernel
theorem dX10_mostOf_55 : decode cX10_mostOf 55 = .ok (.bipush 12, 2) := by decide +kernel
theorem dX10_mostOf_57 : decode cX10_mostOf 57 = .ok (.goto 5, 3) := by decide +kernel
theorem dX10_mostOf_60 : decode cX10_mostOf 60 = .ok (.bipush 31, 2) := by decide +kernel
theorem dX10_mostOf_62 : decode cX10_mostOf 62 = .ok (.ireturn, 1) := by decide +kernel
theorem dX10_mostOf_63 : decode cX10_mostOf 63 = .ok (.bipush 20, 2) := by decide +kernel
theorem dX10_mostOf_65 : decode cX10_mostOf 65 = .ok (.ireturn, 1) := by decide +kernel
theorem dX10_mostOf_66 : decode cX10_mostOf 66 = .ok (.bipush 9, 2) := by decide +kernel
theorem dX10_mostOf_68 : decode cX10_mostOf 68 = .ok (.ireturn, 1) := by decide +kernel
theorem dX10_mostOf_69 : decode cX10_mostOf 69 = .ok (.iconst 2, 1) := by decide +kernel
theorem dX10_mostOf_70 : decode cX10_mostOf 70 = .ok (.ireturn, 1) := by decide +kernel
theorem dX10_mostOf_71 : decode cX10_mostOf 71 = .ok (.iload_n 1, 1) := by decide +kernel
theorem dX10_mostOf_72 : decode cX10_mostOf 72 = .ok (.ifCond .ne 7, 3) := by decide +kernel
theorem dX10_mostOf_75 : decode cX10_mostOf 75 = .ok (.iconst 4, 1) := by decide +kernel
theorem dX10_mostOf_76 : decode cX10_mostOf 76 = .ok (.goto 5, 3) := by decide +kernel
theorem dX10_mostOf_79 : decode cX10_mostOf 79 = .ok (.bipush 20, 2) := by decide +kernel
theorem dX10_mostOf_81 : decode cX10_mostOf 81 = .ok (.ireturn, 1) := by decide +kernel
theorem dX10_mayBe_0 : decode cX10_mayBe 0 = .ok (.iload_n 2, 1) := by decide +kernel
theorem dX10_mayBe_1 : decode cX10_mayBe 1 = .ok (.i2l, 1) := by decide +kernel
theorem dX10_mayBe_2 : decode cX10_mayBe 2 = .ok (.iload_n 0, 1) := by decide +kernel
theorem dX10_mayBe_3 : decode cX10_mayBe 3 = .ok (.invokestatic 95, 3) := by decide +kernel
theorem dX10_mayBe_6 : decode cX10_mayBe 6 = .ok (.i2l, 1) := by decide +kernel
theorem dX10_mayBe_7 : decode cX10_mayBe 7 = .ok (.iload_n 0, 1) := by decide +kernel
theorem dX10_mayBe_8 : decode cX10_mayBe 8 = .ok (.iload_n 1, 1) := by decide +kernel
theorem dX10_mayBe_9 : decode cX10_mayBe 9 = .ok (.invokestatic 99, 3) := by decide +kernel
theorem dX10_mayBe_12 : decode cX10_mayBe 12 = .ok (.i2l, 1) := by decide +kernel
theorem dX10_mayBe_13 : decode cX10_mayBe 13 = .ok (.invokestatic 87, 3) := by decide +kernel
theorem dX10_mayBe_16 : decode cX10_mayBe 16 = .ok (.ireturn, 1) := by decide +kernel
theorem dX10_isFixed_0 : decode cX10_isFixed 0 = .ok (.aload_n 0, 1) := by decide +kernel
theorem dX10_isFixed_1 : decode cX10_isFixed 1 = .ok (.iload_n 1, 1) := by decide +kernel
theorem dX10_isFixed_2 : decode cX10_isFixed 2 = .ok (.bipush 25, 2) := by decide +kernel
theorem dX10_isFixed_4 : decode cX10_isFixed 4 = .ok (.invokevirtual 91, 3) := by decide +kernel
theorem dX10_isFixed_7 : decode cX10_isFixed 7 = .ok (.iconst 1, 1) := by decide +kernel
theorem dX10_isFixed_8 : decode cX10_isFixed 8 = .ok (.if_icmp .ne 41, 3) := by decide +kernel
theorem dX10_isFixed_11 : decode cX10_isFixed 11 = .ok (.aload_n 0, 1) := by decide +kernel
theorem dX10_isFixed_12 : decode cX10_isFixed 12 = .ok (.iload_n 1, 1) := by decide +kernel
theorem dX10_isFixed_13 : decode cX10_isFixed 13 = .ok (.bipush 26, 2) := by decide +kernel
theorem dX10_isFixed_15 : decode cX10_isFixed 15 = .ok (.invokevirtual 91, 3) := by decide +kernel
theorem dX10_isFixed_18 : decode cX10_isFixed 18 = .ok (.aload_n 0, 1) := by decide +kernel
theorem dX10_isFixed_19 : decode cX10_isFixed 19 = .ok (.iload_n 1, 1) := by decide +kernel
theorem dX10_isFixed_20 : decode cX10_isFixed 20 = .ok (.bipush 27, 2) := by decide +kernel
theorem dX10_isFixed_22 : decode cX10_isFixed 22 = .ok (.invokevirtual 91, 3) := by decide +kernel
theorem dX10_isFixed_25 : decode cX10_isFixed 25 = .ok (.if_icmp .ne 24, 3) := by decide +kernel
theorem dX10_isFixed_28 : decode cX10_isFixed 28 = .ok (.aload_n 0, 1) := by decide +kernel
theorem dX10_isFixed_29 : decode cX10_isFixed 29 = .ok (.iload_n 1, 1) := by decide +kernel
theorem dX10_isFixed_30 : decode cX10_isFixed 30 = .ok (.bipush 28, 2) := by decide +kernel
theorem dX10_isFixed_32 : decode cX10_isFixed 32 = .ok (.invokevirtual 91, 3) := by decide +kernel
theorem dX10_isFixed_35 : decode cX10_isFixed 35 = .ok (.aload_n 0, 1) := by decide +kernel
theorem dX10_isFixed_36 : decode cX10_isFixed 36 = .ok (.iload_n 1, 1) := by decide +kernel
theorem dX10_isFixed_37 : decode cX10_isFixed 37 = .ok (.bipush 29, 2) := by decide +kernel
theorem dX10_isFixed_39 : decode cX10_isFixed 39 = .ok (.invokevirtual 91, 3) := by decide +kernel
theorem dX10_isFixed_42 : decode cX10_isFixed 42 = .ok (.if_icmp .ne 7, 3) := by decide +kernel
theorem dX10_isFixed_45 : decode cX10_isFixed 45 = .ok (.iconst 1, 1) := by decide +kernel
theorem dX10_isFixed_46 : decode cX10_isFixed 46 = .ok (.goto 4, 3) := by decide +kernel
theorem dX10_isFixed_49 : decode cX10_isFixed 49 = .ok (.iconst 0, 1) := by decide +kernel
theorem dX10_isFixed_50 : decode cX10_isFixed 50 = .ok (.ireturn, 1) := by decide +kernel
theorem dX10_marks_0 : decode cX10_marks 0 = .ok (.iload_n 1, 1) := by decide +kernel
theorem dX10_marks_1 : decode cX10_marks 1 = .ok (.istore_n 2, 1) := by decide +kernel
theorem dX10_marks_2 : decode cX10_marks 2 = .ok (.iload_n 2, 1) := by decide +kernel
theorem dX10_marks_3 : decode cX10_marks 3 = .ok (.ifCond .lt 94, 3) := by decide +kernel
theorem dX10_marks_6 : decode cX10_marks 6 = .ok (.aload_n 0, 1) := by decide +kernel
theorem dX10_marks_7 : decode cX10_marks 7 = .ok (.iload_n 2, 1) := by decide +kernel
theorem dX10_marks_8 : decode cX10_marks 8 = .ok (.bipush 19, 2) := by decide +kernel
theorem dX10_marks_10 : decode cX10_marks 10 = .ok (.iconst 1, 1) := by decide +kernel
theorem dX10_marks_11 : decode cX10_marks 11 = .ok (.invokevirtual 102, 3) := by decide +kernel
theorem dX10_marks_14 : decode cX10_marks 14 = .ok (.iload_n 2, 1) := by decide +kernel
theorem dX10_marks_15 : decode cX10_marks 15 = .ok (.aload_n 0, 1) := by decide +kernel
theorem dX10_marks_16 : decode cX10_marks 16 = .ok (.getfield 9, 3) := by decide +kernel
theorem dX10_marks_19 : decode cX10_marks 19 = .ok (.iconst 0, 1) := by decide +kernel
theorem dX10_marks_20 : decode cX10_marks 20 = .ok (.iaload, 1) := by decide +kernel
theorem dX10_marks_21 : decode cX10_marks 21 = .ok (.if_icmp .eq 31, 3) := by decide +kernel
theorem dX10_marks_24 : decode cX10_marks 24 = .ok (.aload_n 0, 1) := by decide +kernel
theorem dX10_marks_25 : decode cX10_marks 25 = .ok (.iload_n 2, 1) := by decide +kernel
theorem dX10_marks_26 : decode cX10_marks 26 = .ok (.invokevirtual 106, 3) := by decide +kernel
theorem dX10_marks_29 : decode cX10_marks 29 = .ok (.ifCond .eq 27, 3) := by decide +kernel
theorem dX10_marks_32 : decode cX10_marks 32 = .ok (.aload_n 0, 1) := by decide +kernel
theorem dX10_marks_33 : decode cX10_marks 33 = .ok (.iload_n 2, 1) := by decide +kernel
theorem dX10_marks_34 : decode cX10_marks 34 = .ok (.bipush 21, 2) := by decide +kernel
theorem dX10_marks_36 : decode cX10_marks 36 = .ok (.invokevirtual 91, 3) := by decide +kernel
theorem dX10_marks_39 : decode cX10_marks 39 = .ok (.ifCond .ne 17, 3) := by decide +kernel
theorem dX10_marks_42 : decode cX10_marks 42 = .ok (.aload_n 0, 1) := by decide +kernel
theorem dX10_marks_43 : decode cX10_marks 43 = .ok (.iload_n 2, 1) := by decide +kernel
theorem dX10_marks_44 : decode cX10_marks 44 = .ok (.bipush 24, 2) := by decide +kernel
theorem dX10_marks_46 : decode cX10_marks 46 = .ok (.invokevirtual 91, 3) := by decide +kernel
theorem dX10_marks_49 : decode cX10_marks 49 = .ok (.ifCond .ne 7, 3) := by decide +kernel
theorem dX10_marks_52 : decode cX10_marks 52 = .ok (.iconst 1, 1) := by decide +kernel
theorem dX10_marks_53 : decode cX10_marks 53 = .ok (.goto 4, 3) := by decide +kernel
theorem dX10_marks_56 : decode cX10_marks 56 = .ok (.iconst 0, 1) := by decide +kernel
theorem dX10_marks_57 : decode cX10_marks 57 = .ok (.istore_n 3, 1) := by decide +kernel
theorem dX10_marks_58 : decode cX10_marks 58 = .ok (.aload_n 0, 1) := by decide +kernel
theorem dX10_marks_59 : decode cX10_marks 59 = .ok (.iload_n 2, 1) := by decide +kernel
theorem dX10_marks_60 : decode cX10_marks 60 = .ok (.bipush 21, 2) := by decide +kernel
theorem dX10_marks_62 : decode cX10_marks 62 = .ok (.iconst 0, 1) := by decide +kernel
theorem dX10_marks_63 : decode cX10_marks 63 = .ok (.invokevirtual 102, 3) := by decide +kernel
theorem dX10_marks_66 : decode cX10_marks 66 = .ok (.iload_n 3, 1) := by decide +kernel
theorem dX10_marks_67 : decode cX10_marks 67 = .ok (.ifCond .eq 11, 3) := by decide +kernel
theorem dX10_marks_70 : decode cX10_marks 70 = .ok (.aload_n 0, 1) := by decide +kernel
theorem dX10_marks_71 : decode cX10_marks 71 = .ok (.iload_n 2, 1) := by decide +kernel
theorem dX10_marks_72 : decode cX10_marks 72 = .ok (.bipush 20, 2) := by decide +kernel
theorem dX10_marks_74 : decode cX10_marks 74 = .ok (.iconst 1, 1) := by decide +kernel
theorem dX10_marks_75 : decode cX10_marks 75 = .ok (.invokevirtual 102, 3) := by decide +kernel
theorem dX10_marks_78 : decode cX10_marks 78 = .ok (.iload_n 3, 1) := by decide +kernel
theorem dX10_marks_79 : decode cX10_marks 79 = .ok (.ifCond .eq 7, 3) := by decide +kernel
theorem dX10_marks_82 : decode cX10_marks 82 = .ok (.iconst (-1), 1) := by decide +kernel
theorem dX10_marks_83 : decode cX10_marks 83 = .ok (.goto 10, 3) := by decide +kernel
theorem dX10_marks_86 : decode cX10_marks 86 = .ok (.aload_n 0, 1) := by decide +kernel
theorem dX10_marks_87 : decode cX10_marks 87 = .ok (.iload_n 2, 1) := by decide +kernel
theorem dX10_marks_88 : decode cX10_marks 88 = .ok (.bipush 9, 2) := by decide +kernel
theorem dX10_marks_90 : decode cX10_marks 90 = .ok (.invokevirtual 91, 3) := by decide +kernel
theorem dX10_marks_93 : decode cX10_marks 93 = .ok (.istore_n 2, 1) := by decide +kernel
theorem dX10_marks_94 : decode cX10_marks 94 = .ok (.goto (-92), 3) := by decide +kernel
theorem dX10_marks_97 : decode cX10_marks 97 = .ok (.return_, 1) := by decide +kernel
theorem dX10_putBox_0 : decode cX10_putBox 0 = .ok (.aload_n 0, 1) := by decide +kernel
theorem dX10_putBox_1 : decode cX10_putBox 1 = .ok (.getfield 9, 3) := by decide +kernel
theorem dX10_putBox_4 : decode cX10_putBox 4 = .ok (.iconst 3, 1) := by decide +kernel
theorem dX10_putBox_5 : decode cX10_putBox 5 = .ok (.iaload, 1) := by decide +kernel
theorem dX10_putBox_6 : decode cX10_putBox 6 = .ok (.istore 8, 2) := by decide +kernel
theorem dX10_putBox_8 : decode cX10_putBox 8 = .ok (.aload_n 0, 1) := by decide +kernel
theorem dX10_putBox_9 : decode cX10_putBox 9 = .ok (.getfield 9, 3) := by decide +kernel
theorem dX10_putBox_12 : decode cX10_putBox 12 = .ok (.iconst 3, 1) := by decide +kernel
theorem dX10_putBox_13 : decode cX10_putBox 13 = .ok (.dup2, 1) := by decide +kernel
theorem dX10_putBox_14 : decode cX10_putBox 14 = .ok (.iaload, 1) := by decide +kernel
theorem dX10_putBox_15 : decode cX10_putBox 15 = .ok (.iconst 1, 1) := by decide +kernel
theorem dX10_putBox_16 : decode cX10_putBox 16 = .ok (.iadd, 1) := by decide +kernel
theorem dX10_putBox_17 : decode cX10_putBox 17 = .ok (.iastore, 1) := by decide +kernel
theorem dX10_putBox_18 : decode cX10_putBox 18 = .ok (.iconst 0, 1) := by decide +kernel
theorem dX10_putBox_19 : decode cX10_putBox 19 = .ok (.istore 9, 2) := by decide +kernel
theorem dX10_putBox_21 : decode cX10_putBox 21 = .ok (.iload 9, 2) := by decide +kernel
theorem dX10_putBox_23 : decode cX10_putBox 23 = .ok (.bipush 38, 2) := by decide +kernel
theorem dX10_putBox_25 : decode cX10_putBox 25 = .ok (.if_icmp .ge 18, 3) := by decide +kernel
theorem dX10_putBox_28 : decode cX10_putBox 28 = .ok (.aload_n 0, 1) := by decide +kernel
theorem dX10_putBox_29 : decode cX10_putBox 29 = .ok (.iload 8, 2) := by decide +kernel
theorem dX10_putBox_31 : decode cX10_putBox 31 = .ok (.iload 9, 2) := by decide +kernel
theorem dX10_putBox_33 : decode cX10_putBox 33 = .ok (.iconst 0, 1) := by decide +kernel
theorem dX10_putBox_34 : decode cX10_putBox 34 = .ok (.invokevirtual 102, 3) := by decide +kernel
theorem dX10_putBox_37 : decode cX10_putBox 37 = .ok (.iinc 9 1, 3) := by decide +kernel
theorem dX10_putBox_40 : decode cX10_putBox 40 = .ok (.goto (-19), 3) := by decide +kernel
theorem dX10_putBox_43 : decode cX10_putBox 43 = .ok (.iload_n 1, 1) := by decide +kernel
theorem dX10_putBox_44 : decode cX10_putBox 44 = .ok (.invokestatic 110, 3) := by decide +kernel
theorem dX10_putBox_47 : decode cX10_putBox 47 = .ok (.istore 9, 2) := by decide +kernel
theorem dX10_putBox_49 : decode cX10_putBox 49 = .ok (.aload_n 0, 1) := by decide +kernel
theorem dX10_putBox_50 : decode cX10_putBox 50 = .ok (.iload 8, 2) := by decide +kernel
theorem dX10_putBox_52 : decode cX10_putBox 52 = .ok (.iconst 0, 1) := by decide +kernel
theorem dX10_putBox_53 : decode cX10_putBox 53 = .ok (.iconst 1, 1) := by decide +kernel
theorem dX10_putBox_54 : decode cX10_putBox 54 = .ok (.invokevirtual 102, 3) := by decide +kernel
theorem dX10_putBox_57 : decode cX10_putBox 57 = .ok (.aload_n 0, 1) := by decide +kernel
theorem dX10_putBox_58 : decode cX10_putBox 58 = .ok (.iload 8, 2) := by decide +kernel
theorem dX10_putBox_60 : decode cX10_putBox 60 = .ok (.iconst 1, 1) := by decide +kernel
theorem dX10_putBox_61 : decode cX10_putBox 61 = .ok (.iload_n 1, 1) := by decide +kernel
theorem dX10_putBox_62 : decode cX10_putBox 62 = .ok (.invokevirtual 102, 3) := by decide +kernel
theorem dX10_putBox_65 : decode cX10_putBox 65 = .ok (.aload_n 0, 1) := by decide +kernel
theorem dX10_putBox_66 : decode cX10_putBox 66 = .ok (.iload 8, 2) := by decide +kernel
theorem dX10_putBox_68 : decode cX10_putBox 68 = .ok (.iconst 2, 1) := by decide +kernel
theorem dX10_putBox_69 : decode cX10_putBox 69 = .ok (.iload 9, 2) := by decide +kernel
theorem dX10_putBox_71 : decode cX10_putBox 71 = .ok (.ifCond .le 7, 3) := by decide +kernel
theorem dX10_putBox_74 : decode cX10_putBox 74 = .ok (.iload_n 3, 1) := by decide +kernel
theorem dX10_putBox_75 : decode cX10_putBox 75 = .ok (.goto 4, 3) := by decide +kernel
theorem dX10_putBox_78 : decode cX10_putBox 78 = .ok (.iconst 0, 1) := by decide +kernel
theorem dX10_putBox_79 : decode cX10_putBox 79 = .ok (.invokevirtual 102, 3) := by decide +kernel
theorem dX10_putBox_82 : decode cX10_putBox 82 = .ok (.aload_n 0, 1) := by decide +kernel
theorem dX10_putBox_83 : decode cX10_putBox 83 = .ok (.iload 8, 2) := by decide +kernel
theorem dX10_putBox_85 : decode cX10_putBox 85 = .ok (.iconst 3, 1) := by decide +kernel
theorem dX10_putBox_86 : decode cX10_putBox 86 = .ok (.iload 9, 2) := by decide +kernel
theorem dX10_putBox_88 : decode cX10_putBox 88 = .ok (.iconst 1, 1) := by decide +kernel
theorem dX10_putBox_89 : decode cX10_putBox 89 = .ok (.if_icmp .le 8, 3) := by decide +kernel
theorem dX10_putBox_92 : decode cX10_putBox 92 = .ok (.iload 4, 2) := by decide +kernel
theorem dX10_putBox_94 : decode cX10_putBox 94 = .ok (.goto 4, 3) := by decide +kernel
theorem dX10_putBox_97 : decode cX10_putBox 97 = .ok (.iconst 0, 1) := by decide +kernel
theorem dX10_putBox_98 : decode cX10_putBox 98 = .ok (.invokevirtual 102, 3) := by decide +kernel
theorem dX10_putBox_101 : decode cX10_putBox 101 = .ok (.aload_n 0, 1) := by decide +kernel
theorem dX10_putBox_102 : decode cX10_putBox 102 = .ok (.iload 8, 2) := by decide +kernel
theorem dX10_putBox_104 : decode cX10_putBox 104 = .ok (.iconst 4, 1) := by decide +kernel
theorem dX10_putBox_105 : decode cX10_putBox 105 = .ok (.iload 9, 2) := by decide +kernel
theorem dX10_putBox_107 : decode cX10_putBox 107 = .ok (.iconst 2, 1) := by decide +kernel
theorem dX10_putBox_108 : decode cX10_putBox 108 = .ok (.if_icmp .le 8, 3) := by decide +kernel
theorem dX10_putBox_111 : decode cX10_putBox 111 = .ok (.iload 5, 2) := by decide +kernel
theorem dX10_putBox_113 : decode cX10_putBox 113 = .ok (.goto 4, 3) := by decide +kernel
theorem dX10_putBox_116 : decode cX10_putBox 116 = .ok (.iconst 0, 1) := by decide +kernel
theorem dX10_putBox_117 : decode cX10_putBox 117 = .ok (.invokevirtual 102, 3) := by decide +kernel
theorem dX10_putBox_120 : decode cX10_putBox 120 = .ok (.aload_n 0, 1) := by decide +kernel
theorem dX10_putBox_121 : decode cX10_putBox 121 = .ok (.iload 8, 2) := by decide +kernel
theorem dX10_putBox_123 : decode cX10_putBox 123 = .ok (.iconst 5, 1) := by decide +kernel
theorem dX10_putBox_124 : decode cX10_putBox 124 = .ok (.iload 9, 2) := by decide +kernel
theorem dX10_putBox_126 : decode cX10_putBox 126 = .ok (.iconst 3, 1) := by decide +kernel
theorem dX10_putBox_127 : decode cX10_putBox 127 = .ok (.if_icmp .le 8, 3) := by decide +kernel
theorem dX10_putBox_130 : decode cX10_putBox 130 = .ok (.iload 6, 2) := by decide +kernel
theorem dX10_putBox_132 : decode cX10_putBox 132 = .ok (.goto 4, 3) := by decide +kernel
theorem dX10_putBox_135 : decode cX10_putBox 135 = .ok (.iconst 0, 1) := by decide +kernel
theorem dX10_putBox_136 : decode cX10_putBox 136 = .ok (.invokevirtual 102, 3) := by decide +kernel
theorem dX10_putBox_139 : decode cX10_putBox 139 = .ok (.aload_n 0, 1) := by decide +kernel
theorem dX10_putBox_140 : decode cX10_putBox 140 = .ok (.iload 8, 2) := by decide +kernel
theorem dX10_putBox_142 : decode cX10_putBox 142 = .ok (.bipush 6, 2) := by decide +kernel
theorem dX10_putBox_144 : decode cX10_putBox 144 = .ok (.iload 7, 2) := by decide +kernel
theorem dX10_putBox_146 : decode cX10_putBox 146 = .ok (.invokevirtual 102, 3) := by decide +kernel
theorem dX10_putBox_149 : decode cX10_putBox 149 = .ok (.aload_n 0, 1) := by decide +kernel
theorem dX10_putBox_150 : decode cX10_putBox 150 = .ok (.iload 8, 2) := by decide +kernel
theorem dX10_putBox_152 : decode cX10_putBox 152 = .ok (.bipush 8, 2) := by decide +kernel
theorem dX10_putBox_154 : decode cX10_putBox 154 = .ok (.bipush 99, 2) := by decide +kernel
theorem dX10_putBox_156 : decode cX10_putBox 156 = .ok (.invokevirtual 102, 3) := by decide +kernel
theorem dX10_putBox_159 : decode cX10_putBox 159 = .ok (.aload_n 0, 1) := by decide +kernel
theorem dX10_putBox_160 : decode cX10_putBox 160 = .ok (.iload 8, 2) := by decide +kernel
theorem dX10_putBox_162 : decode cX10_putBox 162 = .ok (.bipush 9, 2) := by decide +kernel
theorem dX10_putBox_164 : decode cX10_putBox 164 = .ok (.iload_n 2, 1) := by decide +kernel
theorem dX10_putBox_165 : decode cX10_putBox 165 = .ok (.invokevirtual 102, 3) := by decide +kernel
theorem dX10_putBox_168 : decode cX10_putBox 168 = .ok (.aload_n 0, 1) := by decide +kernel
theorem dX10_putBox_169 : decode cX10_putBox 169 = .ok (.iload 8, 2) := by decide +kernel
theorem dX10_putBox_171 : decode cX10_putBox 171 = .ok (.bipush 19, 2) := by decide +kernel
theorem dX10_putBox_173 : decode cX10_putBox 173 = .ok (.iconst 1, 1) := by decide +kernel
theorem dX10_putBox_174 : decode cX10_putBox 174 = .ok (.invokevirtual 102, 3) := by decide +kernel
theorem dX10_putBox_177 : decode cX10_putBox 177 = .ok (.iload_n 2, 1) := by decide +kernel
theorem dX10_putBox_178 : decode cX10_putBox 178 = .ok (.ifCond .ge 20, 3) := by decide +kernel
theorem dX10_putBox_181 : decode cX10_putBox 181 = .ok (.aload_n 0, 1) := by decide +kernel
theorem dX10_putBox_182 : decode cX10_putBox 182 = .ok (.getfield 9, 3) := by decide +kernel
theorem dX10_putBox_185 : decode cX10_putBox 185 = .ok (.iconst 0, 1) := by decide +kernel
theorem dX10_putBox_186 : decode cX10_putBox 186 = .ok (.iload 8, 2) := by decide +kernel
theorem dX10_putBox_188 : decode cX10_putBox 188 = .ok (.iastore, 1) := by decide +kernel
theorem dX10_putBox_189 : decode cX10_putBox 189 = .ok (.aload_n 0, 1) := by decide +kernel
theorem dX10_putBox_190 : decode cX10_putBox 190 = .ok (.iload 8, 2) := by decide +kernel
theorem dX10_putBox_192 : decode cX10_putBox 192 = .ok (.invokevirtual 113, 3) := by decide +kernel
theorem dX10_putBox_195 : decode cX10_putBox 195 = .ok (.goto 37, 3) := by decide +kernel
theorem dX10_putBox_198 : decode cX10_putBox 198 = .ok (.aload_n 0, 1) := by decide +kernel
theorem dX10_putBox_199 : decode cX10_putBox 199 = .ok (.iload_n 2, 1) := by decide +kernel
theorem dX10_putBox_200 : decode cX10_putBox 200 = .ok (.bipush 11, 2) := by decide +kernel
theorem dX10_putBox_202 : decode cX10_putBox 202 = .ok (.aload_n 0, 1) := by decide +kernel
theorem dX10_putBox_203 : decode cX10_putBox 203 = .ok (.iload_n 2, 1) := by decide +kernel
theorem dX10_putBox_204 : decode cX10_putBox 204 = .ok (.invokevirtual 117, 3) := by decide +kernel
theorem dX10_putBox_207 : decode cX10_putBox 207 = .ok (.iadd, 1) := by decide +kernel
theorem dX10_putBox_208 : decode cX10_putBox 208 = .ok (.iload 8, 2) := by decide +kernel
theorem dX10_putBox_210 : decode cX10_putBox 210 = .ok (.invokevirtual 102, 3) := by decide +kernel
theorem dX10_putBox_213 : decode cX10_putBox 213 = .ok (.aload_n 0, 1) := by decide +kernel
theorem dX10_putBox_214 : decode cX10_putBox 214 = .ok (.iload_n 2, 1) := by decide +kernel
theorem dX10_putBox_215 : decode cX10_putBox 215 = .ok (.bipush 10, 2) := by decide +kernel
theorem dX10_putBox_217 : decode cX10_putBox 217 = .ok (.aload_n 0, 1) := by decide +kernel
theorem dX10_putBox_218 : decode cX10_putBox 218 = .ok (.iload_n 2, 1) := by decide +kernel
theorem dX10_putBox_219 : decode cX10_putBox 219 = .ok (.invokevirtual 117, 3) := by decide +kernel
theorem dX10_putBox_222 : decode cX10_putBox 222 = .ok (.iconst 1, 1) := by decide +kernel
theorem dX10_putBox_223 : decode cX10_putBox 223 = .ok (.iadd, 1) := by decide +kernel
theorem dX10_putBox_224 : decode cX10_putBox 224 = .ok (.invokevirtual 102, 3) := by decide +kernel
theorem dX10_putBox_227 : decode cX10_putBox 227 = .ok (.aload_n 0, 1) := by decide +kernel
theorem dX10_putBox_228 : decode cX10_putBox 228 = .ok (.iload_n 2, 1) := by decide +kernel
theorem dX10_putBox_229 : decode cX10_putBox 229 = .ok (.invokevirtual 113, 3) := by decide +kernel
theorem dX10_putBox_232 : decode cX10_putBox 232 = .ok (.iload 8, 2) := by decide +kernel
theorem dX10_putBox_234 : decode cX10_putBox 234 = .ok (.ireturn, 1) := by decide +kernel
theorem dX10_areGood_0 : decode cX10_areGood 0 = .ok (.iload_n 0, 1) := by decide +kernel
theorem dX10_areGood_1 : decode cX10_areGood 1 = .ok (.invokestatic 110, 3) := by decide +kernel
theorem dX10_areGood_4 : decode cX10_areGood 4 = .ok (.istore 5, 2) := by decide +kernel
theorem dX10_areGood_6 : decode cX10_areGood 6 = .ok (.iload 5, 2) := by decide +kernel
theorem dX10_areGood_8 : decode cX10_areGood 8 = .ok (.iconst 1, 1) := by decide +kernel
theorem dX10_areGood_9 : decode cX10_areGood 9 = .ok (.if_icmp .lt 12, 3) := by decide +kernel
theorem dX10_areGood_12 : decode cX10_areGood 12 = .ok (.iload_n 0, 1) := by decide +kernel
theorem dX10_areGood_13 : decode cX10_areGood 13 = .ok (.iconst 0, 1) := by decide +kernel
theorem dX10_areGood_14 : decode cX10_areGood 14 = .ok (.iload_n 1, 1) := by decide +kernel
theorem dX10_areGood_15 : decode cX10_areGood 15 = .ok (.invokestatic 120, 3) := by decide +kernel
theorem dX10_areGood_18 : decode cX10_areGood 18 = .ok (.ifCond .eq 47, 3) := by decide +kernel
theorem dX10_areGood_21 : decode cX10_areGood 21 = .ok (.iload 5, 2) := by decide +kernel
theorem dX10_areGood_23 : decode cX10_areGood 23 = .ok (.iconst 2, 1) := by decide +kernel
theorem dX10_areGood_24 : decode cX10_areGood 24 = .ok (.if_icmp .lt 12, 3) := by decide +kernel
theorem dX10_areGood_27 : decode cX10_areGood 27 = .ok (.iload_n 0, 1) := by decide +kernel
theorem dX10_areGood_28 : decode cX10_areGood 28 = .ok (.iconst 1, 1) := by decide +kernel
theorem dX10_areGood_29 : decode cX10_areGood 29 = .ok (.iload_n 2, 1) := by decide +kernel
theorem dX10_areGood_30 : decode cX10_areGood 30 = .ok (.invokestatic 120, 3) := by decide +kernel
theorem dX10_areGood_33 : decode cX10_areGood 33 = .ok (.ifCond .eq 32, 3) := by decide +kernel
theorem dX10_areGood_36 : decode cX10_areGood 36 = .ok (.iload 5, 2) := by decide +kernel
theorem dX10_areGood_38 : decode cX10_areGood 38 = .ok (.iconst 3, 1) := by decide +kernel
theorem dX10_areGood_39 : decode cX10_areGood 39 = .ok (.if_icmp .lt 22, 3) := by decide +kernel
theorem dX10_areGood_42 : decode cX10_areGood 42 = .ok (.iload_n 0, 1) := by decide +kernel
theorem dX10_areGood_43 : decode cX10_areGood 43 = .ok (.iconst 2, 1) := by decide +kernel
theorem dX10_areGood_44 : decode cX10_areGood 44 = .ok (.iload_n 3, 1) := by decide +kernel
theorem dX10_areGood_45 : decode cX10_areGood 45 = .ok (.invokestatic 120, 3) := by decide +kernel
theorem dX10_areGood_48 : decode cX10_areGood 48 = .ok (.ifCond .eq 17, 3) := by decide +kernel
theorem dX10_areGood_51 : decode cX10_areGood 51 = .ok (.iload_n 0, 1) := by decide +kernel
theorem dX10_areGood_52 : decode cX10_areGood 52 = .ok (.iconst 3, 1) := by decide +kernel
theorem dX10_areGood_53 : decode cX10_areGood 53 = .ok (.iload 4, 2) := by decide +kernel
theorem dX10_areGood_55 : decode cX10_areGood 55 = .ok (.invokestatic 120, 3) := by decide +kernel
theorem dX10_areGood_58 : decode cX10_areGood 58 = .ok (.ifCond .eq 7, 3) := by decide +kernel
theorem dX10_areGood_61 : decode cX10_areGood 61 = .ok (.iconst 1, 1) := by decide +kernel
theorem dX10_areGood_62 : decode cX10_areGood 62 = .ok (.goto 4, 3) := by decide +kernel
theorem dX10_areGood_65 : decode cX10_areGood 65 = .ok (.iconst 0, 1) := by decide +kernel
theorem dX10_areGood_66 : decode cX10_areGood 66 = .ok (.istore 6, 2) := by decide +kernel
theorem dX10_areGood_68 : decode cX10_areGood 68 = .ok (.iload 6, 2) := by decide +kernel
theorem dX10_areGood_70 : decode cX10_areGood 70 = .ok (.ifCond .eq 23, 3) := by decide +kernel
theorem dX10_areGood_73 : decode cX10_areGood 73 = .ok (.iload_n 0, 1) := by decide +kernel
theorem dX10_areGood_74 : decode cX10_areGood 74 = .ok (.iconst 3, 1) := by decide +kernel
theorem dX10_areGood_75 : decode cX10_areGood 75 = .ok (.if_icmp .ne 14, 3) := by decide +kernel
theorem dX10_areGood_78 : decode cX10_areGood 78 = .ok (.iload_n 1, 1) := by decide +kernel
theorem dX10_areGood_79 : decode cX10_areGood 79 = .ok (.iload_n 2, 1) := by decide +kernel
theorem dX10_areGood_80 : decode cX10_areGood 80 = .ok (.if_icmp .gt 13, 3) := by decide +kernel
theorem dX10_areGood_83 : decode cX10_areGood 83 = .ok (.iload_n 3, 1) := by decide +kernel
theorem dX10_areGood_84 : decode cX10_areGood 84 = .ok (.iload 4, 2) := by decide +kernel
theorem dX10_areGood_86 : decode cX10_areGood 86 = .ok (.if_icmp .gt 7, 3) := by decide +kernel
theorem dX10_areGood_89 : decode cX10_areGood 89 = .ok (.iconst 1, 1) := by decide +kernel
theorem dX10_areGood_90 : decode cX10_areGood 90 = .ok (.goto 4, 3) := by decide +kernel
theorem dX10_areGood_93 : decode cX10_areGood 93 = .ok (.iconst 0, 1) := by decide +kernel
theorem dX10_areGood_94 : decode cX10_areGood 94 = .ok (.ireturn, 1) := by decide +kernel
theorem dX10_isRoom_0 : decode cX10_isRoom 0 = .ok (.iload_n 1, 1) := by decide +kernel
theorem dX10_isRoom_1 : decode cX10_isRoom 1 = .ok (.ifCond .ge 20, 3) := by decide +kernel
theorem dX10_isRoom_4 : decode cX10_isRoom 4 = .ok (.aload_n 0, 1) := by decide +kernel
theorem dX10_isRoom_5 : decode cX10_isRoom 5 = .ok (.getfield 9, 3) := by decide +kernel
theorem dX10_isRoom_8 : decode cX10_isRoom 8 = .ok (.iconst 0, 1) := by decide +kernel
theorem dX10_isRoom_9 : decode cX10_isRoom 9 = .ok (.iaload, 1) := by decide +kernel
theorem dX10_isRoom_10 : decode cX10_isRoom 10 = .ok (.ifCond .ge 7, 3) := by decide +kernel
theorem dX10_isRoom_13 : decode cX10_isRoom 13 = .ok (.iconst 1, 1) := by decide +kernel
theorem dX10_isRoom_14 : decode cX10_isRoom 14 = .ok (.goto 29, 3) := by decide +kernel
theorem dX10_isRoom_17 : decode cX10_isRoom 17 = .ok (.iconst 0, 1) := by decide +kernel
theorem dX10_isRoom_18 : decode cX10_isRoom 18 = .ok (.goto 25, 3) := by decide +kernel
theorem dX10_isRoom_21 : decode cX10_isRoom 21 = .ok (.aload_n 0, 1) := by decide +kernel
theorem dX10_isRoom_22 : decode cX10_isRoom 22 = .ok (.iload_n 1, 1) := by decide +kernel
theorem dX10_isRoom_23 : decode cX10_isRoom 23 = .ok (.invokevirtual 117, 3) := by decide +kernel
theorem dX10_isRoom_26 : decode cX10_isRoom 26 = .ok (.aload_n 0, 1) := by decide +kernel
theorem dX10_isRoom_27 : decode cX10_isRoom 27 = .ok (.iload_n 1, 1) := by decide +kernel
theorem dX10_isRoom_28 : decode cX10_isRoom 28 = .ok (.iconst 1, 1) := by decide +kernel
theorem dX10_isRoom_29 : decode cX10_isRoom 29 = .ok (.invokevirtual 91, 3) := by decide +kernel
theorem dX10_isRoom_32 : decode cX10_isRoom 32 = .ok (.invokestatic 124, 3) := by decide +kernel
theorem dX10_isRoom_35 : decode cX10_isRoom 35 = .ok (.if_icmp .ge 7, 3) := by decide +kernel
theorem dX10_isRoom_38 : decode cX10_isRoom 38 = .ok (.iconst 1, 1) := by decide +kernel
theorem dX10_isRoom_39 : decode cX10_isRoom 39 = .ok (.goto 4, 3) := by decide +kernel
theorem dX10_isRoom_42 : decode cX10_isRoom 42 = .ok (.iconst 0, 1) := by decide +kernel
theorem dX10_isRoom_43 : decode cX10_isRoom 43 = .ok (.ireturn, 1) := by decide +kernel
theorem dX10_comes_0 : decode cX10_comes 0 = .ok (.iload_n 2, 1) := by decide +kernel
theorem dX10_comes_1 : decode cX10_comes 1 = .ok (.iconst (-1), 1) := by decide +kernel
theorem dX10_comes_2 : decode cX10_comes 2 = .ok (.if_icmp .eq 13, 3) := by decide +kernel
theorem dX10_comes_5 : decode cX10_comes 5 = .ok (.aload_n 0, 1) := by decide +kernel
theorem dX10_comes_6 : decode cX10_comes 6 = .ok (.iload_n 2, 1) := by decide +kernel
theorem dX10_comes_7 : decode cX10_comes 7 = .ok (.invokevirtual 127, 3) := by decide +kernel
theorem dX10_comes_10 : decode cX10_comes 10 = .ok (.ifCond .ne 5, 3) := by decide +kernel
theorem dX10_comes_13 : decode cX10_comes 13 = .ok (.iconst (-1), 1) := by decide +kernel
theorem dX10_comes_14 : decode cX10_comes 14 = .ok (.ireturn, 1) := by decide +kernel
theorem dX10_comes_15 : decode cX10_comes 15 = .ok (.iload_n 1, 1) := by decide +kernel
theorem dX10_comes_16 : decode cX10_comes 16 = .ok (.i2l, 1) := by decide +kernel
theorem dX10_comes_17 : decode cX10_comes 17 = .ok (.lconst 0, 1) := by decide +kernel
theorem dX10_comes_18 : decode cX10_comes 18 = .ok (.ldc2_w 130, 3) := by decide +kernel
theorem dX10_comes_21 : decode cX10_comes 21 = .ok (.invokestatic 87, 3) := by decide +kernel
theorem dX10_comes_24 : decode cX10_comes 24 = .ok (.ifCond .eq 17, 3) := by decide +kernel
theorem dX10_comes_27 : decode cX10_comes 27 = .ok (.iload_n 1, 1) := by decide +kernel
theorem dX10_comes_28 : decode cX10_comes 28 = .ok (.iload_n 3, 1) := by decide +kernel
theorem dX10_comes_29 : decode cX10_comes 29 = .ok (.iload 4, 2) := by decide +kernel
theorem dX10_comes_31 : decode cX10_comes 31 = .ok (.iload 5, 2) := by decide +kernel
theorem dX10_comes_33 : decode cX10_comes 33 = .ok (.iload 6, 2) := by decide +kernel
theorem dX10_comes_35 : decode cX10_comes 35 = .ok (.invokestatic 132, 3) := by decide +kernel
theorem dX10_comes_38 : decode cX10_comes 38 = .ok (.ifCond .ne 6, 3) := by decide +kernel
theorem dX10_comes_41 : decode cX10_comes 41 = .ok (.bipush (-2), 2) := by decide +kernel
theorem dX10_comes_43 : decode cX10_comes 43 = .ok (.ireturn, 1) := by decide +kernel
theorem dX10_comes_44 : decode cX10_comes 44 = .ok (.aload_n 0, 1) := by decide +kernel
theorem dX10_comes_45 : decode cX10_comes 45 = .ok (.iload_n 2, 1) := by decide +kernel
theorem dX10_comes_46 : decode cX10_comes 46 = .ok (.invokevirtual 136, 3) := by decide +kernel
theorem dX10_comes_49 : decode cX10_comes 49 = .ok (.ifCond .ne 6, 3) := by decide +kernel
theorem dX10_comes_52 : decode cX10_comes 52 = .ok (.bipush (-3), 2) := by decide +kernel
theorem dX10_comes_54 : decode cX10_comes 54 = .ok (.ireturn, 1) := by decide +kernel
theorem dX10_comes_55 : decode cX10_comes 55 = .ok (.aload_n 0, 1) := by decide +kernel
theorem dX10_comes_56 : decode cX10_comes 56 = .ok (.getfield 9, 3) := by decide +kernel
theorem dX10_comes_59 : decode cX10_comes 59 = .ok (.iconst 3, 1) := by decide +kernel
theorem dX10_comes_60 : decode cX10_comes 60 = .ok (.iaload, 1) := by decide +kernel
theorem dX10_comes_61 : decode cX10_comes 61 = .ok (.bipush 24, 2) := by decide +kernel
theorem dX10_comes_63 : decode cX10_comes 63 = .ok (.if_icmp .ne 8, 3) := by decide +kernel
theorem dX10_comes_66 : decode cX10_comes 66 = .ok (.bipush (-4), 2) := by decide +kernel
theorem dX10_comes_68 : decode cX10_comes 68 = .ok (.goto 17, 3) := by decide +kernel
theorem dX10_comes_71 : decode cX10_comes 71 = .ok (.aload_n 0, 1) := by decide +kernel
theorem dX10_comes_72 : decode cX10_comes 72 = .ok (.iload_n 1, 1) := by decide +kernel
theorem dX10_comes_73 : decode cX10_comes 73 = .ok (.iload_n 2, 1) := by decide +kernel
theorem dX10_comes_74 : decode cX10_comes 74 = .ok (.iload_n 3, 1) := by decide +kernel
theorem dX10_comes_75 : decode cX10_comes 75 = .ok (.iload 4, 2) := by decide +kernel
theorem dX10_comes_77 : decode cX10_comes 77 = .ok (.iload 5, 2) := by decide +kernel
theorem dX10_comes_79 : decode cX10_comes 79 = .ok (.iload 6, 2) := by decide +kernel
theorem dX10_comes_81 : decode cX10_comes 81 = .ok (.iconst 0, 1) := by decide +kernel
theorem dX10_comes_82 : decode cX10_comes 82 = .ok (.invokevirtual 139, 3) := by decide +kernel
theorem dX10_comes_85 : decode cX10_comes 85 = .ok (.ireturn, 1) := by decide +kernel
theorem dX10_isToldGood_0 : decode cX10_isToldGood 0 = .ok (.aload_n 0, 1) := by decide +kernel
theorem dX10_isToldGood_1 : decode cX10_isToldGood 1 = .ok (.iload_n 1, 1) := by decide +kernel
theorem dX10_isToldGood_2 : decode cX10_isToldGood 2 = .ok (.iconst 1, 1) := by decide +kernel
theorem dX10_isToldGood_3 : decode cX10_isToldGood 3 = .ok (.invokevirtual 91, 3) := by decide +kernel
theorem dX10_isToldGood_6 : decode cX10_isToldGood 6 = .ok (.istore 4, 2) := by decide +kernel
theorem dX10_isToldGood_8 : decode cX10_isToldGood 8 = .ok (.iload_n 2, 1) := by decide +kernel
theorem dX10_isToldGood_9 : decode cX10_isToldGood 9 = .ok (.tableswitch 69 4 6 #[27, 37, 52], 27) := by decide +kernel
theorem dX10_isToldGood_36 : decode cX10_isToldGood 36 = .ok (.iload_n 3, 1) := by decide +kernel
theorem dX10_isToldGood_37 : decode cX10_isToldGood 37 = .ok (.i2l, 1) := by decide +kernel
theorem dX10_isToldGood_38 : decode cX10_isToldGood 38 = .ok (.lconst 0, 1) := by decide +kernel
theorem dX10_isToldGood_39 : decode cX10_isToldGood 39 = .ok (.ldc2_w 130, 3) := by decide +kernel
theorem dX10_isToldGood_42 : decode cX10_isToldGood 42 = .ok (.invokestatic 87, 3) := by decide +kernel
theorem dX10_isToldGood_45 : decode cX10_isToldGood 45 = .ok (.ireturn, 1) := by decide +kernel
theorem dX10_isToldGood_46 : decode cX10_isToldGood 46 = .ok (.iload_n 3, 1) := by decide +kernel
theorem dX10_isToldGood_47 : decode cX10_isToldGood 47 = .ok (.i2l, 1) := by decide +kernel
theorem dX10_isToldGood_48 : decode cX10_isToldGood 48 = .ok (.lconst 0, 1) := by decide +kernel
theorem dX10_isToldGood_49 : decode cX10_isToldGood 49 = .ok (.aload_n 0, 1) := by decide +kernel
theorem dX10_isToldGood_50 : decode cX10_isToldGood 50 = .ok (.iload_n 1, 1) := by decide +kernel
theorem dX10_isToldGood_51 : decode cX10_isToldGood 51 = .ok (.bipush 8, 2) := by decide +kernel
theorem dX10_isToldGood_53 : decode cX10_isToldGood 53 = .ok (.invokevirtual 91, 3) := by decide +kernel
theorem dX10_isToldGood_56 : decode cX10_isToldGood 56 = .ok (.i2l, 1) := by decide +kernel
theorem dX10_isToldGood_57 : decode cX10_isToldGood 57 = .ok (.invokestatic 87, 3) := by decide +kernel
theorem dX10_isToldGood_60 : decode cX10_isToldGood 60 = .ok (.ireturn, 1) := by decide +kernel
theorem dX10_isToldGood_61 : decode cX10_isToldGood 61 = .ok (.iload_n 3, 1) := by decide +kernel
theorem dX10_isToldGood_62 : decode cX10_isToldGood 62 = .ok (.i2l, 1) := by decide +kernel
theorem dX10_isToldGood_63 : decode cX10_isToldGood 63 = .ok (.aload_n 0, 1) := by decide +kernel
theorem dX10_isToldGood_64 : decode cX10_isToldGood 64 = .ok (.iload_n 1, 1) := by decide +kernel
theorem dX10_isToldGood_65 : decode cX10_isToldGood 65 = .ok (.bipush 7, 2) := by decide +kernel
theorem dX10_isToldGood_67 : decode cX10_isToldGood 67 = .ok (.invokevirtual 91, 3) := by decide +kernel
theorem dX10_isToldGood_70 : decode cX10_isToldGood 70 = .ok (.i2l, 1) := by decide +kernel
theorem dX10_isToldGood_71 : decode cX10_isToldGood 71 = .ok (.ldc2_w 143, 3) := by decide +kernel
theorem dX10_isToldGood_74 : decode cX10_isToldGood 74 = .ok (.invokestatic 87, 3) := by decide +kernel
theorem dX10_isToldGood_77 : decode cX10_isToldGood 77 = .ok (.ireturn, 1) := by decide +kernel
theorem dX10_isToldGood_78 : decode cX10_isToldGood 78 = .ok (.iload 4, 2) := by decide +kernel
theorem dX10_isToldGood_80 : decode cX10_isToldGood 80 = .ok (.iload_n 2, 1) := by decide +kernel
theorem dX10_isToldGood_81 : decode cX10_isToldGood 81 = .ok (.iload_n 3, 1) := by decide +kernel
theorem dX10_isToldGood_82 : decode cX10_isToldGood 82 = .ok (.invokestatic 120, 3) := by decide +kernel
theorem dX10_isToldGood_85 : decode cX10_isToldGood 85 = .ok (.ifCond .ne 5, 3) := by decide +kernel
theorem dX10_isToldGood_88 : decode cX10_isToldGood 88 = .ok (.iconst 0, 1) := by decide +kernel
theorem dX10_isToldGood_89 : decode cX10_isToldGood 89 = .ok (.ireturn, 1) := by decide +kernel
theorem dX10_isToldGood_90 : decode cX10_isToldGood 90 = .ok (.iload 4, 2) := by decide +kernel
theorem dX10_isToldGood_92 : decode cX10_isToldGood 92 = .ok (.iconst 3, 1) := by decide +kernel
theorem dX10_isToldGood_93 : decode cX10_isToldGood 93 = .ok (.if_icmp .ne 40, 3) := by decide +kernel
theorem dX10_isToldGood_96 : decode cX10_isToldGood 96 = .ok (.iload_n 2, 1) := by decide +kernel
theorem dX10_isToldGood_97 : decode cX10_isToldGood 97 = .ok (.iconst 2, 1) := by decide +kernel
theorem dX10_isToldGood_98 : decode cX10_isToldGood 98 = .ok (.irem, 1) := by decide +kernel
theorem dX10_isToldGood_99 : decode cX10_isToldGood 99 = .ok (.ifCond .ne 20, 3) := by decide +kernel
theorem dX10_isToldGood_102 : decode cX10_isToldGood 102 = .ok (.iload_n 3, 1) := by decide +kernel
theorem dX10_isToldGood_103 : decode cX10_isToldGood 103 = .ok (.aload_n 0, 1) := by decide +kernel
theorem dX10_isToldGood_104 : decode cX10_isToldGood 104 = .ok (.iload_n 1, 1) := by decide +kernel
theorem dX10_isToldGood_105 : decode cX10_isToldGood 105 = .ok (.iconst 2, 1) := by decide +kernel
theorem dX10_isToldGood_106 : decode cX10_isToldGood 106 = .ok (.iload_n 2, 1) := by decide +kernel
theorem dX10_isToldGood_107 : decode cX10_isToldGood 107 = .ok (.iadd, 1) := by decide +kernel
theorem dX10_isToldGood_108 : decode cX10_isToldGood 108 = .ok (.iconst 1, 1) := by decide +kernel
theorem dX10_isToldGood_109 : decode cX10_isToldGood 109 = .ok (.iadd, 1) := by decide +kernel
theorem dX10_isToldGood_110 : decode cX10_isToldGood 110 = .ok (.invokevirtual 91, 3) := by decide +kernel
theorem dX10_isToldGood_113 : decode cX10_isToldGood 113 = .ok (.if_icmp .gt 24, 3) := by decide +kernel
theorem dX10_isToldGood_116 : decode cX10_isToldGood 116 = .ok (.goto 17, 3) := by decide +kernel
theorem dX10_isToldGood_119 : decode cX10_isToldGood 119 = .ok (.iload_n 3, 1) := by decide +kernel
theorem dX10_isToldGood_120 : decode cX10_isToldGood 120 = .ok (.aload_n 0, 1) := by decide +kernel
theorem dX10_isToldGood_121 : decode cX10_isToldGood 121 = .ok (.iload_n 1, 1) := by decide +kernel
theorem dX10_isToldGood_122 : decode cX10_isToldGood 122 = .ok (.iconst 2, 1) := by decide +kernel
theorem dX10_isToldGood_123 : decode cX10_isToldGood 123 = .ok (.iload_n 2, 1) := by decide +kernel
theorem dX10_isToldGood_124 : decode cX10_isToldGood 124 = .ok (.iadd, 1) := by decide +kernel
theorem dX10_isToldGood_125 : decode cX10_isToldGood 125 = .ok (.iconst 1, 1) := by decide +kernel
theorem dX10_isToldGood_126 : decode cX10_isToldGood 126 = .ok (.isub, 1) := by decide +kernel
theorem dX10_isToldGood_127 : decode cX10_isToldGood 127 = .ok (.invokevirtual 91, 3) := by decide +kernel
theorem dX10_isToldGood_130 : decode cX10_isToldGood 130 = .ok (.if_icmp .lt 7, 3) := by decide +kernel
theorem dX10_isToldGood_133 : decode cX10_isToldGood 133 = .ok (.iconst 1, 1) := by decide +kernel
theorem dX10_isToldGood_134 : decode cX10_isToldGood 134 = .ok (.goto 4, 3) := by decide +kernel
theorem dX10_isToldGood_137 : decode cX10_isToldGood 137 = .ok (.iconst 0, 1) := by decide +kernel
theorem dX10_isToldGood_138 : decode cX10_isToldGood 138 = .ok (.ireturn, 1) := by decide +kernel
theorem dX10_tellsIt_0 : decode cX10_tellsIt 0 = .ok (.aload_n 0, 1) := by decide +kernel
theorem dX10_tellsIt_1 : decode cX10_tellsIt 1 = .ok (.iload_n 1, 1) := by decide +kernel
theorem dX10_tellsIt_2 : decode cX10_tellsIt 2 = .ok (.iconst 2, 1) := by decide +kernel
theorem dX10_tellsIt_3 : decode cX10_tellsIt 3 = .ok (.iload_n 2, 1) := by decide +kernel
theorem dX10_tellsIt_4 : decode cX10_tellsIt 4 = .ok (.iadd, 1) := by decide +kernel
theorem dX10_tellsIt_5 : decode cX10_tellsIt 5 = .ok (.iload_n 3, 1) := by decide +kernel
theorem dX10_tellsIt_6 : decode cX10_tellsIt 6 = .ok (.invokevirtual 102, 3) := by decide +kernel
theorem dX10_tellsIt_9 : decode cX10_tellsIt 9 = .ok (.aload_n 0, 1) := by decide +kernel
theorem dX10_tellsIt_10 : decode cX10_tellsIt 10 = .ok (.iload_n 2, 1) := by decide +kernel
theorem dX10_tellsIt_11 : decode cX10_tellsIt 11 = .ok (.iconst 4, 1) := by decide +kernel
theorem dX10_tellsIt_12 : decode cX10_tellsIt 12 = .ok (.if_icmp .ge 7, 3) := by decide +kernel
theorem dX10_tellsIt_15 : decode cX10_tellsIt 15 = .ok (.iload_n 1, 1) := by decide +kernel
theorem dX10_tellsIt_16 : decode cX10_tellsIt 16 = .ok (.goto 10, 3) := by decide +kernel
theorem dX10_tellsIt_19 : decode cX10_tellsIt 19 = .ok (.aload_n 0, 1) := by decide +kernel
theorem dX10_tellsIt_20 : decode cX10_tellsIt 20 = .ok (.iload_n 1, 1) := by decide +kernel
theorem dX10_tellsIt_21 : decode cX10_tellsIt 21 = .ok (.bipush 9, 2) := by decide +kernel
theorem dX10_tellsIt_23 : decode cX10_tellsIt 23 = .ok (.invokevirtual 91, 3) := by decide +kernel
theorem dX10_tellsIt_26 : decode cX10_tellsIt 26 = .ok (.invokevirtual 113, 3) := by decide +kernel
theorem dX10_tellsIt_29 : decode cX10_tellsIt 29 = .ok (.return_, 1) := by decide +kernel
theorem dX10_tells_0 : decode cX10_tells 0 = .ok (.aload_n 0, 1) := by decide +kernel
theorem dX10_tells_1 : decode cX10_tells 1 = .ok (.iload_n 1, 1) := by decide +kernel
theorem dX10_tells_2 : decode cX10_tells 2 = .ok (.invokevirtual 127, 3) := by decide +kernel
theorem dX10_tells_5 : decode cX10_tells 5 = .ok (.ifCond .eq 33, 3) := by decide +kernel
theorem dX10_tells_8 : decode cX10_tells 8 = .ok (.iload_n 2, 1) := by decide +kernel
theorem dX10_tells_9 : decode cX10_tells 9 = .ok (.i2l, 1) := by decide +kernel
theorem dX10_tells_10 : decode cX10_tells 10 = .ok (.lconst 0, 1) := by decide +kernel
theorem dX10_tells_11 : decode cX10_tells 11 = .ok (.ldc2_w 145, 3) := by decide +kernel
theorem dX10_tells_14 : decode cX10_tells 14 = .ok (.invokestatic 87, 3) := by decide +kernel
theorem dX10_tells_17 : decode cX10_tells 17 = .ok (.ifCond .eq 21, 3) := by decide +kernel
theorem dX10_tells_20 : decode cX10_tells 20 = .ok (.iload_n 2, 1) := by decide +kernel
theorem dX10_tells_21 : decode cX10_tells 21 = .ok (.iconst 4, 1) := by decide +kernel
theorem dX10_tells_22 : decode cX10_tells 22 = .ok (.if_icmp .ge 18, 3) := by decide +kernel
theorem dX10_tells_25 : decode cX10_tells 25 = .ok (.iload_n 2, 1) := by decide +kernel
theorem dX10_tells_26 : decode cX10_tells 26 = .ok (.aload_n 0, 1) := by decide +kernel
theorem dX10_tells_27 : decode cX10_tells 27 = .ok (.iload_n 1, 1) := by decide +kernel
theorem dX10_tells_28 : decode cX10_tells 28 = .ok (.iconst 1, 1) := by decide +kernel
theorem dX10_tells_29 : decode cX10_tells 29 = .ok (.invokevirtual 91, 3) := by decide +kernel
theorem dX10_tells_32 : decode cX10_tells 32 = .ok (.invokestatic 110, 3) := by decide +kernel
theorem dX10_tells_35 : decode cX10_tells 35 = .ok (.if_icmp .lt 5, 3) := by decide +kernel
theorem dX10_tells_38 : decode cX10_tells 38 = .ok (.iconst (-1), 1) := by decide +kernel
theorem dX10_tells_39 : decode cX10_tells 39 = .ok (.ireturn, 1) := by decide +kernel
theorem dX10_tells_40 : decode cX10_tells 40 = .ok (.aload_n 0, 1) := by decide +kernel
theorem dX10_tells_41 : decode cX10_tells 41 = .ok (.iload_n 1, 1) := by decide +kernel
theorem dX10_tells_42 : decode cX10_tells 42 = .ok (.iload_n 2, 1) := by decide +kernel
theorem dX10_tells_43 : decode cX10_tells 43 = .ok (.iload_n 3, 1) := by decide +kernel
theorem dX10_tells_44 : decode cX10_tells 44 = .ok (.invokevirtual 147, 3) := by decide +kernel
theorem dX10_tells_47 : decode cX10_tells 47 = .ok (.ifCond .ne 6, 3) := by decide +kernel
theorem dX10_tells_50 : decode cX10_tells 50 = .ok (.bipush (-2), 2) := by decide +kernel
theorem dX10_tells_52 : decode cX10_tells 52 = .ok (.ireturn, 1) := by decide +kernel
theorem dX10_tells_53 : decode cX10_tells 53 = .ok (.aload_n 0, 1) := by decide +kernel
theorem dX10_tells_54 : decode cX10_tells 54 = .ok (.iload_n 1, 1) := by decide +kernel
theorem dX10_tells_55 : decode cX10_tells 55 = .ok (.iconst 2, 1) := by decide +kernel
theorem dX10_tells_56 : decode cX10_tells 56 = .ok (.iload_n 2, 1) := by decide +kernel
theorem dX10_tells_57 : decode cX10_tells 57 = .ok (.iadd, 1) := by decide +kernel
theorem dX10_tells_58 : decode cX10_tells 58 = .ok (.invokevirtual 91, 3) := by decide +kernel
theorem dX10_tells_61 : decode cX10_tells 61 = .ok (.istore 4, 2) := by decide +kernel
theorem dX10_tells_63 : decode cX10_tells 63 = .ok (.aload_n 0, 1) := by decide +kernel
theorem dX10_tells_64 : decode cX10_tells 64 = .ok (.iload_n 1, 1) := by decide +kernel
theorem dX10_tells_65 : decode cX10_tells 65 = .ok (.iload_n 2, 1) := by decide +kernel
theorem dX10_tells_66 : decode cX10_tells 66 = .ok (.iload_n 3, 1) := by decide +kernel
theorem dX10_tells_67 : decode cX10_tells 67 = .ok (.invokevirtual 150, 3) := by decide +kernel
theorem dX10_tells_70 : decode cX10_tells 70 = .ok (.iload 4, 2) := by decide +kernel
theorem dX10_tells_72 : decode cX10_tells 72 = .ok (.ireturn, 1) := by decide +kernel
theorem dX10_placeOf_0 : decode cX10_placeOf 0 = .ok (.aload_n 0, 1) := by decide +kernel
theorem dX10_placeOf_1 : decode cX10_placeOf 1 = .ok (.iload_n 1, 1) := by decide +kernel
theorem dX10_placeOf_2 : decode cX10_placeOf 2 = .ok (.bipush 9, 2) := by decide +kernel
theorem dX10_placeOf_4 : decode cX10_placeOf 4 = .ok (.invokevirtual 91, 3) := by decide +kernel
theorem dX10_placeOf_7 : decode cX10_placeOf 7 = .ok (.istore_n 2, 1) := by decide +kernel
theorem dX10_placeOf_8 : decode cX10_placeOf 8 = .ok (.iconst 0, 1) := by decide +kernel
theorem dX10_placeOf_9 : decode cX10_placeOf 9 = .ok (.istore_n 3, 1) := by decide +kernel
theorem dX10_placeOf_10 : decode cX10_placeOf 10 = .ok (.aload_n 0, 1) := by decide +kernel
theorem dX10_placeOf_11 : decode cX10_placeOf 11 = .ok (.iload_n 2, 1) := by decide +kernel
theorem dX10_placeOf_12 : decode cX10_placeOf 12 = .ok (.iload_n 3, 1) := by decide +kernel
theorem dX10_placeOf_13 : decode cX10_placeOf 13 = .ok (.invokevirtual 153, 3) := by decide +kernel
theorem dX10_placeOf_16 : decode cX10_placeOf 16 = .ok (.iload_n 1, 1) := by decide +kernel
theorem dX10_placeOf_17 : decode cX10_placeOf 17 = .ok (.if_icmp .eq 9, 3) := by decide +kernel
theorem dX10_placeOf_20 : decode cX10_placeOf 20 = .ok (.iinc 3 1, 3) := by decide +kernel
theorem dX10_placeOf_23 : decode cX10_placeOf 23 = .ok (.goto (-13), 3) := by decide +kernel
theorem dX10_placeOf_26 : decode cX10_placeOf 26 = .ok (.iload_n 3, 1) := by decide +kernel
theorem dX10_placeOf_27 : decode cX10_placeOf 27 = .ok (.ireturn, 1) := by decide +kernel
theorem dX10_isIn_0 : decode cX10_isIn 0 = .ok (.iload_n 1, 1) := by decide +kernel
theorem dX10_isIn_1 : decode cX10_isIn 1 = .ok (.istore_n 3, 1) := by decide +kernel
theorem dX10_isIn_2 : decode cX10_isIn 2 = .ok (.iload_n 3, 1) := by decide +kernel
theorem dX10_isIn_3 : decode cX10_isIn 3 = .ok (.ifCond .lt 19, 3) := by decide +kernel
theorem dX10_isIn_6 : decode cX10_isIn 6 = .ok (.iload_n 3, 1) := by decide +kernel
theorem dX10_isIn_7 : decode cX10_isIn 7 = .ok (.iload_n 2, 1) := by decide +kernel
theorem dX10_isIn_8 : decode cX10_isIn 8 = .ok (.if_icmp .eq 14, 3) := by decide +kernel
theorem dX10_isIn_11 : decode cX10_isIn 11 = .ok (.aload_n 0, 1) := by decide +kernel
theorem dX10_isIn_12 : decode cX10_isIn 12 = .ok (.iload_n 3, 1) := by decide +kernel
theorem dX10_isIn_13 : decode cX10_isIn 13 = .ok (.bipush 9, 2) := by decide +kernel
theorem dX10_isIn_15 : decode cX10_isIn 15 = .ok (.invokevirtual 91, 3) := by decide +kernel
theorem dX10_isIn_18 : decode cX10_isIn 18 = .ok (.istore_n 3, 1) := by decide +kernel
theorem dX10_isIn_19 : decode cX10_isIn 19 = .ok (.goto (-17), 3) := by decide +kernel
theorem dX10_isIn_22 : decode cX10_isIn 22 = .ok (.iload_n 3, 1) := by decide +kernel
theorem dX10_isIn_23 : decode cX10_isIn 23 = .ok (.iload_n 2, 1) := by decide +kernel
theorem dX10_isIn_24 : decode cX10_isIn 24 = .ok (.if_icmp .ne 7, 3) := by decide +kernel
theorem dX10_isIn_27 : decode cX10_isIn 27 = .ok (.iconst 1, 1) := by decide +kernel
theorem dX10_isIn_28 : decode cX10_isIn 28 = .ok (.goto 4, 3) := by decide +kernel
theorem dX10_isIn_31 : decode cX10_isIn 31 = .ok (.iconst 0, 1) := by decide +kernel
theorem dX10_isIn_32 : decode cX10_isIn 32 = .ok (.ireturn, 1) := by decide +kernel
theorem dX10_drops_0 : decode cX10_drops 0 = .ok (.aload_n 0, 1) := by decide +kernel
theorem dX10_drops_1 : decode cX10_drops 1 = .ok (.iload_n 1, 1) := by decide +kernel
theorem dX10_drops_2 : decode cX10_drops 2 = .ok (.invokevirtual 127, 3) := by decide +kernel
theorem dX10_drops_5 : decode cX10_drops 5 = .ok (.ifCond .ne 5, 3) := by decide +kernel
theorem dX10_drops_8 : decode cX10_drops 8 = .ok (.iconst (-1), 1) := by decide +kernel
theorem dX10_drops_9 : decode cX10_drops 9 = .ok (.ireturn, 1) := by decide +kernel
theorem dX10_drops_10 : decode cX10_drops 10 = .ok (.aload_n 0, 1) := by decide +kernel
theorem dX10_drops_11 : decode cX10_drops 11 = .ok (.iload_n 1, 1) := by decide +kernel
theorem dX10_drops_12 : decode cX10_drops 12 = .ok (.bipush 9, 2) := by decide +kernel
theorem dX10_drops_14 : decode cX10_drops 14 = .ok (.invokevirtual 91, 3) := by decide +kernel
theorem dX10_drops_17 : decode cX10_drops 17 = .ok (.istore_n 2, 1) := by decide +kernel
theorem dX10_drops_18 : decode cX10_drops 18 = .ok (.iconst 0, 1) := by decide +kernel
theorem dX10_drops_19 : decode cX10_drops 19 = .ok (.istore_n 3, 1) := by decide +kernel
theorem dX10_drops_20 : decode cX10_drops 20 = .ok (.iload_n 2, 1) := by decide +kernel
theorem dX10_drops_21 : decode cX10_drops 21 = .ok (.ifCond .lt 63, 3) := by decide +kernel
theorem dX10_drops_24 : decode cX10_drops 24 = .ok (.aload_n 0, 1) := by decide +kernel
theorem dX10_drops_25 : decode cX10_drops 25 = .ok (.iload_n 2, 1) := by decide +kernel
theorem dX10_drops_26 : decode cX10_drops 26 = .ok (.invokevirtual 117, 3) := by decide +kernel
theorem dX10_drops_29 : decode cX10_drops 29 = .ok (.iconst 1, 1) := by decide +kernel
theorem dX10_drops_30 : decode cX10_drops 30 = .ok (.isub, 1) := by decide +kernel
theorem dX10_drops_31 : decode cX10_drops 31 = .ok (.istore 4, 2) := by decide +kernel
theorem dX10_drops_33 : decode cX10_drops 33 = .ok (.aload_n 0, 1) := by decide +kernel
theorem dX10_drops_34 : decode cX10_drops 34 = .ok (.iload_n 1, 1) := by decide +kernel
theorem dX10_drops_35 : decode cX10_drops 35 = .ok (.invokevirtual 156, 3) := by decide +kernel
theorem dX10_drops_38 : decode cX10_drops 38 = .ok (.istore 5, 2) := by decide +kernel
theorem dX10_drops_40 : decode cX10_drops 40 = .ok (.iload 5, 2) := by decide +kernel
theorem dX10_drops_42 : decode cX10_drops 42 = .ok (.iload 4, 2) := by decide +kernel
theorem dX10_drops_44 : decode cX10_drops 44 = .ok (.if_icmp .ge 28, 3) := by decide +kernel
theorem dX10_drops_47 : decode cX10_drops 47 = .ok (.aload_n 0, 1) := by decide +kernel
theorem dX10_drops_48 : decode cX10_drops 48 = .ok (.iload_n 2, 1) := by decide +kernel
theorem dX10_drops_49 : decode cX10_drops 49 = .ok (.bipush 11, 2) := by decide +kernel
theorem dX10_drops_51 : decode cX10_drops 51 = .ok (.iload 5, 2) := by decide +kernel
theorem dX10_drops_53 : decode cX10_drops 53 = .ok (.iadd, 1) := by decide +kernel
theorem dX10_drops_54 : decode cX10_drops 54 = .ok (.aload_n 0, 1) := by decide +kernel
theorem dX10_drops_55 : decode cX10_drops 55 = .ok (.iload_n 2, 1) := by decide +kernel
theorem dX10_drops_56 : decode cX10_drops 56 = .ok (.iload 5, 2) := by decide +kernel
theorem dX10_drops_58 : decode cX10_drops 58 = .ok (.iconst 1, 1) := by decide +kernel
theorem dX10_drops_59 : decode cX10_drops 59 = .ok (.iadd, 1) := by decide +kernel
theorem dX10_drops_60 : decode cX10_drops 60 = .ok (.invokevirtual 153, 3) := by decide +kernel
theorem dX10_drops_63 : decode cX10_drops 63 = .ok (.invokevirtual 102, 3) := by decide +kernel
theorem dX10_drops_66 : decode cX10_drops 66 = .ok (.iinc 5 1, 3) := by decide +kernel
theorem dX10_drops_69 : decode cX10_drops 69 = .ok (.goto (-29), 3) := by decide +kernel
theorem dX10_drops_72 : decode cX10_drops 72 = .ok (.aload_n 0, 1) := by decide +kernel
theorem dX10_drops_73 : decode cX10_drops 73 = .ok (.iload_n 2, 1) := by decide +kernel
theorem dX10_drops_74 : decode cX10_drops 74 = .ok (.bipush 10, 2) := by decide +kernel
theorem dX10_drops_76 : decode cX10_drops 76 = .ok (.iload 4, 2) := by decide +kernel
theorem dX10_drops_78 : decode cX10_drops 78 = .ok (.invokevirtual 102, 3) := by decide +kernel
theorem dX10_drops_81 : decode cX10_drops 81 = .ok (.goto 10, 3) := by decide +kernel
theorem dX10_drops_84 : decode cX10_drops 84 = .ok (.aload_n 0, 1) := by decide +kernel
theorem dX10_drops_85 : decode cX10_drops 85 = .ok (.getfield 9, 3) := by decide +kernel
theorem dX10_drops_88 : decode cX10_drops 88 = .ok (.iconst 0, 1) := by decide +kernel
theorem dX10_drops_89 : decode cX10_drops 89 = .ok (.iconst (-1), 1) := by decide +kernel
theorem dX10_drops_90 : decode cX10_drops 90 = .ok (.iastore, 1) := by decide +kernel
theorem dX10_drops_91 : decode cX10_drops 91 = .ok (.iconst 0, 1) := by decide +kernel
theorem dX10_drops_92 : decode cX10_drops 92 = .ok (.istore 4, 2) := by decide +kernel
theorem dX10_drops_94 : decode cX10_drops 94 = .ok (.iconst 0, 1) := by decide +kernel
theorem dX10_drops_95 : decode cX10_drops 95 = .ok (.istore 5, 2) := by decide +kernel
theorem dX10_drops_97 : decode cX10_drops 97 = .ok (.iload 5, 2) := by decide +kernel
theorem dX10_drops_99 : decode cX10_drops 99 = .ok (.bipush 24, 2) := by decide +kernel
theorem dX10_drops_101 : decode cX10_drops 101 = .ok (.if_icmp .ge 41, 3) := by decide +kernel
theorem dX10_drops_104 : decode cX10_drops 104 = .ok (.iload 4, 2) := by decide +kernel
theorem dX10_drops_106 : decode cX10_drops 106 = .ok (.aload_n 0, 1) := by decide +kernel
theorem dX10_drops_107 : decode cX10_drops 107 = .ok (.iload 5, 2) := by decide +kernel
theorem dX10_drops_109 : decode cX10_drops 109 = .ok (.invokevirtual 127, 3) := by decide +kernel
theorem dX10_drops_112 : decode cX10_drops 112 = .ok (.ifCond .eq 20, 3) := by decide +kernel
theorem dX10_drops_115 : decode cX10_drops 115 = .ok (.aload_n 0, 1) := by decide +kernel
theorem dX10_drops_116 : decode cX10_drops 116 = .ok (.iload 5, 2) := by decide +kernel
theorem dX10_drops_118 : decode cX10_drops 118 = .ok (.iload_n 1, 1) := by decide +kernel
theorem dX10_drops_119 : decode cX10_drops 119 = .ok (.invokevirtual 159, 3) := by decide +kernel
theorem dX10_drops_122 : decode cX10_drops 122 = .ok (.ifCond .eq 10, 3) := by decide +kernel
theorem dX10_drops_125 : decode cX10_drops 125 = .ok (.iconst 1, 1) := by decide +kernel
theorem dX10_drops_126 : decode cX10_drops 126 = .ok (.iload 5, 2) := by decide +kernel
theorem dX10_drops_128 : decode cX10_drops 128 = .ok (.ishl, 1) := by decide +kernel
theorem dX10_drops_129 : decode cX10_drops 129 = .ok (.goto 4, 3) := by decide +kernel
theorem dX10_drops_132 : decode cX10_drops 132 = .ok (.iconst 0, 1) := by decide +kernel
theorem dX10_drops_133 : decode cX10_drops 133 = .ok (.ior, 1) := by decide +kernel
theorem dX10_drops_134 : decode cX10_drops 134 = .ok (.istore 4, 2) := by decide +kernel
theorem dX10_drops_136 : decode cX10_drops 136 = .ok (.iinc 5 1, 3) := by decide +kernel
theorem dX10_drops_139 : decode cX10_drops 139 = .ok (.goto (-42), 3) := by decide +kernel
theorem dX10_drops_142 : decode cX10_drops 142 = .ok (.iconst 0, 1) := by decide +kernel
theorem dX10_drops_143 : decode cX10_drops 143 = .ok (.istore 5, 2) := by decide +kernel
theorem dX10_drops_145 : decode cX10_drops 145 = .ok (.iload 5, 2) := by decide +kernel
theorem dX10_drops_147 : decode cX10_drops 147 = .ok (.bipush 24, 2) := by decide +kernel
theorem dX10_drops_149 : decode cX10_drops 149 = .ok (.if_icmp .ge 40, 3) := by decide +kernel
theorem dX10_drops_152 : decode cX10_drops 152 = .ok (.iload 4, 2) := by decide +kernel
theorem dX10_drops_154 : decode cX10_drops 154 = .ok (.iload 5, 2) := by decide +kernel
theorem dX10_drops_156 : decode cX10_drops 156 = .ok (.ishr, 1) := by decide +kernel
theorem dX10_drops_157 : decode cX10_drops 157 = .ok (.iconst 1, 1) := by decide +kernel
theorem dX10_drops_158 : decode cX10_drops 158 = .ok (.iand, 1) := by decide +kernel
theorem dX10_drops_159 : decode cX10_drops 159 = .ok (.iconst 1, 1) := by decide +kernel
theorem dX10_drops_160 : decode cX10_drops 160 = .ok (.if_icmp .ne 23, 3) := by decide +kernel
theorem dX10_drops_163 : decode cX10_drops 163 = .ok (.aload_n 0, 1) := by decide +kernel
theorem dX10_drops_164 : decode cX10_drops 164 = .ok (.iload 5, 2) := by decide +kernel
theorem dX10_drops_166 : decode cX10_drops 166 = .ok (.iconst 0, 1) := by decide +kernel
theorem dX10_drops_167 : decode cX10_drops 167 = .ok (.iconst 0, 1) := by decide +kernel
theorem dX10_drops_168 : decode cX10_drops 168 = .ok (.invokevirtual 102, 3) := by decide +kernel
theorem dX10_drops_171 : decode cX10_drops 171 = .ok (.aload_n 0, 1) := by decide +kernel
theorem dX10_drops_172 : decode cX10_drops 172 = .ok (.iload 5, 2) := by decide +kernel
theorem dX10_drops_174 : decode cX10_drops 174 = .ok (.bipush 20, 2) := by decide +kernel
theorem dX10_drops_176 : decode cX10_drops 176 = .ok (.iconst 0, 1) := by decide +kernel
theorem dX10_drops_177 : decode cX10_drops 177 = .ok (.invokevirtual 102, 3) := by decide +kernel
theorem dX10_drops_180 : decode cX10_drops 180 = .ok (.iinc 3 1, 3) := by decide +kernel
theorem dX10_drops_183 : decode cX10_drops 183 = .ok (.iinc 5 1, 3) := by decide +kernel
theorem dX10_drops_186 : decode cX10_drops 186 = .ok (.goto (-41), 3) := by decide +kernel
theorem dX10_drops_189 : decode cX10_drops 189 = .ok (.aload_n 0, 1) := by decide +kernel
theorem dX10_drops_190 : decode cX10_drops 190 = .ok (.iload_n 2, 1) := by decide +kernel
theorem dX10_drops_191 : decode cX10_drops 191 = .ok (.invokevirtual 113, 3) := by decide +kernel
theorem dX10_drops_194 : decode cX10_drops 194 = .ok (.iload_n 3, 1) := by decide +kernel
theorem dX10_drops_195 : decode cX10_drops 195 = .ok (.ireturn, 1) := by decide +kernel
theorem dX10_moves_0 : decode cX10_moves 0 = .ok (.aload_n 0, 1) := by decide +kernel
theorem dX10_moves_1 : decode cX10_moves 1 = .ok (.iload_n 1, 1) := by decide +kernel
theorem dX10_moves_2 : decode cX10_moves 2 = .ok (.invokevirtual 127, 3) := by decide +kernel
theorem dX10_moves_5 : decode cX10_moves 5 = .ok (.ifCond .eq 13, 3) := by decide +kernel
theorem dX10_moves_8 : decode cX10_moves 8 = .ok (.iload_n 1, 1) := by decide +kernel
theorem dX10_moves_9 : decode cX10_moves 9 = .ok (.aload_n 0, 1) := by decide +kernel
theorem dX10_moves_10 : decode cX10_moves 10 = .ok (.getfield 9, 3) := by decide +kernel
theorem dX10_moves_13 : decode cX10_moves 13 = .ok (.iconst 0, 1) := by decide +kernel
theorem dX10_moves_14 : decode cX10_moves 14 = .ok (.iaload, 1) := by decide +kernel
theorem dX10_moves_15 : decode cX10_moves 15 = .ok (.if_icmp .ne 5, 3) := by decide +kernel
theorem dX10_moves_18 : decode cX10_moves 18 = .ok (.iconst (-1), 1) := by decide +kernel
theorem dX10_moves_19 : decode cX10_moves 19 = .ok (.ireturn, 1) := by decide +kernel
theorem dX10_moves_20 : decode cX10_moves 20 = .ok (.aload_n 0, 1) := by decide +kernel
theorem dX10_moves_21 : decode cX10_moves 21 = .ok (.iload_n 1, 1) := by decide +kernel
theorem dX10_moves_22 : decode cX10_moves 22 = .ok (.bipush 9, 2) := by decide +kernel
theorem dX10_moves_24 : decode cX10_moves 24 = .ok (.invokevirtual 91, 3) := by decide +kernel
theorem dX10_moves_27 : decode cX10_moves 27 = .ok (.istore_n 3, 1) := by decide +kernel
theorem dX10_moves_28 : decode cX10_moves 28 = .ok (.iload_n 2, 1) := by decide +kernel
theorem dX10_moves_29 : decode cX10_moves 29 = .ok (.i2l, 1) := by decide +kernel
theorem dX10_moves_30 : decode cX10_moves 30 = .ok (.lconst 0, 1) := by decide +kernel
theorem dX10_moves_31 : decode cX10_moves 31 = .ok (.aload_n 0, 1) := by decide +kernel
theorem dX10_moves_32 : decode cX10_moves 32 = .ok (.iload_n 3, 1) := by decide +kernel
theorem dX10_moves_33 : decode cX10_moves 33 = .ok (.invokevirtual 117, 3) := by decide +kernel
theorem dX10_moves_36 : decode cX10_moves 36 = .ok (.iconst 1, 1) := by decide +kernel
theorem dX10_moves_37 : decode cX10_moves 37 = .ok (.isub, 1) := by decide +kernel
theorem dX10_moves_38 : decode cX10_moves 38 = .ok (.i2l, 1) := by decide +kernel
theorem dX10_moves_39 : decode cX10_moves 39 = .ok (.invokestatic 87, 3) := by decide +kernel
theorem dX10_moves_42 : decode cX10_moves 42 = .ok (.ifCond .ne 6, 3) := by decide +kernel
theorem dX10_moves_45 : decode cX10_moves 45 = .ok (.bipush (-2), 2) := by decide +kernel
theorem dX10_moves_47 : decode cX10_moves 47 = .ok (.ireturn, 1) := by decide +kernel
theorem dX10_moves_48 : decode cX10_moves 48 = .ok (.aload_n 0, 1) := by decide +kernel
theorem dX10_moves_49 : decode cX10_moves 49 = .ok (.iload_n 1, 1) := by decide +kernel
theorem dX10_moves_50 : decode cX10_moves 50 = .ok (.invokevirtual 156, 3) := by decide +kernel
theorem dX10_moves_53 : decode cX10_moves 53 = .ok (.istore 4, 2) := by decide +kernel
theorem dX10_moves_55 : decode cX10_moves 55 = .ok (.iload_n 2, 1) := by decide +kernel
theorem dX10_moves_56 : decode cX10_moves 56 = .ok (.iload 4, 2) := by decide +kernel
theorem dX10_moves_58 : decode cX10_moves 58 = .ok (.if_icmp .ge 7, 3) := by decide +kernel
theorem dX10_moves_61 : decode cX10_moves 61 = .ok (.iconst (-1), 1) := by decide +kernel
theorem dX10_moves_62 : decode cX10_moves 62 = .ok (.goto 4, 3) := by decide +kernel
theorem dX10_moves_65 : decode cX10_moves 65 = .ok (.iconst 1, 1) := by decide +kernel
theorem dX10_moves_66 : decode cX10_moves 66 = .ok (.istore 5, 2) := by decide +kernel
theorem dX10_moves_68 : decode cX10_moves 68 = .ok (.iload 4, 2) := by decide +kernel
theorem dX10_moves_70 : decode cX10_moves 70 = .ok (.istore 6, 2) := by decide +kernel
theorem dX10_moves_72 : decode cX10_moves 72 = .ok (.iload 6, 2) := by decide +kernel
theorem dX10_moves_74 : decode cX10_moves 74 = .ok (.iload_n 2, 1) := by decide +kernel
theorem dX10_moves_75 : decode cX10_moves 75 = .ok (.if_icmp .eq 33, 3) := by decide +kernel
theorem dX10_moves_78 : decode cX10_moves 78 = .ok (.aload_n 0, 1) := by decide +kernel
theorem dX10_moves_79 : decode cX10_moves 79 = .ok (.iload_n 3, 1) := by decide +kernel
theorem dX10_moves_80 : decode cX10_moves 80 = .ok (.bipush 11, 2) := by decide +kernel
theorem dX10_moves_82 : decode cX10_moves 82 = .ok (.iload 6, 2) := by decide +kernel
theorem dX10_moves_84 : decode cX10_moves 84 = .ok (.iadd, 1) := by decide +kernel
theorem dX10_moves_85 : decode cX10_moves 85 = .ok (.aload_n 0, 1) := by decide +kernel
theorem dX10_moves_86 : decode cX10_moves 86 = .ok (.iload_n 3, 1) := by decide +kernel
theorem dX10_moves_87 : decode cX10_moves 87 = .ok (.iload 6, 2) := by decide +kernel
theorem dX10_moves_89 : decode cX10_moves 89 = .ok (.iload 5, 2) := by decide +kernel
theorem dX10_moves_91 : decode cX10_moves 91 = .ok (.iadd, 1) := by decide +kernel
theorem dX10_moves_92 : decode cX10_moves 92 = .ok (.invokevirtual 153, 3) := by decide +kernel
theorem dX10_moves_95 : decode cX10_moves 95 = .ok (.invokevirtual 102, 3) := by decide +kernel
theorem dX10_moves_98 : decode cX10_moves 98 = .ok (.iload 6, 2) := by decide +kernel
theorem dX10_moves_100 : decode cX10_moves 100 = .ok (.iload 5, 2) := by decide +kernel
theorem dX10_moves_102 : decode cX10_moves 102 = .ok (.iadd, 1) := by decide +kernel
theorem dX10_moves_103 : decode cX10_moves 103 = .ok (.istore 6, 2) := by decide +kernel
theorem dX10_moves_105 : decode cX10_moves 105 = .ok (.goto (-33), 3) := by decide +kernel
theorem dX10_moves_108 : decode cX10_moves 108 = .ok (.aload_n 0, 1) := by decide +kernel
theorem dX10_moves_109 : decode cX10_moves 109 = .ok (.iload_n 3, 1) := by decide +kernel
theorem dX10_moves_110 : decode cX10_moves 110 = .ok (.bipush 11, 2) := by decide +kernel
theorem dX10_moves_112 : decode cX10_moves 112 = .ok (.iload_n 2, 1) := by decide +kernel
theorem dX10_moves_113 : decode cX10_moves 113 = .ok (.iadd, 1) := by decide +kernel
theorem dX10_moves_114 : decode cX10_moves 114 = .ok (.iload_n 1, 1) := by decide +kernel
theorem dX10_moves_115 : decode cX10_moves 115 = .ok (.invokevirtual 102, 3) := by decide +kernel
theorem dX10_moves_118 : decode cX10_moves 118 = .ok (.aload_n 0, 1) := by decide +kernel
theorem dX10_moves_119 : decode cX10_moves 119 = .ok (.iload_n 3, 1) := by decide +kernel
theorem dX10_moves_120 : decode cX10_moves 120 = .ok (.invokevirtual 113, 3) := by decide +kernel
theorem dX10_moves_123 : decode cX10_moves 123 = .ok (.iload 4, 2) := by decide +kernel
theorem dX10_moves_125 : decode cX10_moves 125 = .ok (.ireturn, 1) := by decide +kernel
theorem dX10_screens_0 : decode cX10_screens 0 = .ok (.aload_n 0, 1) := by decide +kernel
theorem dX10_screens_1 : decode cX10_screens 1 = .ok (.getfield 9, 3) := by decide +kernel
theorem dX10_screens_4 : decode cX10_screens 4 = .ok (.iconst 1, 1) := by decide +kernel
theorem dX10_screens_5 : decode cX10_screens 5 = .ok (.iload_n 1, 1) := by decide +kernel
theorem dX10_screens_6 : decode cX10_screens 6 = .ok (.iastore, 1) := by decide +kernel
theorem dX10_screens_7 : decode cX10_screens 7 = .ok (.aload_n 0, 1) := by decide +kernel
theorem dX10_screens_8 : decode cX10_screens 8 = .ok (.getfield 9, 3) := by decide +kernel
theorem dX10_screens_11 : decode cX10_screens 11 = .ok (.iconst 2, 1) := by decide +kernel
theorem dX10_screens_12 : decode cX10_screens 12 = .ok (.iload_n 2, 1) := by decide +kernel
theorem dX10_screens_13 : decode cX10_screens 13 = .ok (.iastore, 1) := by decide +kernel
theorem dX10_screens_14 : decode cX10_screens 14 = .ok (.aload_n 0, 1) := by decide +kernel
theorem dX10_screens_15 : decode cX10_screens 15 = .ok (.getfield 9, 3) := by decide +kernel
theorem dX10_screens_18 : decode cX10_screens 18 = .ok (.iconst 0, 1) := by decide +kernel
theorem dX10_screens_19 : decode cX10_screens 19 = .ok (.iaload, 1) := by decide +kernel
theorem dX10_screens_20 : decode cX10_screens 20 = .ok (.ifCond .lt 29, 3) := by decide +kernel
theorem dX10_screens_23 : decode cX10_screens 23 = .ok (.aload_n 0, 1) := by decide +kernel
theorem dX10_screens_24 : decode cX10_screens 24 = .ok (.aload_n 0, 1) := by decide +kernel
theorem dX10_screens_25 : decode cX10_screens 25 = .ok (.getfield 9, 3) := by decide +kernel
theorem dX10_screens_28 : decode cX10_screens 28 = .ok (.iconst 0, 1) := by decide +kernel
theorem dX10_screens_29 : decode cX10_screens 29 = .ok (.iaload, 1) := by decide +kernel
theorem dX10_screens_30 : decode cX10_screens 30 = .ok (.bipush 19, 2) := by decide +kernel
theorem dX10_screens_32 : decode cX10_screens 32 = .ok (.iconst 1, 1) := by decide +kernel
theorem dX10_screens_33 : decode cX10_screens 33 = .ok (.invokevirtual 102, 3) := by decide +kernel
theorem dX10_screens_36 : decode cX10_screens 36 = .ok (.aload_n 0, 1) := by decide +kernel
theorem dX10_screens_37 : decode cX10_screens 37 = .ok (.aload_n 0, 1) := by decide +kernel
theorem dX10_screens_38 : decode cX10_screens 38 = .ok (.getfield 9, 3) := by decide +kernel
theorem dX10_screens_41 : decode cX10_screens 41 = .ok (.iconst 0, 1) := by decide +kernel
theorem dX10_screens_42 : decode cX10_screens 42 = .ok (.iaload, 1) := by decide +kernel
theorem dX10_screens_43 : decode cX10_screens 43 = .ok (.bipush 20, 2) := by decide +kernel
theorem dX10_screens_45 : decode cX10_screens 45 = .ok (.iconst 1, 1) := by decide +kernel
theorem dX10_screens_46 : decode cX10_screens 46 = .ok (.invokevirtual 102, 3) := by decide +kernel
theorem dX10_screens_49 : decode cX10_screens 49 = .ok (.return_, 1) := by decide +kernel
theorem dX10_screen_0 : decode cX10_screen 0 = .ok (.iload_n 1, 1) := by decide +kernel
theorem dX10_screen_1 : decode cX10_screen 1 = .ok (.i2l, 1) := by decide +kernel
theorem dX10_screen_2 : decode cX10_screen 2 = .ok (.lconst 0, 1) := by decide +kernel
theorem dX10_screen_3 : decode cX10_screen 3 = .ok (.ldc2_w 163, 3) := by decide +kernel
theorem dX10_screen_6 : decode cX10_screen 6 = .ok (.invokestatic 87, 3) := by decide +kernel
theorem dX10_screen_9 : decode cX10_screen 9 = .ok (.ifCond .eq 22, 3) := by decide +kernel
theorem dX10_screen_12 : decode cX10_screen 12 = .ok (.iload_n 2, 1) := by decide +kernel
theorem dX10_screen_13 : decode cX10_screen 13 = .ok (.i2l, 1) := by decide +kernel
theorem dX10_screen_14 : decode cX10_screen 14 = .ok (.lconst 0, 1) := by decide +kernel
theorem dX10_screen_15 : decode cX10_screen 15 = .ok (.ldc2_w 163, 3) := by decide +kernel
theorem dX10_screen_18 : decode cX10_screen 18 = .ok (.invokestatic 87, 3) := by decide +kernel
theorem dX10_screen_21 : decode cX10_screen 21 = .ok (.ifCond .ne 13, 3) := by decide +kernel
theorem dX10_screen_24 : decode cX10_screen 24 = .ok (.iload_n 2, 1) := by decide +kernel
theorem dX10_screen_25 : decode cX10_screen 25 = .ok (.sipush 1000, 3) := by decide +kernel
theorem dX10_screen_28 : decode cX10_screen 28 = .ok (.if_icmp .eq 6, 3) := by decide +kernel
theorem dX10_screen_31 : decode cX10_screen 31 = .ok (.bipush (-2), 2) := by decide +kernel
theorem dX10_screen_33 : decode cX10_screen 33 = .ok (.ireturn, 1) := by decide +kernel
theorem dX10_screen_34 : decode cX10_screen 34 = .ok (.sipush 1000, 3) := by decide +kernel
theorem dX10_screen_37 : decode cX10_screen 37 = .ok (.aload_n 0, 1) := by decide +kernel
theorem dX10_screen_38 : decode cX10_screen 38 = .ok (.getfield 9, 3) := by decide +kernel
theorem dX10_screen_41 : decode cX10_screen 41 = .ok (.iconst 1, 1) := by decide +kernel
theorem dX10_screen_42 : decode cX10_screen 42 = .ok (.iaload, 1) := by decide +kernel
theorem dX10_screen_43 : decode cX10_screen 43 = .ok (.imul, 1) := by decide +kernel
theorem dX10_screen_44 : decode cX10_screen 44 = .ok (.aload_n 0, 1) := by decide +kernel
theorem dX10_screen_45 : decode cX10_screen 45 = .ok (.getfield 9, 3) := by decide +kernel
theorem dX10_screen_48 : decode cX10_screen 48 = .ok (.iconst 2, 1) := by decide +kernel
theorem dX10_screen_49 : decode cX10_screen 49 = .ok (.iaload, 1) := by decide +kernel
theorem dX10_screen_50 : decode cX10_screen 50 = .ok (.iadd, 1) := by decide +kernel
theorem dX10_screen_51 : decode cX10_screen 51 = .ok (.istore_n 3, 1) := by decide +kernel
theorem dX10_screen_52 : decode cX10_screen 52 = .ok (.aload_n 0, 1) := by decide +kernel
theorem dX10_screen_53 : decode cX10_screen 53 = .ok (.iload_n 1, 1) := by decide +kernel
theorem dX10_screen_54 : decode cX10_screen 54 = .ok (.iload_n 2, 1) := by decide +kernel
theorem dX10_screen_55 : decode cX10_screen 55 = .ok (.invokevirtual 165, 3) := by decide +kernel
theorem dX10_screen_58 : decode cX10_screen 58 = .ok (.iload_n 3, 1) := by decide +kernel
theorem dX10_screen_59 : decode cX10_screen 59 = .ok (.ireturn, 1) := by decide +kernel
theorem dX10_depthOf_0 : decode cX10_depthOf 0 = .ok (.iconst 0, 1) := by decide +kernel
theorem dX10_depthOf_1 : decode cX10_depthOf 1 = .ok (.istore_n 2, 1) := by decide +kernel
theorem dX10_depthOf_2 : decode cX10_depthOf 2 = .ok (.aload_n 0, 1) := by decide +kernel
theorem dX10_depthOf_3 : decode cX10_depthOf 3 = .ok (.iload_n 1, 1) := by decide +kernel
theorem dX10_depthOf_4 : decode cX10_depthOf 4 = .ok (.bipush 9, 2) := by decide +kernel
theorem dX10_depthOf_6 : decode cX10_depthOf 6 = .ok (.invokevirtual 91, 3) := by decide +kernel
theorem dX10_depthOf_9 : decode cX10_depthOf 9 = .ok (.istore_n 3, 1) := by decide +kernel
theorem dX10_depthOf_10 : decode cX10_depthOf 10 = .ok (.iload_n 3, 1) := by decide +kernel
theorem dX10_depthOf_11 : decode cX10_depthOf 11 = .ok (.ifCond .lt 17, 3) := by decide +kernel
theorem dX10_depthOf_14 : decode cX10_depthOf 14 = .ok (.iinc 2 1, 3) := by decide +kernel
theorem dX10_depthOf_17 : decode cX10_depthOf 17 = .ok (.aload_n 0, 1) := by decide +kernel
theorem dX10_depthOf_18 : decode cX10_depthOf 18 = .ok (.iload_n 3, 1) := by decide +kernel
theorem dX10_depthOf_19 : decode cX10_depthOf 19 = .ok (.bipush 9, 2) := by decide +kernel
theorem dX10_depthOf_21 : decode cX10_depthOf 21 = .ok (.invokevirtual 91, 3) := by decide +kernel
theorem dX10_depthOf_24 : decode cX10_depthOf 24 = .ok (.istore_n 3, 1) := by decide +kernel
theorem dX10_depthOf_25 : decode cX10_depthOf 25 = .ok (.goto (-15), 3) := by decide +kernel
theorem dX10_depthOf_28 : decode cX10_depthOf 28 = .ok (.iload_n 2, 1) := by decide +kernel
theorem dX10_depthOf_29 : decode cX10_depthOf 29 = .ok (.ireturn, 1) := by decide +kernel
theorem dX10_of_0 : decode cX10_of 0 = .ok (.aload_n 0, 1) := by decide +kernel
theorem dX10_of_1 : decode cX10_of 1 = .ok (.iload_n 1, 1) := by decide +kernel
theorem dX10_of_2 : decode cX10_of 2 = .ok (.invokevirtual 127, 3) := by decide +kernel
theorem dX10_of_5 : decode cX10_of 5 = .ok (.ifCond .eq 15, 3) := by decide +kernel
theorem dX10_of_8 : decode cX10_of 8 = .ok (.iload_n 2, 1) := by decide +kernel
theorem dX10_of_9 : decode cX10_of 9 = .ok (.i2l, 1) := by decide +kernel
theorem dX10_of_10 : decode cX10_of 10 = .ok (.lconst 0, 1) := by decide +kernel
theorem dX10_of_11 : decode cX10_of 11 = .ok (.ldc2_w 169, 3) := by decide +kernel
theorem dX10_of_14 : decode cX10_of 14 = .ok (.invokestatic 87, 3) := by decide +kernel
theorem dX10_of_17 : decode cX10_of 17 = .ok (.ifCond .ne 5, 3) := by decide +kernel
theorem dX10_of_20 : decode cX10_of 20 = .ok (.iconst (-1), 1) := by decide +kernel
theorem dX10_of_21 : decode cX10_of 21 = .ok (.ireturn, 1) := by decide +kernel
theorem dX10_of_22 : decode cX10_of 22 = .ok (.iload_n 2, 1) := by decide +kernel
theorem dX10_of_23 : decode cX10_of 23 = .ok (.tableswitch 132 0 14 #[73, 80, 88, 132, 132, 132, 132, 132, 132, 132, 94, 102, 110, 118, 126], 73) := by decide +kernel
theorem dX10_of_96 : decode cX10_of 96 = .ok (.aload_n 0, 1) := by decide +kernel
theorem dX10_of_97 : decode cX10_of 97 = .ok (.iload_n 1, 1) := by decide +kernel
theorem dX10_of_98 : decode cX10_of 98 = .ok (.iconst 1, 1) := by decide +kernel
theorem dX10_of_99 : decode cX10_of 99 = .ok (.invokevirtual 91, 3) := by decide +kernel
theorem dX10_of_102 : decode cX10_of 102 = .ok (.ireturn, 1) := by decide +kernel
theorem dX10_of_103 : decode cX10_of 103 = .ok (.aload_n 0, 1) := by decide +kernel
theorem dX10_of_104 : decode cX10_of 104 = .ok (.iload_n 1, 1) := by decide +kernel
theorem dX10_of_105 : decode cX10_of 105 = .ok (.bipush 9, 2) := by decide +kernel
theorem dX10_of_107 : decode cX10_of 107 = .ok (.invokevirtual 91, 3) := by decide +kernel
theorem dX10_of_110 : decode cX10_of 110 = .ok (.ireturn, 1) := by decide +kernel
theorem dX10_of_111 : decode cX10_of 111 = .ok (.aload_n 0, 1) := by decide +kernel
theorem dX10_of_112 : decode cX10_of 112 = .ok (.iload_n 1, 1) := by decide +kernel
theorem dX10_of_113 : decode cX10_of 113 = .ok (.invokevirtual 117, 3) := by decide +kernel
theorem dX10_of_116 : decode cX10_of 116 = .ok (.ireturn, 1) := by decide +kernel
theorem dX10_of_117 : decode cX10_of 117 = .ok (.aload_n 0, 1) := by decide +kernel
theorem dX10_of_118 : decode cX10_of 118 = .ok (.iload_n 1, 1) := by decide +kernel
theorem dX10_of_119 : decode cX10_of 119 = .ok (.bipush 19, 2) := by decide +kernel
theorem dX10_of_121 : decode cX10_of 121 = .ok (.invokevirtual 91, 3) := by decide +kernel
theorem dX10_of_124 : decode cX10_of 124 = .ok (.ireturn, 1) := by decide +kernel
theorem dX10_of_125 : decode cX10_of 125 = .ok (.aload_n 0, 1) := by decide +kernel
theorem dX10_of_126 : decode cX10_of 126 = .ok (.iload_n 1, 1) := by decide +kernel
theorem dX10_of_127 : decode cX10_of 127 = .ok (.bipush 20, 2) := by decide +kernel
theorem dX10_of_129 : decode cX10_of 129 = .ok (.invokevirtual 91, 3) := by decide +kernel
theorem dX10_of_132 : decode cX10_of 132 = .ok (.ireturn, 1) := by decide +kernel
theorem dX10_of_133 : decode cX10_of 133 = .ok (.aload_n 0, 1) := by decide +kernel
theorem dX10_of_134 : decode cX10_of 134 = .ok (.iload_n 1, 1) := by decide +kernel
theorem dX10_of_135 : decode cX10_of 135 = .ok (.bipush 21, 2) := by decide +kernel
theorem dX10_of_137 : decode cX10_of 137 = .ok (.invokevirtual 91, 3) := by decide +kernel
theorem dX10_of_140 : decode cX10_of 140 = .ok (.ireturn, 1) := by decide +kernel
theorem dX10_of_141 : decode cX10_of 141 = .ok (.aload_n 0, 1) := by decide +kernel
theorem dX10_of_142 : decode cX10_of 142 = .ok (.iload_n 1, 1) := by decide +kernel
theorem dX10_of_143 : decode cX10_of 143 = .ok (.bipush 24, 2) := by decide +kernel
theorem dX10_of_145 : decode cX10_of 145 = .ok (.invokevirtual 91, 3) := by decide +kernel
theorem dX10_of_148 : decode cX10_of 148 = .ok (.ireturn, 1) := by decide +kernel
theorem dX10_of_149 : decode cX10_of 149 = .ok (.aload_n 0, 1) := by decide +kernel
theorem dX10_of_150 : decode cX10_of 150 = .ok (.iload_n 1, 1) := by decide +kernel
theorem dX10_of_151 : decode cX10_of 151 = .ok (.invokevirtual 171, 3) := by decide +kernel
theorem dX10_of_154 : decode cX10_of 154 = .ok (.ireturn, 1) := by decide +kernel
theorem dX10_of_155 : decode cX10_of 155 = .ok (.aload_n 0, 1) := by decide +kernel
theorem dX10_of_156 : decode cX10_of 156 = .ok (.iload_n 1, 1) := by decide +kernel
theorem dX10_of_157 : decode cX10_of 157 = .ok (.iconst 2, 1) := by decide +kernel
theorem dX10_of_158 : decode cX10_of 158 = .ok (.iload_n 2, 1) := by decide +kernel
theorem dX10_of_159 : decode cX10_of 159 = .ok (.iadd, 1) := by decide +kernel
theorem dX10_of_160 : decode cX10_of 160 = .ok (.iconst 3, 1) := by decide +kernel
theorem dX10_of_161 : decode cX10_of 161 = .ok (.isub, 1) := by decide +kernel
theorem dX10_of_162 : decode cX10_of 162 = .ok (.invokevirtual 91, 3) := by decide +kernel
theorem dX10_of_165 : decode cX10_of 165 = .ok (.ireturn, 1) := by decide +kernel
theorem dX10_child_0 : decode cX10_child 0 = .ok (.aload_n 0, 1) := by decide +kernel
theorem dX10_child_1 : decode cX10_child 1 = .ok (.iload_n 1, 1) := by decide +kernel
theorem dX10_child_2 : decode cX10_child 2 = .ok (.invokevirtual 127, 3) := by decide +kernel
theorem dX10_child_5 : decode cX10_child 5 = .ok (.ifCond .eq 29, 3) := by decide +kernel
theorem dX10_child_8 : decode cX10_child 8 = .ok (.iload_n 2, 1) := by decide +kernel
theorem dX10_child_9 : decode cX10_child 9 = .ok (.i2l, 1) := by decide +kernel
theorem dX10_child_10 : decode cX10_child 10 = .ok (.lconst 0, 1) := by decide +kernel
theorem dX10_child_11 : decode cX10_child 11 = .ok (.aload_n 0, 1) := by decide +kernel
theorem dX10_child_12 : decode cX10_child 12 = .ok (.iload_n 1, 1) := by decide +kernel
theorem dX10_child_13 : decode cX10_child 13 = .ok (.invokevirtual 117, 3) := by decide +kernel
theorem dX10_child_16 : decode cX10_child 16 = .ok (.iconst 1, 1) := by decide +kernel
theorem dX10_child_17 : decode cX10_child 17 = .ok (.isub, 1) := by decide +kernel
theorem dX10_child_18 : decode cX10_child 18 = .ok (.i2l, 1) := by decide +kernel
theorem dX10_child_19 : decode cX10_child 19 = .ok (.invokestatic 87, 3) := by decide +kernel
theorem dX10_child_22 : decode cX10_child 22 = .ok (.ifCond .eq 12, 3) := by decide +kernel
theorem dX10_child_25 : decode cX10_child 25 = .ok (.aload_n 0, 1) := by decide +kernel
theorem dX10_child_26 : decode cX10_child 26 = .ok (.iload_n 1, 1) := by decide +kernel
theorem dX10_child_27 : decode cX10_child 27 = .ok (.iload_n 2, 1) := by decide +kernel
theorem dX10_child_28 : decode cX10_child 28 = .ok (.invokevirtual 153, 3) := by decide +kernel
theorem dX10_child_31 : decode cX10_child 31 = .ok (.goto 4, 3) := by decide +kernel
theorem dX10_child_34 : decode cX10_child 34 = .ok (.iconst (-1), 1) := by decide +kernel
theorem dX10_child_35 : decode cX10_child 35 = .ok (.ireturn, 1) := by decide +kernel
theorem dX10_wordOf_0 : decode cX10_wordOf 0 = .ok (.iload_n 0, 1) := by decide +kernel
theorem dX10_wordOf_1 : decode cX10_wordOf 1 = .ok (.iload_n 1, 1) := by decide +kernel
theorem dX10_wordOf_2 : decode cX10_wordOf 2 = .ok (.iadd, 1) := by decide +kernel
theorem dX10_wordOf_3 : decode cX10_wordOf 3 = .ok (.bipush 32, 2) := by decide +kernel
theorem dX10_wordOf_5 : decode cX10_wordOf 5 = .ok (.irem, 1) := by decide +kernel
theorem dX10_wordOf_6 : decode cX10_wordOf 6 = .ok (.istore_n 2, 1) := by decide +kernel
theorem dX10_wordOf_7 : decode cX10_wordOf 7 = .ok (.iconst 1, 1) := by decide +kernel
theorem dX10_wordOf_8 : decode cX10_wordOf 8 = .ok (.bipush 7, 2) := by decide +kernel
theorem dX10_wordOf_10 : decode cX10_wordOf 10 = .ok (.iload_n 2, 1) := by decide +kernel
theorem dX10_wordOf_11 : decode cX10_wordOf 11 = .ok (.imul, 1) := by decide +kernel
theorem dX10_wordOf_12 : decode cX10_wordOf 12 = .ok (.iload_n 2, 1) := by decide +kernel
theorem dX10_wordOf_13 : decode cX10_wordOf 13 = .ok (.imul, 1) := by decide +kernel
theorem dX10_wordOf_14 : decode cX10_wordOf 14 = .ok (.iconst 3, 1) := by decide +kernel
theorem dX10_wordOf_15 : decode cX10_wordOf 15 = .ok (.iload_n 2, 1) := by decide +kernel
theorem dX10_wordOf_16 : decode cX10_wordOf 16 = .ok (.imul, 1) := by decide +kernel
theorem dX10_wordOf_17 : decode cX10_wordOf 17 = .ok (.iadd, 1) := by decide +kernel
theorem dX10_wordOf_18 : decode cX10_wordOf 18 = .ok (.bipush 9, 2) := by decide +kernel
theorem dX10_wordOf_20 : decode cX10_wordOf 20 = .ok (.irem, 1) := by decide +kernel
theorem dX10_wordOf_21 : decode cX10_wordOf 21 = .ok (.iadd, 1) := by decide +kernel
theorem dX10_wordOf_22 : decode cX10_wordOf 22 = .ok (.ireturn, 1) := by decide +kernel
theorem dX10_textOf_0 : decode cX10_textOf 0 = .ok (.iconst 0, 1) := by decide +kernel
theorem dX10_textOf_1 : decode cX10_textOf 1 = .ok (.istore_n 3, 1) := by decide +kernel
theorem dX10_textOf_2 : decode cX10_textOf 2 = .ok (.iconst 0, 1) := by decide +kernel
theorem dX10_textOf_3 : decode cX10_textOf 3 = .ok (.istore 4, 2) := by decide +kernel
theorem dX10_textOf_5 : decode cX10_textOf 5 = .ok (.iconst 0, 1) := by decide +kernel
theorem dX10_textOf_6 : decode cX10_textOf 6 = .ok (.istore 5, 2) := by decide +kernel
theorem dX10_textOf_8 : decode cX10_textOf 8 = .ok (.iload 5, 2) := by decide +kernel
theorem dX10_textOf_10 : decode cX10_textOf 10 = .ok (.aload_n 0, 1) := by decide +kernel
theorem dX10_textOf_11 : decode cX10_textOf 11 = .ok (.iload_n 1, 1) := by decide +kernel
theorem dX10_textOf_12 : decode cX10_textOf 12 = .ok (.iconst 2, 1) := by decide +kernel
theorem dX10_textOf_13 : decode cX10_textOf 13 = .ok (.invokevirtual 91, 3) := by decide +kernel
theorem dX10_textOf_16 : decode cX10_textOf 16 = .ok (.if_icmp .ge 54, 3) := by decide +kernel
theorem dX10_textOf_19 : decode cX10_textOf 19 = .ok (.aload_n 0, 1) := by decide +kernel
theorem dX10_textOf_20 : decode cX10_textOf 20 = .ok (.iload_n 1, 1) := by decide +kernel
theorem dX10_textOf_21 : decode cX10_textOf 21 = .ok (.iconst 3, 1) := by decide +kernel
theorem dX10_textOf_22 : decode cX10_textOf 22 = .ok (.invokevirtual 91, 3) := by decide +kernel
theorem dX10_textOf_25 : decode cX10_textOf 25 = .ok (.iload 5, 2) := by decide +kernel
theorem dX10_textOf_27 : decode cX10_textOf 27 = .ok (.invokestatic 174, 3) := by decide +kernel
theorem dX10_textOf_30 : decode cX10_textOf 30 = .ok (.istore 6, 2) := by decide +kernel
theorem dX10_textOf_32 : decode cX10_textOf 32 = .ok (.iload_n 3, 1) := by decide +kernel
theorem dX10_textOf_33 : decode cX10_textOf 33 = .ok (.iload 6, 2) := by decide +kernel
theorem dX10_textOf_35 : decode cX10_textOf 35 = .ok (.iload 5, 2) := by decide +kernel
theorem dX10_textOf_37 : decode cX10_textOf 37 = .ok (.ifCond .le 7, 3) := by decide +kernel
theorem dX10_textOf_40 : decode cX10_textOf 40 = .ok (.iconst 1, 1) := by decide +kernel
theorem dX10_textOf_41 : decode cX10_textOf 41 = .ok (.goto 4, 3) := by decide +kernel
theorem dX10_textOf_44 : decode cX10_textOf 44 = .ok (.iconst 0, 1) := by decide +kernel
theorem dX10_textOf_45 : decode cX10_textOf 45 = .ok (.iadd, 1) := by decide +kernel
theorem dX10_textOf_46 : decode cX10_textOf 46 = .ok (.iadd, 1) := by decide +kernel
theorem dX10_textOf_47 : decode cX10_textOf 47 = .ok (.istore_n 3, 1) := by decide +kernel
theorem dX10_textOf_48 : decode cX10_textOf 48 = .ok (.iload 6, 2) := by decide +kernel
theorem dX10_textOf_50 : decode cX10_textOf 50 = .ok (.iload 4, 2) := by decide +kernel
theorem dX10_textOf_52 : decode cX10_textOf 52 = .ok (.if_icmp .le 8, 3) := by decide +kernel
theorem dX10_textOf_55 : decode cX10_textOf 55 = .ok (.iload 6, 2) := by decide +kernel
theorem dX10_textOf_57 : decode cX10_textOf 57 = .ok (.goto 5, 3) := by decide +kernel
theorem dX10_textOf_60 : decode cX10_textOf 60 = .ok (.iload 4, 2) := by decide +kernel
theorem dX10_textOf_62 : decode cX10_textOf 62 = .ok (.istore 4, 2) := by decide +kernel
theorem dX10_textOf_64 : decode cX10_textOf 64 = .ok (.iinc 5 1, 3) := by decide +kernel
theorem dX10_textOf_67 : decode cX10_textOf 67 = .ok (.goto (-59), 3) := by decide +kernel
theorem dX10_textOf_70 : decode cX10_textOf 70 = .ok (.iload_n 2, 1) := by decide +kernel
theorem dX10_textOf_71 : decode cX10_textOf 71 = .ok (.ifCond .ne 7, 3) := by decide +kernel
theorem dX10_textOf_74 : decode cX10_textOf 74 = .ok (.iload_n 3, 1) := by decide +kernel
theorem dX10_textOf_75 : decode cX10_textOf 75 = .ok (.goto 5, 3) := by decide +kernel
theorem dX10_textOf_78 : decode cX10_textOf 78 = .ok (.iload 4, 2) := by decide +kernel
theorem dX10_textOf_80 : decode cX10_textOf 80 = .ok (.ireturn, 1) := by decide +kernel
theorem dX10_toldBy_0 : decode cX10_toldBy 0 = .ok (.aload_n 0, 1) := by decide +kernel
theorem dX10_toldBy_1 : decode cX10_toldBy 1 = .ok (.iload_n 1, 1) := by decide +kernel
theorem dX10_toldBy_2 : decode cX10_toldBy 2 = .ok (.iconst 1, 1) := by decide +kernel
theorem dX10_toldBy_3 : decode cX10_toldBy 3 = .ok (.invokevirtual 91, 3) := by decide +kernel
theorem dX10_toldBy_6 : decode cX10_toldBy 6 = .ok (.iconst 5, 1) := by decide +kernel
theorem dX10_toldBy_7 : decode cX10_toldBy 7 = .ok (.if_icmp .ne 7, 3) := by decide +kernel
theorem dX10_toldBy_10 : decode cX10_toldBy 10 = .ok (.iconst 0, 1) := by decide +kernel
theorem dX10_toldBy_11 : decode cX10_toldBy 11 = .ok (.goto 4, 3) := by decide +kernel
theorem dX10_toldBy_14 : decode cX10_toldBy 14 = .ok (.iload_n 3, 1) := by decide +kernel
theorem dX10_toldBy_15 : decode cX10_toldBy 15 = .ok (.istore 4, 2) := by decide +kernel
theorem dX10_toldBy_17 : decode cX10_toldBy 17 = .ok (.aload_n 0, 1) := by decide +kernel
theorem dX10_toldBy_18 : decode cX10_toldBy 18 = .ok (.aload_n 0, 1) := by decide +kernel
theorem dX10_toldBy_19 : decode cX10_toldBy 19 = .ok (.iload_n 1, 1) := by decide +kernel
theorem dX10_toldBy_20 : decode cX10_toldBy 20 = .ok (.iload_n 2, 1) := by decide +kernel
theorem dX10_toldBy_21 : decode cX10_toldBy 21 = .ok (.invokevirtual 153, 3) := by decide +kernel
theorem dX10_toldBy_24 : decode cX10_toldBy 24 = .ok (.bipush 22, 2) := by decide +kernel
theorem dX10_toldBy_26 : decode cX10_toldBy 26 = .ok (.iload 4, 2) := by decide +kernel
theorem dX10_toldBy_28 : decode cX10_toldBy 28 = .ok (.iadd, 1) := by decide +kernel
theorem dX10_toldBy_29 : decode cX10_toldBy 29 = .ok (.invokevirtual 91, 3) := by decide +kernel
theorem dX10_toldBy_32 : decode cX10_toldBy 32 = .ok (.ireturn, 1) := by decide +kernel
theorem dX10_mostTold_0 : decode cX10_mostTold 0 = .ok (.iconst 0, 1) := by decide +kernel
theorem dX10_mostTold_1 : decode cX10_mostTold 1 = .ok (.istore_n 3, 1) := by decide +kernel
theorem dX10_mostTold_2 : decode cX10_mostTold 2 = .ok (.iconst 0, 1) := by decide +kernel
theorem dX10_mostTold_3 : decode cX10_mostTold 3 = .ok (.istore 4, 2) := by decide +kernel
theorem dX10_mostTold_5 : decode cX10_mostTold 5 = .ok (.iload 4, 2) := by decide +kernel
theorem dX10_mostTold_7 : decode cX10_mostTold 7 = .ok (.aload_n 0, 1) := by decide +kernel
theorem dX10_mostTold_8 : decode cX10_mostTold 8 = .ok (.iload_n 1, 1) := by decide +kernel
theorem dX10_mostTold_9 : decode cX10_mostTold 9 = .ok (.invokevirtual 117, 3) := by decide +kernel
theorem dX10_mostTold_12 : decode cX10_mostTold 12 = .ok (.if_icmp .ge 32, 3) := by decide +kernel
theorem dX10_mostTold_15 : decode cX10_mostTold 15 = .ok (.aload_n 0, 1) := by decide +kernel
theorem dX10_mostTold_16 : decode cX10_mostTold 16 = .ok (.iload_n 1, 1) := by decide +kernel
theorem dX10_mostTold_17 : decode cX10_mostTold 17 = .ok (.iload 4, 2) := by decide +kernel
theorem dX10_mostTold_19 : decode cX10_mostTold 19 = .ok (.iload_n 2, 1) := by decide +kernel
theorem dX10_mostTold_20 : decode cX10_mostTold 20 = .ok (.invokevirtual 177, 3) := by decide +kernel
theorem dX10_mostTold_23 : decode cX10_mostTold 23 = .ok (.istore 5, 2) := by decide +kernel
theorem dX10_mostTold_25 : decode cX10_mostTold 25 = .ok (.iload 5, 2) := by decide +kernel
theorem dX10_mostTold_27 : decode cX10_mostTold 27 = .ok (.iload_n 3, 1) := by decide +kernel
theorem dX10_mostTold_28 : decode cX10_mostTold 28 = .ok (.if_icmp .le 8, 3) := by decide +kernel
theorem dX10_mostTold_31 : decode cX10_mostTold 31 = .ok (.iload 5, 2) := by decide +kernel
theorem dX10_mostTold_33 : decode cX10_mostTold 33 = .ok (.goto 4, 3) := by decide +kernel
theorem dX10_mostTold_36 : decode cX10_mostTold 36 = .ok (.iload_n 3, 1) := by decide +kernel
theorem dX10_mostTold_37 : decode cX10_mostTold 37 = .ok (.istore_n 3, 1) := by decide +kernel
theorem dX10_mostTold_38 : decode cX10_mostTold 38 = .ok (.iinc 4 1, 3) := by decide +kernel
theorem dX10_mostTold_41 : decode cX10_mostTold 41 = .ok (.goto (-36), 3) := by decide +kernel
theorem dX10_mostTold_44 : decode cX10_mostTold 44 = .ok (.iload_n 3, 1) := by decide +kernel
theorem dX10_mostTold_45 : decode cX10_mostTold 45 = .ok (.ireturn, 1) := by decide +kernel
theorem dX10_allTold_0 : decode cX10_allTold 0 = .ok (.aload_n 0, 1) := by decide +kernel
theorem dX10_allTold_1 : decode cX10_allTold 1 = .ok (.iload_n 1, 1) := by decide +kernel
theorem dX10_allTold_2 : decode cX10_allTold 2 = .ok (.invokevirtual 117, 3) := by decide +kernel
theorem dX10_allTold_5 : decode cX10_allTold 5 = .ok (.istore_n 3, 1) := by decide +kernel
theorem dX10_allTold_6 : decode cX10_allTold 6 = .ok (.iload_n 3, 1) := by decide +kernel
theorem dX10_allTold_7 : decode cX10_allTold 7 = .ok (.iconst 1, 1) := by decide +kernel
theorem dX10_allTold_8 : decode cX10_allTold 8 = .ok (.if_icmp .le 16, 3) := by decide +kernel
theorem dX10_allTold_11 : decode cX10_allTold 11 = .ok (.iload_n 3, 1) := by decide +kernel
theorem dX10_allTold_12 : decode cX10_allTold 12 = .ok (.iconst 1, 1) := by decide +kernel
theorem dX10_allTold_13 : decode cX10_allTold 13 = .ok (.isub, 1) := by decide +kernel
theorem dX10_allTold_14 : decode cX10_allTold 14 = .ok (.aload_n 0, 1) := by decide +kernel
theorem dX10_allTold_15 : decode cX10_allTold 15 = .ok (.iload_n 1, 1) := by decide +kernel
theorem dX10_allTold_16 : decode cX10_allTold 16 = .ok (.iconst 3, 1) := by decide +kernel
theorem dX10_allTold_17 : decode cX10_allTold 17 = .ok (.invokevirtual 91, 3) := by decide +kernel
theorem dX10_allTold_20 : decode cX10_allTold 20 = .ok (.imul, 1) := by decide +kernel
theorem dX10_allTold_21 : decode cX10_allTold 21 = .ok (.goto 4, 3) := by decide +kernel
theorem dX10_allTold_24 : decode cX10_allTold 24 = .ok (.iconst 0, 1) := by decide +kernel
theorem dX10_allTold_25 : decode cX10_allTold 25 = .ok (.istore 4, 2) := by decide +kernel
theorem dX10_allTold_27 : decode cX10_allTold 27 = .ok (.iconst 0, 1) := by decide +kernel
theorem dX10_allTold_28 : decode cX10_allTold 28 = .ok (.istore 5, 2) := by decide +kernel
theorem dX10_allTold_30 : decode cX10_allTold 30 = .ok (.iload 5, 2) := by decide +kernel
theorem dX10_allTold_32 : decode cX10_allTold 32 = .ok (.iload_n 3, 1) := by decide +kernel
theorem dX10_allTold_33 : decode cX10_allTold 33 = .ok (.if_icmp .ge 53, 3) := by decide +kernel
theorem dX10_allTold_36 : decode cX10_allTold 36 = .ok (.aload_n 0, 1) := by decide +kernel
theorem dX10_allTold_37 : decode cX10_allTold 37 = .ok (.iload_n 1, 1) := by decide +kernel
theorem dX10_allTold_38 : decode cX10_allTold 38 = .ok (.iload 5, 2) := by decide +kernel
theorem dX10_allTold_40 : decode cX10_allTold 40 = .ok (.invokevirtual 153, 3) := by decide +kernel
theorem dX10_allTold_43 : decode cX10_allTold 43 = .ok (.istore 6, 2) := by decide +kernel
theorem dX10_allTold_45 : decode cX10_allTold 45 = .ok (.iload 4, 2) := by decide +kernel
theorem dX10_allTold_47 : decode cX10_allTold 47 = .ok (.aload_n 0, 1) := by decide +kernel
theorem dX10_allTold_48 : decode cX10_allTold 48 = .ok (.iload_n 1, 1) := by decide +kernel
theorem dX10_allTold_49 : decode cX10_allTold 49 = .ok (.iload 5, 2) := by decide +kernel
theorem dX10_allTold_51 : decode cX10_allTold 51 = .ok (.iload_n 2, 1) := by decide +kernel
theorem dX10_allTold_52 : decode cX10_allTold 52 = .ok (.invokevirtual 177, 3) := by decide +kernel
theorem dX10_allTold_55 : decode cX10_allTold 55 = .ok (.aload_n 0, 1) := by decide +kernel
theorem dX10_allTold_56 : decode cX10_allTold 56 = .ok (.iload 6, 2) := by decide +kernel
theorem dX10_allTold_58 : decode cX10_allTold 58 = .ok (.bipush 7, 2) := by decide +kernel
theorem dX10_allTold_60 : decode cX10_allTold 60 = .ok (.invokevirtual 91, 3) := by decide +kernel
theorem dX10_allTold_63 : decode cX10_allTold 63 = .ok (.aload_n 0, 1) := by decide +kernel
theorem dX10_allTold_64 : decode cX10_allTold 64 = .ok (.iload 6, 2) := by decide +kernel
theorem dX10_allTold_66 : decode cX10_allTold 66 = .ok (.bipush 8, 2) := by decide +kernel
theorem dX10_allTold_68 : decode cX10_allTold 68 = .ok (.invokevirtual 91, 3) := by decide +kernel
theorem dX10_allTold_71 : decode cX10_allTold 71 = .ok (.invokestatic 181, 3) := by decide +kernel
theorem dX10_allTold_74 : decode cX10_allTold 74 = .ok (.invokestatic 184, 3) := by decide +kernel
theorem dX10_allTold_77 : decode cX10_allTold 77 = .ok (.iadd, 1) := by decide +kernel
theorem dX10_allTold_78 : decode cX10_allTold 78 = .ok (.istore 4, 2) := by decide +kernel
theorem dX10_allTold_80 : decode cX10_allTold 80 = .ok (.iinc 5 1, 3) := by decide +kernel
theorem dX10_allTold_83 : decode cX10_allTold 83 = .ok (.goto (-53), 3) := by decide +kernel
theorem dX10_allTold_86 : decode cX10_allTold 86 = .ok (.iload 4, 2) := by decide +kernel
theorem dX10_allTold_88 : decode cX10_allTold 88 = .ok (.ireturn, 1) := by decide +kernel
theorem dX10_answerOf_0 : decode cX10_answerOf 0 = .ok (.aload_n 0, 1) := by decide +kernel
theorem dX10_answerOf_1 : decode cX10_answerOf 1 = .ok (.iload_n 1, 1) := by decide +kernel
theorem dX10_answerOf_2 : decode cX10_answerOf 2 = .ok (.iconst 1, 1) := by decide +kernel
theorem dX10_answerOf_3 : decode cX10_answerOf 3 = .ok (.invokevirtual 91, 3) := by decide +kernel
theorem dX10_answerOf_6 : decode cX10_answerOf 6 = .ok (.tableswitch 135 0 8 #[50, 57, 64, 80, 135, 135, 105, 135, 128], 50) := by decide +kernel
theorem dX10_answerOf_56 : decode cX10_answerOf 56 = .ok (.aload_n 0, 1) := by decide +kernel
theorem dX10_answerOf_57 : decode cX10_answerOf 57 = .ok (.iload_n 1, 1) := by decide +kernel
theorem dX10_answerOf_58 : decode cX10_answerOf 58 = .ok (.iconst 2, 1) := by decide +kernel
theorem dX10_answerOf_59 : decode cX10_answerOf 59 = .ok (.invokevirtual 91, 3) := by decide +kernel
theorem dX10_answerOf_62 : decode cX10_answerOf 62 = .ok (.ireturn, 1) := by decide +kernel
theorem dX10_answerOf_63 : decode cX10_answerOf 63 = .ok (.aload_n 0, 1) := by decide +kernel
theorem dX10_answerOf_64 : decode cX10_answerOf 64 = .ok (.iload_n 1, 1) := by decide +kernel
theorem dX10_answerOf_65 : decode cX10_answerOf 65 = .ok (.iload_n 2, 1) := by decide +kernel
theorem dX10_answerOf_66 : decode cX10_answerOf 66 = .ok (.invokevirtual 187, 3) := by decide +kernel
theorem dX10_answerOf_69 : decode cX10_answerOf 69 = .ok (.ireturn, 1) := by decide +kernel
theorem dX10_answerOf_70 : decode cX10_answerOf 70 = .ok (.aload_n 0, 1) := by decide +kernel
theorem dX10_answerOf_71 : decode cX10_answerOf 71 = .ok (.iload_n 1, 1) := by decide +kernel
theorem dX10_answerOf_72 : decode cX10_answerOf 72 = .ok (.iload_n 2, 1) := by decide +kernel
theorem dX10_answerOf_73 : decode cX10_answerOf 73 = .ok (.invokevirtual 190, 3) := by decide +kernel
theorem dX10_answerOf_76 : decode cX10_answerOf 76 = .ok (.iconst 2, 1) := by decide +kernel
theorem dX10_answerOf_77 : decode cX10_answerOf 77 = .ok (.aload_n 0, 1) := by decide +kernel
theorem dX10_answerOf_78 : decode cX10_answerOf 78 = .ok (.iload_n 1, 1) := by decide +kernel
theorem dX10_answerOf_79 : decode cX10_answerOf 79 = .ok (.iconst 2, 1) := by decide +kernel
theorem dX10_answerOf_80 : decode cX10_answerOf 80 = .ok (.invokevirtual 91, 3) := by decide +kernel
theorem dX10_answerOf_83 : decode cX10_answerOf 83 = .ok (.imul, 1) := by decide +kernel
theorem dX10_answerOf_84 : decode cX10_answerOf 84 = .ok (.iadd, 1) := by decide +kernel
theorem dX10_answerOf_85 : decode cX10_answerOf 85 = .ok (.ireturn, 1) := by decide +kernel
theorem dX10_answerOf_86 : decode cX10_answerOf 86 = .ok (.aload_n 0, 1) := by decide +kernel
theorem dX10_answerOf_87 : decode cX10_answerOf 87 = .ok (.iload_n 1, 1) := by decide +kernel
theorem dX10_answerOf_88 : decode cX10_answerOf 88 = .ok (.iload_n 2, 1) := by decide +kernel
theorem dX10_answerOf_89 : decode cX10_answerOf 89 = .ok (.invokevirtual 190, 3) := by decide +kernel
theorem dX10_answerOf_92 : decode cX10_answerOf 92 = .ok (.aload_n 0, 1) := by decide +kernel
theorem dX10_answerOf_93 : decode cX10_answerOf 93 = .ok (.iload_n 1, 1) := by decide +kernel
theorem dX10_answerOf_94 : decode cX10_answerOf 94 = .ok (.iconst 2, 1) := by decide +kernel
theorem dX10_answerOf_95 : decode cX10_answerOf 95 = .ok (.invokevirtual 91, 3) := by decide +kernel
theorem dX10_answerOf_98 : decode cX10_answerOf 98 = .ok (.aload_n 0, 1) := by decide +kernel
theorem dX10_answerOf_99 : decode cX10_answerOf 99 = .ok (.iload_n 1, 1) := by decide +kernel
theorem dX10_answerOf_100 : decode cX10_answerOf 100 = .ok (.iconst 3, 1) := by decide +kernel
theorem dX10_answerOf_101 : decode cX10_answerOf 101 = .ok (.invokevirtual 91, 3) := by decide +kernel
theorem dX10_answerOf_104 : decode cX10_answerOf 104 = .ok (.invokestatic 181, 3) := by decide +kernel
theorem dX10_answerOf_107 : decode cX10_answerOf 107 = .ok (.invokestatic 184, 3) := by decide +kernel
theorem dX10_answerOf_110 : decode cX10_answerOf 110 = .ok (.ireturn, 1) := by decide +kernel
theorem dX10_answerOf_111 : decode cX10_answerOf 111 = .ok (.iload_n 2, 1) := by decide +kernel
theorem dX10_answerOf_112 : decode cX10_answerOf 112 = .ok (.ifCond .ne 15, 3) := by decide +kernel
theorem dX10_answerOf_115 : decode cX10_answerOf 115 = .ok (.bipush 10, 2) := by decide +kernel
theorem dX10_answerOf_117 : decode cX10_answerOf 117 = .ok (.aload_n 0, 1) := by decide +kernel
theorem dX10_answerOf_118 : decode cX10_answerOf 118 = .ok (.iload_n 1, 1) := by decide +kernel
theorem dX10_answerOf_119 : decode cX10_answerOf 119 = .ok (.iconst 2, 1) := by decide +kernel
theorem dX10_answerOf_120 : decode cX10_answerOf 120 = .ok (.invokevirtual 91, 3) := by decide +kernel
theorem dX10_answerOf_123 : decode cX10_answerOf 123 = .ok (.imul, 1) := by decide +kernel
theorem dX10_answerOf_124 : decode cX10_answerOf 124 = .ok (.goto 9, 3) := by decide +kernel
theorem dX10_answerOf_127 : decode cX10_answerOf 127 = .ok (.aload_n 0, 1) := by decide +kernel
theorem dX10_answerOf_128 : decode cX10_answerOf 128 = .ok (.iload_n 1, 1) := by decide +kernel
theorem dX10_answerOf_129 : decode cX10_answerOf 129 = .ok (.iconst 2, 1) := by decide +kernel
theorem dX10_answerOf_130 : decode cX10_answerOf 130 = .ok (.invokevirtual 91, 3) := by decide +kernel
theorem dX10_answerOf_133 : decode cX10_answerOf 133 = .ok (.ireturn, 1) := by decide +kernel
theorem dX10_answerOf_134 : decode cX10_answerOf 134 = .ok (.aload_n 0, 1) := by decide +kernel
theorem dX10_answerOf_135 : decode cX10_answerOf 135 = .ok (.iload_n 1, 1) := by decide +kernel
theorem dX10_answerOf_136 : decode cX10_answerOf 136 = .ok (.iload_n 2, 1) := by decide +kernel
theorem dX10_answerOf_137 : decode cX10_answerOf 137 = .ok (.invokevirtual 193, 3) := by decide +kernel
theorem dX10_answerOf_140 : decode cX10_answerOf 140 = .ok (.ireturn, 1) := by decide +kernel
theorem dX10_answerOf_141 : decode cX10_answerOf 141 = .ok (.aload_n 0, 1) := by decide +kernel
theorem dX10_answerOf_142 : decode cX10_answerOf 142 = .ok (.iload_n 1, 1) := by decide +kernel
theorem dX10_answerOf_143 : decode cX10_answerOf 143 = .ok (.iload_n 2, 1) := by decide +kernel
theorem dX10_answerOf_144 : decode cX10_answerOf 144 = .ok (.invokevirtual 190, 3) := by decide +kernel
theorem dX10_answerOf_147 : decode cX10_answerOf 147 = .ok (.ireturn, 1) := by decide +kernel
theorem dX10_untold_0 : decode cX10_untold 0 = .ok (.aload_n 0, 1) := by decide +kernel
theorem dX10_untold_1 : decode cX10_untold 1 = .ok (.iload_n 1, 1) := by decide +kernel
theorem dX10_untold_2 : decode cX10_untold 2 = .ok (.iconst 1, 1) := by decide +kernel
theorem dX10_untold_3 : decode cX10_untold 3 = .ok (.invokevirtual 91, 3) := by decide +kernel
theorem dX10_untold_6 : decode cX10_untold 6 = .ok (.istore_n 3, 1) := by decide +kernel
theorem dX10_untold_7 : decode cX10_untold 7 = .ok (.iload_n 3, 1) := by decide +kernel
theorem dX10_untold_8 : decode cX10_untold 8 = .ok (.iconst 5, 1) := by decide +kernel
theorem dX10_untold_9 : decode cX10_untold 9 = .ok (.if_icmp .ne 7, 3) := by decide +kernel
theorem dX10_untold_12 : decode cX10_untold 12 = .ok (.iconst 0, 1) := by decide +kernel
theorem dX10_untold_13 : decode cX10_untold 13 = .ok (.goto 4, 3) := by decide +kernel
theorem dX10_untold_16 : decode cX10_untold 16 = .ok (.iload_n 2, 1) := by decide +kernel
theorem dX10_untold_17 : decode cX10_untold 17 = .ok (.istore 4, 2) := by decide +kernel
theorem dX10_untold_19 : decode cX10_untold 19 = .ok (.iload_n 3, 1) := by decide +kernel
theorem dX10_untold_20 : decode cX10_untold 20 = .ok (.bipush 6, 2) := by decide +kernel
theorem dX10_untold_22 : decode cX10_untold 22 = .ok (.if_icmp .ne 5, 3) := by decide +kernel
theorem dX10_untold_25 : decode cX10_untold 25 = .ok (.iconst (-1), 1) := by decide +kernel
theorem dX10_untold_26 : decode cX10_untold 26 = .ok (.ireturn, 1) := by decide +kernel
theorem dX10_untold_27 : decode cX10_untold 27 = .ok (.iconst 0, 1) := by decide +kernel
theorem dX10_untold_28 : decode cX10_untold 28 = .ok (.istore 5, 2) := by decide +kernel
theorem dX10_untold_30 : decode cX10_untold 30 = .ok (.iload 5, 2) := by decide +kernel
theorem dX10_untold_32 : decode cX10_untold 32 = .ok (.aload_n 0, 1) := by decide +kernel
theorem dX10_untold_33 : decode cX10_untold 33 = .ok (.iload_n 1, 1) := by decide +kernel
theorem dX10_untold_34 : decode cX10_untold 34 = .ok (.invokevirtual 117, 3) := by decide +kernel
theorem dX10_untold_37 : decode cX10_untold 37 = .ok (.if_icmp .ge 38, 3) := by decide +kernel
theorem dX10_untold_40 : decode cX10_untold 40 = .ok (.aload_n 0, 1) := by decide +kernel
theorem dX10_untold_41 : decode cX10_untold 41 = .ok (.aload_n 0, 1) := by decide +kernel
theorem dX10_untold_42 : decode cX10_untold 42 = .ok (.iload_n 1, 1) := by decide +kernel
theorem dX10_untold_43 : decode cX10_untold 43 = .ok (.iload 5, 2) := by decide +kernel
theorem dX10_untold_45 : decode cX10_untold 45 = .ok (.invokevirtual 153, 3) := by decide +kernel
theorem dX10_untold_48 : decode cX10_untold 48 = .ok (.bipush 21, 2) := by decide +kernel
theorem dX10_untold_50 : decode cX10_untold 50 = .ok (.invokevirtual 91, 3) := by decide +kernel
theorem dX10_untold_53 : decode cX10_untold 53 = .ok (.iload 4, 2) := by decide +kernel
theorem dX10_untold_55 : decode cX10_untold 55 = .ok (.ishr, 1) := by decide +kernel
theorem dX10_untold_56 : decode cX10_untold 56 = .ok (.iconst 1, 1) := by decide +kernel
theorem dX10_untold_57 : decode cX10_untold 57 = .ok (.iand, 1) := by decide +kernel
theorem dX10_untold_58 : decode cX10_untold 58 = .ok (.ifCond .ne 11, 3) := by decide +kernel
theorem dX10_untold_61 : decode cX10_untold 61 = .ok (.aload_n 0, 1) := by decide +kernel
theorem dX10_untold_62 : decode cX10_untold 62 = .ok (.iload_n 1, 1) := by decide +kernel
theorem dX10_untold_63 : decode cX10_untold 63 = .ok (.iload 5, 2) := by decide +kernel
theorem dX10_untold_65 : decode cX10_untold 65 = .ok (.invokevirtual 153, 3) := by decide +kernel
theorem dX10_untold_68 : decode cX10_untold 68 = .ok (.ireturn, 1) := by decide +kernel
theorem dX10_untold_69 : decode cX10_untold 69 = .ok (.iinc 5 1, 3) := by decide +kernel
theorem dX10_untold_72 : decode cX10_untold 72 = .ok (.goto (-42), 3) := by decide +kernel
theorem dX10_untold_75 : decode cX10_untold 75 = .ok (.iconst (-1), 1) := by decide +kernel
theorem dX10_untold_76 : decode cX10_untold 76 = .ok (.ireturn, 1) := by decide +kernel
theorem dX10_asksIt_0 : decode cX10_asksIt 0 = .ok (.iconst 0, 1) := by decide +kernel
theorem dX10_asksIt_1 : decode cX10_asksIt 1 = .ok (.istore_n 3, 1) := by decide +kernel
theorem dX10_asksIt_2 : decode cX10_asksIt 2 = .ok (.aload_n 0, 1) := by decide +kernel
theorem dX10_asksIt_3 : decode cX10_asksIt 3 = .ok (.iload_n 1, 1) := by decide +kernel
theorem dX10_asksIt_4 : decode cX10_asksIt 4 = .ok (.bipush 21, 2) := by decide +kernel
theorem dX10_asksIt_6 : decode cX10_asksIt 6 = .ok (.invokevirtual 91, 3) := by decide +kernel
theorem dX10_asksIt_9 : decode cX10_asksIt 9 = .ok (.iload_n 2, 1) := by decide +kernel
theorem dX10_asksIt_10 : decode cX10_asksIt 10 = .ok (.ishr, 1) := by decide +kernel
theorem dX10_asksIt_11 : decode cX10_asksIt 11 = .ok (.iconst 1, 1) := by decide +kernel
theorem dX10_asksIt_12 : decode cX10_asksIt 12 = .ok (.iand, 1) := by decide +kernel
theorem dX10_asksIt_13 : decode cX10_asksIt 13 = .ok (.ifCond .ne 19, 3) := by decide +kernel
theorem dX10_asksIt_16 : decode cX10_asksIt 16 = .ok (.aload_n 0, 1) := by decide +kernel
theorem dX10_asksIt_17 : decode cX10_asksIt 17 = .ok (.getfield 27, 3) := by decide +kernel
theorem dX10_asksIt_20 : decode cX10_asksIt 20 = .ok (.iconst 0, 1) := by decide +kernel
theorem dX10_asksIt_21 : decode cX10_asksIt 21 = .ok (.iload_n 1, 1) := by decide +kernel
theorem dX10_asksIt_22 : decode cX10_asksIt 22 = .ok (.iastore, 1) := by decide +kernel
theorem dX10_asksIt_23 : decode cX10_asksIt 23 = .ok (.aload_n 0, 1) := by decide +kernel
theorem dX10_asksIt_24 : decode cX10_asksIt 24 = .ok (.getfield 30, 3) := by decide +kernel
theorem dX10_asksIt_27 : decode cX10_asksIt 27 = .ok (.iconst 0, 1) := by decide +kernel
theorem dX10_asksIt_28 : decode cX10_asksIt 28 = .ok (.iload_n 2, 1) := by decide +kernel
theorem dX10_asksIt_29 : decode cX10_asksIt 29 = .ok (.iastore, 1) := by decide +kernel
theorem dX10_asksIt_30 : decode cX10_asksIt 30 = .ok (.iconst 1, 1) := by decide +kernel
theorem dX10_asksIt_31 : decode cX10_asksIt 31 = .ok (.istore_n 3, 1) := by decide +kernel
theorem dX10_asksIt_32 : decode cX10_asksIt 32 = .ok (.iload_n 3, 1) := by decide +kernel
theorem dX10_asksIt_33 : decode cX10_asksIt 33 = .ok (.ifCond .le 146, 3) := by decide +kernel
theorem dX10_asksIt_36 : decode cX10_asksIt 36 = .ok (.aload_n 0, 1) := by decide +kernel
theorem dX10_asksIt_37 : decode cX10_asksIt 37 = .ok (.getfield 27, 3) := by decide +kernel
theorem dX10_asksIt_40 : decode cX10_asksIt 40 = .ok (.iload_n 3, 1) := by decide +kernel
theorem dX10_asksIt_41 : decode cX10_asksIt 41 = .ok (.iconst 1, 1) := by decide +kernel
theorem dX10_asksIt_42 : decode cX10_asksIt 42 = .ok (.isub, 1) := by decide +kernel
theorem dX10_asksIt_43 : decode cX10_asksIt 43 = .ok (.iaload, 1) := by decide +kernel
theorem dX10_asksIt_44 : decode cX10_asksIt 44 = .ok (.istore 4, 2) := by decide +kernel
theorem dX10_asksIt_46 : decode cX10_asksIt 46 = .ok (.aload_n 0, 1) := by decide +kernel
theorem dX10_asksIt_47 : decode cX10_asksIt 47 = .ok (.getfield 30, 3) := by decide +kernel
theorem dX10_asksIt_50 : decode cX10_asksIt 50 = .ok (.iload_n 3, 1) := by decide +kernel
theorem dX10_asksIt_51 : decode cX10_asksIt 51 = .ok (.iconst 1, 1) := by decide +kernel
theorem dX10_asksIt_52 : decode cX10_asksIt 52 = .ok (.isub, 1) := by decide +kernel
theorem dX10_asksIt_53 : decode cX10_asksIt 53 = .ok (.iaload, 1) := by decide +kernel
theorem dX10_asksIt_54 : decode cX10_asksIt 54 = .ok (.istore 5, 2) := by decide +kernel
theorem dX10_asksIt_56 : decode cX10_asksIt 56 = .ok (.aload_n 0, 1) := by decide +kernel
theorem dX10_asksIt_57 : decode cX10_asksIt 57 = .ok (.iload 4, 2) := by decide +kernel
theorem dX10_asksIt_59 : decode cX10_asksIt 59 = .ok (.iload 5, 2) := by decide +kernel
theorem dX10_asksIt_61 : decode cX10_asksIt 61 = .ok (.invokevirtual 196, 3) := by decide +kernel
theorem dX10_asksIt_64 : decode cX10_asksIt 64 = .ok (.istore 6, 2) := by decide +kernel
theorem dX10_asksIt_66 : decode cX10_asksIt 66 = .ok (.iload 6, 2) := by decide +kernel
theorem dX10_asksIt_68 : decode cX10_asksIt 68 = .ok (.ifCond .lt 40, 3) := by decide +kernel
theorem dX10_asksIt_71 : decode cX10_asksIt 71 = .ok (.aload_n 0, 1) := by decide +kernel
theorem dX10_asksIt_72 : decode cX10_asksIt 72 = .ok (.getfield 27, 3) := by decide +kernel
theorem dX10_asksIt_75 : decode cX10_asksIt 75 = .ok (.iload_n 3, 1) := by decide +kernel
theorem dX10_asksIt_76 : decode cX10_asksIt 76 = .ok (.iload 6, 2) := by decide +kernel
theorem dX10_asksIt_78 : decode cX10_asksIt 78 = .ok (.iastore, 1) := by decide +kernel
theorem dX10_asksIt_79 : decode cX10_asksIt 79 = .ok (.aload_n 0, 1) := by decide +kernel
theorem dX10_asksIt_80 : decode cX10_asksIt 80 = .ok (.getfield 30, 3) := by decide +kernel
theorem dX10_asksIt_83 : decode cX10_asksIt 83 = .ok (.iload_n 3, 1) := by decide +kernel
theorem dX10_asksIt_84 : decode cX10_asksIt 84 = .ok (.aload_n 0, 1) := by decide +kernel
theorem dX10_asksIt_85 : decode cX10_asksIt 85 = .ok (.iload 4, 2) := by decide +kernel
theorem dX10_asksIt_87 : decode cX10_asksIt 87 = .ok (.iconst 1, 1) := by decide +kernel
theorem dX10_asksIt_88 : decode cX10_asksIt 88 = .ok (.invokevirtual 91, 3) := by decide +kernel
theorem dX10_asksIt_91 : decode cX10_asksIt 91 = .ok (.iconst 5, 1) := by decide +kernel
theorem dX10_asksIt_92 : decode cX10_asksIt 92 = .ok (.if_icmp .ne 7, 3) := by decide +kernel
theorem dX10_asksIt_95 : decode cX10_asksIt 95 = .ok (.iconst 0, 1) := by decide +kernel
theorem dX10_asksIt_96 : decode cX10_asksIt 96 = .ok (.goto 5, 3) := by decide +kernel
theorem dX10_asksIt_99 : decode cX10_asksIt 99 = .ok (.iload 5, 2) := by decide +kernel
theorem dX10_asksIt_101 : decode cX10_asksIt 101 = .ok (.iastore, 1) := by decide +kernel
theorem dX10_asksIt_102 : decode cX10_asksIt 102 = .ok (.iinc 3 1, 3) := by decide +kernel
theorem dX10_asksIt_105 : decode cX10_asksIt 105 = .ok (.goto 71, 3) := by decide +kernel
theorem dX10_asksIt_108 : decode cX10_asksIt 108 = .ok (.aload_n 0, 1) := by decide +kernel
theorem dX10_asksIt_109 : decode cX10_asksIt 109 = .ok (.iload 4, 2) := by decide +kernel
theorem dX10_asksIt_111 : decode cX10_asksIt 111 = .ok (.bipush 22, 2) := by decide +kernel
theorem dX10_asksIt_113 : decode cX10_asksIt 113 = .ok (.iload 5, 2) := by decide +kernel
theorem dX10_asksIt_115 : decode cX10_asksIt 115 = .ok (.iadd, 1) := by decide +kernel
theorem dX10_asksIt_116 : decode cX10_asksIt 116 = .ok (.aload_n 0, 1) := by decide +kernel
theorem dX10_asksIt_117 : decode cX10_asksIt 117 = .ok (.iload 4, 2) := by decide +kernel
theorem dX10_asksIt_119 : decode cX10_asksIt 119 = .ok (.iload 5, 2) := by decide +kernel
theorem dX10_asksIt_121 : decode cX10_asksIt 121 = .ok (.invokevirtual 199, 3) := by decide +kernel
theorem dX10_asksIt_124 : decode cX10_asksIt 124 = .ok (.invokevirtual 102, 3) := by decide +kernel
theorem dX10_asksIt_127 : decode cX10_asksIt 127 = .ok (.aload_n 0, 1) := by decide +kernel
theorem dX10_asksIt_128 : decode cX10_asksIt 128 = .ok (.iload 4, 2) := by decide +kernel
theorem dX10_asksIt_130 : decode cX10_asksIt 130 = .ok (.bipush 21, 2) := by decide +kernel
theorem dX10_asksIt_132 : decode cX10_asksIt 132 = .ok (.aload_n 0, 1) := by decide +kernel
theorem dX10_asksIt_133 : decode cX10_asksIt 133 = .ok (.iload 4, 2) := by decide +kernel
theorem dX10_asksIt_135 : decode cX10_asksIt 135 = .ok (.bipush 21, 2) := by decide +kernel
theorem dX10_asksIt_137 : decode cX10_asksIt 137 = .ok (.invokevirtual 91, 3) := by decide +kernel
theorem dX10_asksIt_140 : decode cX10_asksIt 140 = .ok (.iconst 1, 1) := by decide +kernel
theorem dX10_asksIt_141 : decode cX10_asksIt 141 = .ok (.iload 5, 2) := by decide +kernel
theorem dX10_asksIt_143 : decode cX10_asksIt 143 = .ok (.ishl, 1) := by decide +kernel
theorem dX10_asksIt_144 : decode cX10_asksIt 144 = .ok (.ior, 1) := by decide +kernel
theorem dX10_asksIt_145 : decode cX10_asksIt 145 = .ok (.invokevirtual 102, 3) := by decide +kernel
theorem dX10_asksIt_148 : decode cX10_asksIt 148 = .ok (.aload_n 0, 1) := by decide +kernel
theorem dX10_asksIt_149 : decode cX10_asksIt 149 = .ok (.dup, 1) := by decide +kernel
theorem dX10_asksIt_150 : decode cX10_asksIt 150 = .ok (.getfield 202, 3) := by decide +kernel
theorem dX10_asksIt_153 : decode cX10_asksIt 153 = .ok (.aload_n 0, 1) := by decide +kernel
theorem dX10_asksIt_154 : decode cX10_asksIt 154 = .ok (.getfield 9, 3) := by decide +kernel
theorem dX10_asksIt_157 : decode cX10_asksIt 157 = .ok (.aload_n 0, 1) := by decide +kernel
theorem dX10_asksIt_158 : decode cX10_asksIt 158 = .ok (.getfield 15, 3) := by decide +kernel
theorem dX10_asksIt_161 : decode cX10_asksIt 161 = .ok (.if_acmp .ne 7, 3) := by decide +kernel
theorem dX10_asksIt_164 : decode cX10_asksIt 164 = .ok (.iconst 1, 1) := by decide +kernel
theorem dX10_asksIt_165 : decode cX10_asksIt 165 = .ok (.goto 4, 3) := by decide +kernel
theorem dX10_asksIt_168 : decode cX10_asksIt 168 = .ok (.iconst 0, 1) := by decide +kernel
theorem dX10_asksIt_169 : decode cX10_asksIt 169 = .ok (.iadd, 1) := by decide +kernel
theorem dX10_asksIt_170 : decode cX10_asksIt 170 = .ok (.putfield 202, 3) := by decide +kernel
theorem dX10_asksIt_173 : decode cX10_asksIt 173 = .ok (.iinc 3 (-1), 3) := by decide +kernel
theorem dX10_asksIt_176 : decode cX10_asksIt 176 = .ok (.goto (-144), 3) := by decide +kernel
theorem dX10_asksIt_179 : decode cX10_asksIt 179 = .ok (.aload_n 0, 1) := by decide +kernel
theorem dX10_asksIt_180 : decode cX10_asksIt 180 = .ok (.iload_n 1, 1) := by decide +kernel
theorem dX10_asksIt_181 : decode cX10_asksIt 181 = .ok (.bipush 22, 2) := by decide +kernel
theorem dX10_asksIt_183 : decode cX10_asksIt 183 = .ok (.iload_n 2, 1) := by decide +kernel
theorem dX10_asksIt_184 : decode cX10_asksIt 184 = .ok (.iadd, 1) := by decide +kernel
theorem dX10_asksIt_185 : decode cX10_asksIt 185 = .ok (.invokevirtual 91, 3) := by decide +kernel
theorem dX10_asksIt_188 : decode cX10_asksIt 188 = .ok (.ireturn, 1) := by decide +kernel
theorem dX10_asks_0 : decode cX10_asks 0 = .ok (.aload_n 0, 1) := by decide +kernel
theorem dX10_asks_1 : decode cX10_asks 1 = .ok (.iload_n 1, 1) := by decide +kernel
theorem dX10_asks_2 : decode cX10_asks 2 = .ok (.invokevirtual 127, 3) := by decide +kernel
theorem dX10_asks_5 : decode cX10_asks 5 = .ok (.ifCond .eq 22, 3) := by decide +kernel
theorem dX10_asks_8 : decode cX10_asks 8 = .ok (.iload_n 2, 1) := by decide +kernel
theorem dX10_asks_9 : decode cX10_asks 9 = .ok (.i2l, 1) := by decide +kernel
theorem dX10_asks_10 : decode cX10_asks 10 = .ok (.lconst 0, 1) := by decide +kernel
theorem dX10_asks_11 : decode cX10_asks 11 = .ok (.lconst 1, 1) := by decide +kernel
theorem dX10_asks_12 : decode cX10_asks 12 = .ok (.invokestatic 87, 3) := by decide +kernel
theorem dX10_asks_15 : decode cX10_asks 15 = .ok (.ifCond .eq 12, 3) := by decide +kernel
theorem dX10_asks_18 : decode cX10_asks 18 = .ok (.aload_n 0, 1) := by decide +kernel
theorem dX10_asks_19 : decode cX10_asks 19 = .ok (.iload_n 1, 1) := by decide +kernel
theorem dX10_asks_20 : decode cX10_asks 20 = .ok (.iload_n 2, 1) := by decide +kernel
theorem dX10_asks_21 : decode cX10_asks 21 = .ok (.invokevirtual 206, 3) := by decide +kernel
theorem dX10_asks_24 : decode cX10_asks 24 = .ok (.goto 4, 3) := by decide +kernel
theorem dX10_asks_27 : decode cX10_asks 27 = .ok (.iconst (-1), 1) := by decide +kernel
theorem dX10_asks_28 : decode cX10_asks 28 = .ok (.ireturn, 1) := by decide +kernel
theorem dX10_ownBase_0 : decode cX10_ownBase 0 = .ok (.aload_n 0, 1) := by decide +kernel
theorem dX10_ownBase_1 : decode cX10_ownBase 1 = .ok (.iload_n 1, 1) := by decide +kernel
theorem dX10_ownBase_2 : decode cX10_ownBase 2 = .ok (.iconst 1, 1) := by decide +kernel
theorem dX10_ownBase_3 : decode cX10_ownBase 3 = .ok (.invokevirtual 91, 3) := by decide +kernel
theorem dX10_ownBase_6 : decode cX10_ownBase 6 = .ok (.istore_n 2, 1) := by decide +kernel
theorem dX10_ownBase_7 : decode cX10_ownBase 7 = .ok (.aload_n 0, 1) := by decide +kernel
theorem dX10_ownBase_8 : decode cX10_ownBase 8 = .ok (.iload_n 1, 1) := by decide +kernel
theorem dX10_ownBase_9 : decode cX10_ownBase 9 = .ok (.bipush 25, 2) := by decide +kernel
theorem dX10_ownBase_11 : decode cX10_ownBase 11 = .ok (.invokevirtual 91, 3) := by decide +kernel
theorem dX10_ownBase_14 : decode cX10_ownBase 14 = .ok (.ifCond .eq 18, 3) := by decide +kernel
theorem dX10_ownBase_17 : decode cX10_ownBase 17 = .ok (.iload_n 2, 1) := by decide +kernel
theorem dX10_ownBase_18 : decode cX10_ownBase 18 = .ok (.ifCond .eq 14, 3) := by decide +kernel
theorem dX10_ownBase_21 : decode cX10_ownBase 21 = .ok (.aload_n 0, 1) := by decide +kernel
theorem dX10_ownBase_22 : decode cX10_ownBase 22 = .ok (.iload_n 1, 1) := by decide +kernel
theorem dX10_ownBase_23 : decode cX10_ownBase 23 = .ok (.bipush 36, 2) := by decide +kernel
theorem dX10_ownBase_25 : decode cX10_ownBase 25 = .ok (.invokevirtual 91, 3) := by decide +kernel
theorem dX10_ownBase_28 : decode cX10_ownBase 28 = .ok (.iconst 2, 1) := by decide +kernel
theorem dX10_ownBase_29 : decode cX10_ownBase 29 = .ok (.if_icmp .ne 6, 3) := by decide +kernel
theorem dX10_ownBase_32 : decode cX10_ownBase 32 = .ok (.bipush (-5), 2) := by decide +kernel
theorem dX10_ownBase_34 : decode cX10_ownBase 34 = .ok (.ireturn, 1) := by decide +kernel
theorem dX10_ownBase_35 : decode cX10_ownBase 35 = .ok (.aload_n 0, 1) := by decide +kernel
theorem dX10_ownBase_36 : decode cX10_ownBase 36 = .ok (.iload_n 1, 1) := by decide +kernel
theorem dX10_ownBase_37 : decode cX10_ownBase 37 = .ok (.bipush 36, 2) := by decide +kernel
theorem dX10_ownBase_39 : decode cX10_ownBase 39 = .ok (.invokevirtual 91, 3) := by decide +kernel
theorem dX10_ownBase_42 : decode cX10_ownBase 42 = .ok (.iconst 1, 1) := by decide +kernel
theorem dX10_ownBase_43 : decode cX10_ownBase 43 = .ok (.if_icmp .ne 13, 3) := by decide +kernel
theorem dX10_ownBase_46 : decode cX10_ownBase 46 = .ok (.aload_n 0, 1) := by decide +kernel
theorem dX10_ownBase_47 : decode cX10_ownBase 47 = .ok (.iload_n 1, 1) := by decide +kernel
theorem dX10_ownBase_48 : decode cX10_ownBase 48 = .ok (.bipush 37, 2) := by decide +kernel
theorem dX10_ownBase_50 : decode cX10_ownBase 50 = .ok (.invokevirtual 91, 3) := by decide +kernel
theorem dX10_ownBase_53 : decode cX10_ownBase 53 = .ok (.goto 5, 3) := by decide +kernel
theorem dX10_ownBase_56 : decode cX10_ownBase 56 = .ok (.bipush (-6), 2) := by decide +kernel
theorem dX10_ownBase_58 : decode cX10_ownBase 58 = .ok (.ireturn, 1) := by decide +kernel
theorem dX10_baseOf_0 : decode cX10_baseOf 0 = .ok (.iconst 1, 1) := by decide +kernel
theorem dX10_baseOf_1 : decode cX10_baseOf 1 = .ok (.istore_n 3, 1) := by decide +kernel
theorem dX10_baseOf_2 : decode cX10_baseOf 2 = .ok (.aload_n 0, 1) := by decide +kernel
theorem dX10_baseOf_3 : decode cX10_baseOf 3 = .ok (.getfield 33, 3) := by decide +kernel
theorem dX10_baseOf_6 : decode cX10_baseOf 6 = .ok (.iconst 0, 1) := by decide +kernel
theorem dX10_baseOf_7 : decode cX10_baseOf 7 = .ok (.iload_n 1, 1) := by decide +kernel
theorem dX10_baseOf_8 : decode cX10_baseOf 8 = .ok (.iastore, 1) := by decide +kernel
theorem dX10_baseOf_9 : decode cX10_baseOf 9 = .ok (.aload_n 0, 1) := by decide +kernel
theorem dX10_baseOf_10 : decode cX10_baseOf 10 = .ok (.getfield 36, 3) := by decide +kernel
theorem dX10_baseOf_13 : decode cX10_baseOf 13 = .ok (.iconst 0, 1) := by decide +kernel
theorem dX10_baseOf_14 : decode cX10_baseOf 14 = .ok (.iconst 0, 1) := by decide +kernel
theorem dX10_baseOf_15 : decode cX10_baseOf 15 = .ok (.iastore, 1) := by decide +kernel
theorem dX10_baseOf_16 : decode cX10_baseOf 16 = .ok (.iload_n 3, 1) := by decide +kernel
theorem dX10_baseOf_17 : decode cX10_baseOf 17 = .ok (.ifCond .le 162, 3) := by decide +kernel
theorem dX10_baseOf_20 : decode cX10_baseOf 20 = .ok (.aload_n 0, 1) := by decide +kernel
theorem dX10_baseOf_21 : decode cX10_baseOf 21 = .ok (.getfield 33, 3) := by decide +kernel
theorem dX10_baseOf_24 : decode cX10_baseOf 24 = .ok (.iload_n 3, 1) := by decide +kernel
theorem dX10_baseOf_25 : decode cX10_baseOf 25 = .ok (.iconst 1, 1) := by decide +kernel
theorem dX10_baseOf_26 : decode cX10_baseOf 26 = .ok (.isub, 1) := by decide +kernel
theorem dX10_baseOf_27 : decode cX10_baseOf 27 = .ok (.iaload, 1) := by decide +kernel
theorem dX10_baseOf_28 : decode cX10_baseOf 28 = .ok (.istore 4, 2) := by decide +kernel
theorem dX10_baseOf_30 : decode cX10_baseOf 30 = .ok (.iload_n 2, 1) := by decide +kernel
theorem dX10_baseOf_31 : decode cX10_baseOf 31 = .ok (.ifCond .eq 23, 3) := by decide +kernel
theorem dX10_baseOf_34 : decode cX10_baseOf 34 = .ok (.aload_n 0, 1) := by decide +kernel
theorem dX10_baseOf_35 : decode cX10_baseOf 35 = .ok (.getfield 36, 3) := by decide +kernel
theorem dX10_baseOf_38 : decode cX10_baseOf 38 = .ok (.iload_n 3, 1) := by decide +kernel
theorem dX10_baseOf_39 : decode cX10_baseOf 39 = .ok (.iconst 1, 1) := by decide +kernel
theorem dX10_baseOf_40 : decode cX10_baseOf 40 = .ok (.isub, 1) := by decide +kernel
theorem dX10_baseOf_41 : decode cX10_baseOf 41 = .ok (.iaload, 1) := by decide +kernel
theorem dX10_baseOf_42 : decode cX10_baseOf 42 = .ok (.ifCond .ne 12, 3) := by decide +kernel
theorem dX10_baseOf_45 : decode cX10_baseOf 45 = .ok (.aload_n 0, 1) := by decide +kernel
theorem dX10_baseOf_46 : decode cX10_baseOf 46 = .ok (.iload 4, 2) := by decide +kernel
theorem dX10_baseOf_48 : decode cX10_baseOf 48 = .ok (.bipush 24, 2) := by decide +kernel
theorem dX10_baseOf_50 : decode cX10_baseOf 50 = .ok (.iconst 1, 1) := by decide +kernel
theorem dX10_baseOf_51 : decode cX10_baseOf 51 = .ok (.invokevirtual 102, 3) := by decide +kernel
theorem dX10_baseOf_54 : decode cX10_baseOf 54 = .ok (.aload_n 0, 1) := by decide +kernel
theorem dX10_baseOf_55 : decode cX10_baseOf 55 = .ok (.iload 4, 2) := by decide +kernel
theorem dX10_baseOf_57 : decode cX10_baseOf 57 = .ok (.invokevirtual 209, 3) := by decide +kernel
theorem dX10_baseOf_60 : decode cX10_baseOf 60 = .ok (.istore 5, 2) := by decide +kernel
theorem dX10_baseOf_62 : decode cX10_baseOf 62 = .ok (.iload 5, 2) := by decide +kernel
theorem dX10_baseOf_64 : decode cX10_baseOf 64 = .ok (.ifCond .lt 40, 3) := by decide +kernel
theorem dX10_baseOf_67 : decode cX10_baseOf 67 = .ok (.iload_n 3, 1) := by decide +kernel
theorem dX10_baseOf_68 : decode cX10_baseOf 68 = .ok (.iconst 1, 1) := by decide +kernel
theorem dX10_baseOf_69 : decode cX10_baseOf 69 = .ok (.isub, 1) := by decide +kernel
theorem dX10_baseOf_70 : decode cX10_baseOf 70 = .ok (.istore 6, 2) := by decide +kernel
theorem dX10_baseOf_72 : decode cX10_baseOf 72 = .ok (.iload 6, 2) := by decide +kernel
theorem dX10_baseOf_74 : decode cX10_baseOf 74 = .ok (.ifCond .le 27, 3) := by decide +kernel
theorem dX10_baseOf_77 : decode cX10_baseOf 77 = .ok (.iload 5, 2) := by decide +kernel
theorem dX10_baseOf_79 : decode cX10_baseOf 79 = .ok (.aload_n 0, 1) := by decide +kernel
theorem dX10_baseOf_80 : decode cX10_baseOf 80 = .ok (.aload_n 0, 1) := by decide +kernel
theorem dX10_baseOf_81 : decode cX10_baseOf 81 = .ok (.getfield 33, 3) := by decide +kernel
theorem dX10_baseOf_84 : decode cX10_baseOf 84 = .ok (.iload 6, 2) := by decide +kernel
theorem dX10_baseOf_86 : decode cX10_baseOf 86 = .ok (.iaload, 1) := by decide +kernel
theorem dX10_baseOf_87 : decode cX10_baseOf 87 = .ok (.bipush 31, 2) := by decide +kernel
theorem dX10_baseOf_89 : decode cX10_baseOf 89 = .ok (.invokevirtual 91, 3) := by decide +kernel
theorem dX10_baseOf_92 : decode cX10_baseOf 92 = .ok (.iadd, 1) := by decide +kernel
theorem dX10_baseOf_93 : decode cX10_baseOf 93 = .ok (.istore 5, 2) := by decide +kernel
theorem dX10_baseOf_95 : decode cX10_baseOf 95 = .ok (.iinc 6 (-1), 3) := by decide +kernel
theorem dX10_baseOf_98 : decode cX10_baseOf 98 = .ok (.goto (-26), 3) := by decide +kernel
theorem dX10_baseOf_101 : decode cX10_baseOf 101 = .ok (.iload 5, 2) := by decide +kernel
theorem dX10_baseOf_103 : decode cX10_baseOf 103 = .ok (.ireturn, 1) := by decide +kernel
theorem dX10_baseOf_104 : decode cX10_baseOf 104 = .ok (.iload 5, 2) := by decide +kernel
theorem dX10_baseOf_106 : decode cX10_baseOf 106 = .ok (.bipush (-6), 2) := by decide +kernel
theorem dX10_baseOf_108 : decode cX10_baseOf 108 = .ok (.if_icmp .ne 65, 3) := by decide +kernel
theorem dX10_baseOf_111 : decode cX10_baseOf 111 = .ok (.aload_n 0, 1) := by decide +kernel
theorem dX10_baseOf_112 : decode cX10_baseOf 112 = .ok (.getfield 36, 3) := by decide +kernel
theorem dX10_baseOf_115 : decode cX10_baseOf 115 = .ok (.iload_n 3, 1) := by decide +kernel
theorem dX10_baseOf_116 : decode cX10_baseOf 116 = .ok (.iconst 1, 1) := by decide +kernel
theorem dX10_baseOf_117 : decode cX10_baseOf 117 = .ok (.isub, 1) := by decide +kernel
theorem dX10_baseOf_118 : decode cX10_baseOf 118 = .ok (.iaload, 1) := by decide +kernel
theorem dX10_baseOf_119 : decode cX10_baseOf 119 = .ok (.aload_n 0, 1) := by decide +kernel
theorem dX10_baseOf_120 : decode cX10_baseOf 120 = .ok (.iload 4, 2) := by decide +kernel
theorem dX10_baseOf_122 : decode cX10_baseOf 122 = .ok (.invokevirtual 117, 3) := by decide +kernel
theorem dX10_baseOf_125 : decode cX10_baseOf 125 = .ok (.if_icmp .ge 48, 3) := by decide +kernel
theorem dX10_baseOf_128 : decode cX10_baseOf 128 = .ok (.aload_n 0, 1) := by decide +kernel
theorem dX10_baseOf_129 : decode cX10_baseOf 129 = .ok (.getfield 33, 3) := by decide +kernel
theorem dX10_baseOf_132 : decode cX10_baseOf 132 = .ok (.iload_n 3, 1) := by decide +kernel
theorem dX10_baseOf_133 : decode cX10_baseOf 133 = .ok (.aload_n 0, 1) := by decide +kernel
theorem dX10_baseOf_134 : decode cX10_baseOf 134 = .ok (.iload 4, 2) := by decide +kernel
theorem dX10_baseOf_136 : decode cX10_baseOf 136 = .ok (.aload_n 0, 1) := by decide +kernel
theorem dX10_baseOf_137 : decode cX10_baseOf 137 = .ok (.getfield 36, 3) := by decide +kernel
theorem dX10_baseOf_140 : decode cX10_baseOf 140 = .ok (.iload_n 3, 1) := by decide +kernel
theorem dX10_baseOf_141 : decode cX10_baseOf 141 = .ok (.iconst 1, 1) := by decide +kernel
theorem dX10_baseOf_142 : decode cX10_baseOf 142 = .ok (.isub, 1) := by decide +kernel
theorem dX10_baseOf_143 : decode cX10_baseOf 143 = .ok (.iaload, 1) := by decide +kernel
theorem dX10_baseOf_144 : decode cX10_baseOf 144 = .ok (.invokevirtual 153, 3) := by decide +kernel
theorem dX10_baseOf_147 : decode cX10_baseOf 147 = .ok (.iastore, 1) := by decide +kernel
theorem dX10_baseOf_148 : decode cX10_baseOf 148 = .ok (.aload_n 0, 1) := by decide +kernel
theorem dX10_baseOf_149 : decode cX10_baseOf 149 = .ok (.getfield 36, 3) := by decide +kernel
theorem dX10_baseOf_152 : decode cX10_baseOf 152 = .ok (.iload_n 3, 1) := by decide +kernel
theorem dX10_baseOf_153 : decode cX10_baseOf 153 = .ok (.iconst 0, 1) := by decide +kernel
theorem dX10_baseOf_154 : decode cX10_baseOf 154 = .ok (.iastore, 1) := by decide +kernel
theorem dX10_baseOf_155 : decode cX10_baseOf 155 = .ok (.aload_n 0, 1) := by decide +kernel
theorem dX10_baseOf_156 : decode cX10_baseOf 156 = .ok (.getfield 36, 3) := by decide +kernel
theorem dX10_baseOf_159 : decode cX10_baseOf 159 = .ok (.iload_n 3, 1) := by decide +kernel
theorem dX10_baseOf_160 : decode cX10_baseOf 160 = .ok (.iconst 1, 1) := by decide +kernel
theorem dX10_baseOf_161 : decode cX10_baseOf 161 = .ok (.isub, 1) := by decide +kernel
theorem dX10_baseOf_162 : decode cX10_baseOf 162 = .ok (.dup2, 1) := by decide +kernel
theorem dX10_baseOf_163 : decode cX10_baseOf 163 = .ok (.iaload, 1) := by decide +kernel
theorem dX10_baseOf_164 : decode cX10_baseOf 164 = .ok (.iconst 1, 1) := by decide +kernel
theorem dX10_baseOf_165 : decode cX10_baseOf 165 = .ok (.iadd, 1) := by decide +kernel
theorem dX10_baseOf_166 : decode cX10_baseOf 166 = .ok (.iastore, 1) := by decide +kernel
theorem dX10_baseOf_167 : decode cX10_baseOf 167 = .ok (.iinc 3 1, 3) := by decide +kernel
theorem dX10_baseOf_170 : decode cX10_baseOf 170 = .ok (.goto 6, 3) := by decide +kernel
theorem dX10_baseOf_173 : decode cX10_baseOf 173 = .ok (.iinc 3 (-1), 3) := by decide +kernel
theorem dX10_baseOf_176 : decode cX10_baseOf 176 = .ok (.goto (-160), 3) := by decide +kernel
theorem dX10_baseOf_179 : decode cX10_baseOf 179 = .ok (.bipush (-5), 2) := by decide +kernel
theorem dX10_baseOf_181 : decode cX10_baseOf 181 = .ok (.ireturn, 1) := by decide +kernel
theorem dX10_less_0 : decode cX10_less 0 = .ok (.iload_n 0, 1) := by decide +kernel
theorem dX10_less_1 : decode cX10_less 1 = .ok (.sipush 1000, 3) := by decide +kernel
theorem dX10_less_4 : decode cX10_less 4 = .ok (.if_icmp .ne 9, 3) := by decide +kernel
theorem dX10_less_7 : decode cX10_less 7 = .ok (.sipush 1000, 3) := by decide +kernel
theorem dX10_less_10 : decode cX10_less 10 = .ok (.goto 15, 3) := by decide +kernel
theorem dX10_less_13 : decode cX10_less 13 = .ok (.iload_n 0, 1) := by decide +kernel
theorem dX10_less_14 : decode cX10_less 14 = .ok (.iload_n 1, 1) := by decide +kernel
theorem dX10_less_15 : decode cX10_less 15 = .ok (.if_icmp .ge 7, 3) := by decide +kernel
theorem dX10_less_18 : decode cX10_less 18 = .ok (.iconst 0, 1) := by decide +kernel
theorem dX10_less_19 : decode cX10_less 19 = .ok (.goto 6, 3) := by decide +kernel
theorem dX10_less_22 : decode cX10_less 22 = .ok (.iload_n 0, 1) := by decide +kernel
theorem dX10_less_23 : decode cX10_less 23 = .ok (.iload_n 1, 1) := by decide +kernel
theorem dX10_less_24 : decode cX10_less 24 = .ok (.isub, 1) := by decide +kernel
theorem dX10_less_25 : decode cX10_less 25 = .ok (.ireturn, 1) := by decide +kernel
theorem dX10_lay_0 : decode cX10_lay 0 = .ok (.aload_n 0, 1) := by decide +kernel
theorem dX10_lay_1 : decode cX10_lay 1 = .ok (.iload_n 1, 1) := by decide +kernel
theorem dX10_lay_2 : decode cX10_lay 2 = .ok (.bipush 25, 2) := by decide +kernel
theorem dX10_lay_4 : decode cX10_lay 4 = .ok (.invokevirtual 91, 3) := by decide +kernel
theorem dX10_lay_7 : decode cX10_lay 7 = .ok (.iconst 1, 1) := by decide +kernel
theorem dX10_lay_8 : decode cX10_lay 8 = .ok (.if_icmp .ne 53, 3) := by decide +kernel
theorem dX10_lay_11 : decode cX10_lay 11 = .ok (.aload_n 0, 1) := by decide +kernel
theorem dX10_lay_12 : decode cX10_lay 12 = .ok (.iload_n 1, 1) := by decide +kernel
theorem dX10_lay_13 : decode cX10_lay 13 = .ok (.bipush 26, 2) := by decide +kernel
theorem dX10_lay_15 : decode cX10_lay 15 = .ok (.invokevirtual 91, 3) := by decide +kernel
theorem dX10_lay_18 : decode cX10_lay 18 = .ok (.iload_n 2, 1) := by decide +kernel
theorem dX10_lay_19 : decode cX10_lay 19 = .ok (.if_icmp .ne 42, 3) := by decide +kernel
theorem dX10_lay_22 : decode cX10_lay 22 = .ok (.aload_n 0, 1) := by decide +kernel
theorem dX10_lay_23 : decode cX10_lay 23 = .ok (.iload_n 1, 1) := by decide +kernel
theorem dX10_lay_24 : decode cX10_lay 24 = .ok (.bipush 27, 2) := by decide +kernel
theorem dX10_lay_26 : decode cX10_lay 26 = .ok (.invokevirtual 91, 3) := by decide +kernel
theorem dX10_lay_29 : decode cX10_lay 29 = .ok (.iload_n 3, 1) := by decide +kernel
theorem dX10_lay_30 : decode cX10_lay 30 = .ok (.if_icmp .ne 31, 3) := by decide +kernel
theorem dX10_lay_33 : decode cX10_lay 33 = .ok (.aload_n 0, 1) := by decide +kernel
theorem dX10_lay_34 : decode cX10_lay 34 = .ok (.iload_n 1, 1) := by decide +kernel
theorem dX10_lay_35 : decode cX10_lay 35 = .ok (.bipush 28, 2) := by decide +kernel
theorem dX10_lay_37 : decode cX10_lay 37 = .ok (.invokevirtual 91, 3) := by decide +kernel
theorem dX10_lay_40 : decode cX10_lay 40 = .ok (.iload 4, 2) := by decide +kernel
theorem dX10_lay_42 : decode cX10_lay 42 = .ok (.if_icmp .ne 19, 3) := by decide +kernel
theorem dX10_lay_45 : decode cX10_lay 45 = .ok (.aload_n 0, 1) := by decide +kernel
theorem dX10_lay_46 : decode cX10_lay 46 = .ok (.iload_n 1, 1) := by decide +kernel
theorem dX10_lay_47 : decode cX10_lay 47 = .ok (.bipush 29, 2) := by decide +kernel
theorem dX10_lay_49 : decode cX10_lay 49 = .ok (.invokevirtual 91, 3) := by decide +kernel
theorem dX10_lay_52 : decode cX10_lay 52 = .ok (.iload 5, 2) := by decide +kernel
theorem dX10_lay_54 : decode cX10_lay 54 = .ok (.if_icmp .ne 7, 3) := by decide +kernel
theorem dX10_lay_57 : decode cX10_lay 57 = .ok (.iconst 1, 1) := by decide +kernel
theorem dX10_lay_58 : decode cX10_lay 58 = .ok (.goto 4, 3) := by decide +kernel
theorem dX10_lay_61 : decode cX10_lay 61 = .ok (.iconst 0, 1) := by decide +kernel
theorem dX10_lay_62 : decode cX10_lay 62 = .ok (.istore 6, 2) := by decide +kernel
theorem dX10_lay_64 : decode cX10_lay 64 = .ok (.aload_n 0, 1) := by decide +kernel
theorem dX10_lay_65 : decode cX10_lay 65 = .ok (.iload_n 1, 1) := by decide +kernel
theorem dX10_lay_66 : decode cX10_lay 66 = .ok (.bipush 19, 2) := by decide +kernel
theorem dX10_lay_68 : decode cX10_lay 68 = .ok (.invokevirtual 91, 3) := by decide +kernel
theorem dX10_lay_71 : decode cX10_lay 71 = .ok (.ifCond .ne 19, 3) := by decide +kernel
theorem dX10_lay_74 : decode cX10_lay 74 = .ok (.iload 6, 2) := by decide +kernel
theorem dX10_lay_76 : decode cX10_lay 76 = .ok (.ifCond .eq 14, 3) := by decide +kernel
theorem dX10_lay_79 : decode cX10_lay 79 = .ok (.aload_n 0, 1) := by decide +kernel
theorem dX10_lay_80 : decode cX10_lay 80 = .ok (.dup, 1) := by decide +kernel
theorem dX10_lay_81 : decode cX10_lay 81 = .ok (.getfield 212, 3) := by decide +kernel
theorem dX10_lay_84 : decode cX10_lay 84 = .ok (.iconst 1, 1) := by decide +kernel
theorem dX10_lay_85 : decode cX10_lay 85 = .ok (.iadd, 1) := by decide +kernel
theorem dX10_lay_86 : decode cX10_lay 86 = .ok (.putfield 212, 3) := by decide +kernel
theorem dX10_lay_89 : decode cX10_lay 89 = .ok (.return_, 1) := by decide +kernel
theorem dX10_lay_90 : decode cX10_lay 90 = .ok (.aload_n 0, 1) := by decide +kernel
theorem dX10_lay_91 : decode cX10_lay 91 = .ok (.dup, 1) := by decide +kernel
theorem dX10_lay_92 : decode cX10_lay 92 = .ok (.getfield 215, 3) := by decide +kernel
theorem dX10_lay_95 : decode cX10_lay 95 = .ok (.iconst 1, 1) := by decide +kernel
theorem dX10_lay_96 : decode cX10_lay 96 = .ok (.iadd, 1) := by decide +kernel
theorem dX10_lay_97 : decode cX10_lay 97 = .ok (.putfield 215, 3) := by decide +kernel
theorem dX10_lay_100 : decode cX10_lay 100 = .ok (.aload_n 0, 1) := by decide +kernel
theorem dX10_lay_101 : decode cX10_lay 101 = .ok (.dup, 1) := by decide +kernel
theorem dX10_lay_102 : decode cX10_lay 102 = .ok (.getfield 218, 3) := by decide +kernel
theorem dX10_lay_105 : decode cX10_lay 105 = .ok (.iconst 1, 1) := by decide +kernel
theorem dX10_lay_106 : decode cX10_lay 106 = .ok (.iload_n 1, 1) := by decide +kernel
theorem dX10_lay_107 : decode cX10_lay 107 = .ok (.ishl, 1) := by decide +kernel
theorem dX10_lay_108 : decode cX10_lay 108 = .ok (.ior, 1) := by decide +kernel
theorem dX10_lay_109 : decode cX10_lay 109 = .ok (.putfield 218, 3) := by decide +kernel
theorem dX10_lay_112 : decode cX10_lay 112 = .ok (.aload_n 0, 1) := by decide +kernel
theorem dX10_lay_113 : decode cX10_lay 113 = .ok (.iload_n 1, 1) := by decide +kernel
theorem dX10_lay_114 : decode cX10_lay 114 = .ok (.bipush 25, 2) := by decide +kernel
theorem dX10_lay_116 : decode cX10_lay 116 = .ok (.iconst 1, 1) := by decide +kernel
theorem dX10_lay_117 : decode cX10_lay 117 = .ok (.invokevirtual 102, 3) := by decide +kernel
theorem dX10_lay_120 : decode cX10_lay 120 = .ok (.aload_n 0, 1) := by decide +kernel
theorem dX10_lay_121 : decode cX10_lay 121 = .ok (.iload_n 1, 1) := by decide +kernel
theorem dX10_lay_122 : decode cX10_lay 122 = .ok (.bipush 26, 2) := by decide +kernel
theorem dX10_lay_124 : decode cX10_lay 124 = .ok (.iload_n 2, 1) := by decide +kernel
theorem dX10_lay_125 : decode cX10_lay 125 = .ok (.invokevirtual 102, 3) := by decide +kernel
theorem dX10_lay_128 : decode cX10_lay 128 = .ok (.aload_n 0, 1) := by decide +kernel
theorem dX10_lay_129 : decode cX10_lay 129 = .ok (.iload_n 1, 1) := by decide +kernel
theorem dX10_lay_130 : decode cX10_lay 130 = .ok (.bipush 27, 2) := by decide +kernel
theorem dX10_lay_132 : decode cX10_lay 132 = .ok (.iload_n 3, 1) := by decide +kernel
theorem dX10_lay_133 : decode cX10_lay 133 = .ok (.invokevirtual 102, 3) := by decide +kernel
theorem dX10_lay_136 : decode cX10_lay 136 = .ok (.aload_n 0, 1) := by decide +kernel
theorem dX10_lay_137 : decode cX10_lay 137 = .ok (.iload_n 1, 1) := by decide +kernel
theorem dX10_lay_138 : decode cX10_lay 138 = .ok (.bipush 28, 2) := by decide +kernel
theorem dX10_lay_140 : decode cX10_lay 140 = .ok (.iload 4, 2) := by decide +kernel
theorem dX10_lay_142 : decode cX10_lay 142 = .ok (.invokevirtual 102, 3) := by decide +kernel
theorem dX10_lay_145 : decode cX10_lay 145 = .ok (.aload_n 0, 1) := by decide +kernel
theorem dX10_lay_146 : decode cX10_lay 146 = .ok (.iload_n 1, 1) := by decide +kernel
theorem dX10_lay_147 : decode cX10_lay 147 = .ok (.bipush 29, 2) := by decide +kernel
theorem dX10_lay_149 : decode cX10_lay 149 = .ok (.iload 5, 2) := by decide +kernel
theorem dX10_lay_151 : decode cX10_lay 151 = .ok (.invokevirtual 102, 3) := by decide +kernel
theorem dX10_lay_154 : decode cX10_lay 154 = .ok (.aload_n 0, 1) := by decide +kernel
theorem dX10_lay_155 : decode cX10_lay 155 = .ok (.getfield 39, 3) := by decide +kernel
theorem dX10_lay_158 : decode cX10_lay 158 = .ok (.aload_n 0, 1) := by decide +kernel
theorem dX10_lay_159 : decode cX10_lay 159 = .ok (.getfield 221, 3) := by decide +kernel
theorem dX10_lay_162 : decode cX10_lay 162 = .ok (.iload_n 1, 1) := by decide +kernel
theorem dX10_lay_163 : decode cX10_lay 163 = .ok (.iastore, 1) := by decide +kernel
theorem dX10_lay_164 : decode cX10_lay 164 = .ok (.aload_n 0, 1) := by decide +kernel
theorem dX10_lay_165 : decode cX10_lay 165 = .ok (.getfield 42, 3) := by decide +kernel
theorem dX10_lay_168 : decode cX10_lay 168 = .ok (.iload_n 1, 1) := by decide +kernel
theorem dX10_lay_169 : decode cX10_lay 169 = .ok (.iconst 0, 1) := by decide +kernel
theorem dX10_lay_170 : decode cX10_lay 170 = .ok (.iastore, 1) := by decide +kernel
theorem dX10_lay_171 : decode cX10_lay 171 = .ok (.aload_n 0, 1) := by decide +kernel
theorem dX10_lay_172 : decode cX10_lay 172 = .ok (.dup, 1) := by decide +kernel
theorem dX10_lay_173 : decode cX10_lay 173 = .ok (.getfield 221, 3) := by decide +kernel
theorem dX10_lay_176 : decode cX10_lay 176 = .ok (.iconst 1, 1) := by decide +kernel
theorem dX10_lay_177 : decode cX10_lay 177 = .ok (.iadd, 1) := by decide +kernel
theorem dX10_lay_178 : decode cX10_lay 178 = .ok (.putfield 221, 3) := by decide +kernel
theorem dX10_lay_181 : decode cX10_lay 181 = .ok (.return_, 1) := by decide +kernel
theorem dX10_low_0 : decode cX10_low 0 = .ok (.aload_n 0, 1) := by decide +kernel
theorem dX10_low_1 : decode cX10_low 1 = .ok (.iload_n 1, 1) := by decide +kernel
theorem dX10_low_2 : decode cX10_low 2 = .ok (.bipush 26, 2) := by decide +kernel
theorem dX10_low_4 : decode cX10_low 4 = .ok (.iconst 2, 1) := by decide +kernel
theorem dX10_low_5 : decode cX10_low 5 = .ok (.iload_n 2, 1) := by decide +kernel
theorem dX10_low_6 : decode cX10_low 6 = .ok (.imul, 1) := by decide +kernel
theorem dX10_low_7 : decode cX10_low 7 = .ok (.iadd, 1) := by decide +kernel
theorem dX10_low_8 : decode cX10_low 8 = .ok (.invokevirtual 91, 3) := by decide +kernel
theorem dX10_low_11 : decode cX10_low 11 = .ok (.ireturn, 1) := by decide +kernel
theorem dX10_most_0 : decode cX10_most 0 = .ok (.aload_n 0, 1) := by decide +kernel
theorem dX10_most_1 : decode cX10_most 1 = .ok (.iload_n 1, 1) := by decide +kernel
theorem dX10_most_2 : decode cX10_most 2 = .ok (.bipush 26, 2) := by decide +kernel
theorem dX10_most_4 : decode cX10_most 4 = .ok (.iconst 2, 1) := by decide +kernel
theorem dX10_most_5 : decode cX10_most 5 = .ok (.iload_n 2, 1) := by decide +kernel
theorem dX10_most_6 : decode cX10_most 6 = .ok (.imul, 1) := by decide +kernel
theorem dX10_most_7 : decode cX10_most 7 = .ok (.iadd, 1) := by decide +kernel
theorem dX10_most_8 : decode cX10_most 8 = .ok (.iconst 1, 1) := by decide +kernel
theorem dX10_most_9 : decode cX10_most 9 = .ok (.iadd, 1) := by decide +kernel
theorem dX10_most_10 : decode cX10_most 10 = .ok (.invokevirtual 91, 3) := by decide +kernel
theorem dX10_most_13 : decode cX10_most 13 = .ok (.ireturn, 1) := by decide +kernel
theorem dX10_ends_0 : decode cX10_ends 0 = .ok (.aload_n 0, 1) := by decide +kernel
theorem dX10_ends_1 : decode cX10_ends 1 = .ok (.iload_n 1, 1) := by decide +kernel
theorem dX10_ends_2 : decode cX10_ends 2 = .ok (.bipush 32, 2) := by decide +kernel
theorem dX10_ends_4 : decode cX10_ends 4 = .ok (.iload_n 2, 1) := by decide +kernel
theorem dX10_ends_5 : decode cX10_ends 5 = .ok (.aload_n 0, 1) := by decide +kernel
theorem dX10_ends_6 : decode cX10_ends 6 = .ok (.iload_n 1, 1) := by decide +kernel
theorem dX10_ends_7 : decode cX10_ends 7 = .ok (.iconst 0, 1) := by decide +kernel
theorem dX10_ends_8 : decode cX10_ends 8 = .ok (.invokevirtual 224, 3) := by decide +kernel
theorem dX10_ends_11 : decode cX10_ends 11 = .ok (.aload_n 0, 1) := by decide +kernel
theorem dX10_ends_12 : decode cX10_ends 12 = .ok (.iload_n 1, 1) := by decide +kernel
theorem dX10_ends_13 : decode cX10_ends 13 = .ok (.iconst 0, 1) := by decide +kernel
theorem dX10_ends_14 : decode cX10_ends 14 = .ok (.invokevirtual 227, 3) := by decide +kernel
theorem dX10_ends_17 : decode cX10_ends 17 = .ok (.invokestatic 184, 3) := by decide +kernel
theorem dX10_ends_20 : decode cX10_ends 20 = .ok (.invokevirtual 102, 3) := by decide +kernel
theorem dX10_ends_23 : decode cX10_ends 23 = .ok (.aload_n 0, 1) := by decide +kernel
theorem dX10_ends_24 : decode cX10_ends 24 = .ok (.iload_n 1, 1) := by decide +kernel
theorem dX10_ends_25 : decode cX10_ends 25 = .ok (.bipush 33, 2) := by decide +kernel
theorem dX10_ends_27 : decode cX10_ends 27 = .ok (.iload_n 3, 1) := by decide +kernel
theorem dX10_ends_28 : decode cX10_ends 28 = .ok (.aload_n 0, 1) := by decide +kernel
theorem dX10_ends_29 : decode cX10_ends 29 = .ok (.iload_n 1, 1) := by decide +kernel
theorem dX10_ends_30 : decode cX10_ends 30 = .ok (.iconst 1, 1) := by decide +kernel
theorem dX10_ends_31 : decode cX10_ends 31 = .ok (.invokevirtual 224, 3) := by decide +kernel
theorem dX10_ends_34 : decode cX10_ends 34 = .ok (.aload_n 0, 1) := by decide +kernel
theorem dX10_ends_35 : decode cX10_ends 35 = .ok (.iload_n 1, 1) := by decide +kernel
theorem dX10_ends_36 : decode cX10_ends 36 = .ok (.iconst 1, 1) := by decide +kernel
theorem dX10_ends_37 : decode cX10_ends 37 = .ok (.invokevirtual 227, 3) := by decide +kernel
theorem dX10_ends_40 : decode cX10_ends 40 = .ok (.invokestatic 184, 3) := by decide +kernel
theorem dX10_ends_43 : decode cX10_ends 43 = .ok (.invokevirtual 102, 3) := by decide +kernel
theorem dX10_ends_46 : decode cX10_ends 46 = .ok (.aload_n 0, 1) := by decide +kernel
theorem dX10_ends_47 : decode cX10_ends 47 = .ok (.iload_n 1, 1) := by decide +kernel
theorem dX10_ends_48 : decode cX10_ends 48 = .ok (.bipush 34, 2) := by decide +kernel
theorem dX10_ends_50 : decode cX10_ends 50 = .ok (.iconst 0, 1) := by decide +kernel
theorem dX10_ends_51 : decode cX10_ends 51 = .ok (.invokevirtual 102, 3) := by decide +kernel
theorem dX10_ends_54 : decode cX10_ends 54 = .ok (.aload_n 0, 1) := by decide +kernel
theorem dX10_ends_55 : decode cX10_ends 55 = .ok (.iload_n 1, 1) := by decide +kernel
theorem dX10_ends_56 : decode cX10_ends 56 = .ok (.bipush 35, 2) := by decide +kernel
theorem dX10_ends_58 : decode cX10_ends 58 = .ok (.iconst 0, 1) := by decide +kernel
theorem dX10_ends_59 : decode cX10_ends 59 = .ok (.invokevirtual 102, 3) := by decide +kernel
theorem dX10_ends_62 : decode cX10_ends 62 = .ok (.aload_n 0, 1) := by decide +kernel
theorem dX10_ends_63 : decode cX10_ends 63 = .ok (.iload_n 1, 1) := by decide +kernel
theorem dX10_ends_64 : decode cX10_ends 64 = .ok (.bipush 36, 2) := by decide +kernel
theorem dX10_ends_66 : decode cX10_ends 66 = .ok (.iconst 0, 1) := by decide +kernel
theorem dX10_ends_67 : decode cX10_ends 67 = .ok (.invokevirtual 102, 3) := by decide +kernel
theorem dX10_ends_70 : decode cX10_ends 70 = .ok (.aload_n 0, 1) := by decide +kernel
theorem dX10_ends_71 : decode cX10_ends 71 = .ok (.iload_n 1, 1) := by decide +kernel
theorem dX10_ends_72 : decode cX10_ends 72 = .ok (.bipush 19, 2) := by decide +kernel
theorem dX10_ends_74 : decode cX10_ends 74 = .ok (.iconst 0, 1) := by decide +kernel
theorem dX10_ends_75 : decode cX10_ends 75 = .ok (.invokevirtual 102, 3) := by decide +kernel
theorem dX10_ends_78 : decode cX10_ends 78 = .ok (.aload_n 0, 1) := by decide +kernel
theorem dX10_ends_79 : decode cX10_ends 79 = .ok (.iload_n 1, 1) := by decide +kernel
theorem dX10_ends_80 : decode cX10_ends 80 = .ok (.bipush 24, 2) := by decide +kernel
theorem dX10_ends_82 : decode cX10_ends 82 = .ok (.iconst 0, 1) := by decide +kernel
theorem dX10_ends_83 : decode cX10_ends 83 = .ok (.invokevirtual 102, 3) := by decide +kernel
theorem dX10_ends_86 : decode cX10_ends 86 = .ok (.aload_n 0, 1) := by decide +kernel
theorem dX10_ends_87 : decode cX10_ends 87 = .ok (.dup, 1) := by decide +kernel
theorem dX10_ends_88 : decode cX10_ends 88 = .ok (.getfield 221, 3) := by decide +kernel
theorem dX10_ends_91 : decode cX10_ends 91 = .ok (.iconst 1, 1) := by decide +kernel
theorem dX10_ends_92 : decode cX10_ends 92 = .ok (.isub, 1) := by decide +kernel
theorem dX10_ends_93 : decode cX10_ends 93 = .ok (.putfield 221, 3) := by decide +kernel
theorem dX10_ends_96 : decode cX10_ends 96 = .ok (.return_, 1) := by decide +kernel
theorem dX10_sets_0 : decode cX10_sets 0 = .ok (.aload_n 0, 1) := by decide +kernel
theorem dX10_sets_1 : decode cX10_sets 1 = .ok (.iload_n 1, 1) := by decide +kernel
theorem dX10_sets_2 : decode cX10_sets 2 = .ok (.bipush 30, 2) := by decide +kernel
theorem dX10_sets_4 : decode cX10_sets 4 = .ok (.iload_n 2, 1) := by decide +kernel
theorem dX10_sets_5 : decode cX10_sets 5 = .ok (.invokevirtual 102, 3) := by decide +kernel
theorem dX10_sets_8 : decode cX10_sets 8 = .ok (.aload_n 0, 1) := by decide +kernel
theorem dX10_sets_9 : decode cX10_sets 9 = .ok (.iload_n 1, 1) := by decide +kernel
theorem dX10_sets_10 : decode cX10_sets 10 = .ok (.bipush 31, 2) := by decide +kernel
theorem dX10_sets_12 : decode cX10_sets 12 = .ok (.iload_n 3, 1) := by decide +kernel
theorem dX10_sets_13 : decode cX10_sets 13 = .ok (.invokevirtual 102, 3) := by decide +kernel
theorem dX10_sets_16 : decode cX10_sets 16 = .ok (.return_, 1) := by decide +kernel
theorem dX10_sizeOf_0 : decode cX10_sizeOf 0 = .ok (.aload_n 0, 1) := by decide +kernel
theorem dX10_sizeOf_1 : decode cX10_sizeOf 1 = .ok (.iload_n 1, 1) := by decide +kernel
theorem dX10_sizeOf_2 : decode cX10_sizeOf 2 = .ok (.bipush 32, 2) := by decide +kernel
theorem dX10_sizeOf_4 : decode cX10_sizeOf 4 = .ok (.iload_n 2, 1) := by decide +kernel
theorem dX10_sizeOf_5 : decode cX10_sizeOf 5 = .ok (.iadd, 1) := by decide +kernel
theorem dX10_sizeOf_6 : decode cX10_sizeOf 6 = .ok (.invokevirtual 91, 3) := by decide +kernel
theorem dX10_sizeOf_9 : decode cX10_sizeOf 9 = .ok (.ireturn, 1) := by decide +kernel
theorem dX10_layText_0 : decode cX10_layText 0 = .ok (.aload_n 0, 1) := by decide +kernel
theorem dX10_layText_1 : decode cX10_layText 1 = .ok (.iload_n 1, 1) := by decide +kernel
theorem dX10_layText_2 : decode cX10_layText 2 = .ok (.iconst 2, 1) := by decide +kernel
theorem dX10_layText_3 : decode cX10_layText 3 = .ok (.invokevirtual 91, 3) := by decide +kernel
theorem dX10_layText_6 : decode cX10_layText 6 = .ok (.istore_n 2, 1) := by decide +kernel
theorem dX10_layText_7 : decode cX10_layText 7 = .ok (.iconst 0, 1) := by decide +kernel
theorem dX10_layText_8 : decode cX10_layText 8 = .ok (.istore_n 3, 1) := by decide +kernel
theorem dX10_layText_9 : decode cX10_layText 9 = .ok (.iconst 0, 1) := by decide +kernel
theorem dX10_layText_10 : decode cX10_layText 10 = .ok (.istore 4, 2) := by decide +kernel
theorem dX10_layText_12 : decode cX10_layText 12 = .ok (.iconst 0, 1) := by decide +kernel
theorem dX10_layText_13 : decode cX10_layText 13 = .ok (.istore 5, 2) := by decide +kernel
theorem dX10_layText_15 : decode cX10_layText 15 = .ok (.iconst 0, 1) := by decide +kernel
theorem dX10_layText_16 : decode cX10_layText 16 = .ok (.istore 6, 2) := by decide +kernel
theorem dX10_layText_18 : decode cX10_layText 18 = .ok (.iload 6, 2) := by decide +kernel
theorem dX10_layText_20 : decode cX10_layText 20 = .ok (.iload_n 2, 1) := by decide +kernel
theorem dX10_layText_21 : decode cX10_layText 21 = .ok (.if_icmp .ge 97, 3) := by decide +kernel
theorem dX10_layText_24 : decode cX10_layText 24 = .ok (.aload_n 0, 1) := by decide +kernel
theorem dX10_layText_25 : decode cX10_layText 25 = .ok (.iload_n 1, 1) := by decide +kernel
theorem dX10_layText_26 : decode cX10_layText 26 = .ok (.iconst 3, 1) := by decide +kernel
theorem dX10_layText_27 : decode cX10_layText 27 = .ok (.invokevirtual 91, 3) := by decide +kernel
theorem dX10_layText_30 : decode cX10_layText 30 = .ok (.iload 6, 2) := by decide +kernel
theorem dX10_layText_32 : decode cX10_layText 32 = .ok (.invokestatic 174, 3) := by decide +kernel
theorem dX10_layText_35 : decode cX10_layText 35 = .ok (.istore 7, 2) := by decide +kernel
theorem dX10_layText_37 : decode cX10_layText 37 = .ok (.iload_n 3, 1) := by decide +kernel
theorem dX10_layText_38 : decode cX10_layText 38 = .ok (.ifCond .le 23, 3) := by decide +kernel
theorem dX10_layText_41 : decode cX10_layText 41 = .ok (.iload 4, 2) := by decide +kernel
theorem dX10_layText_43 : decode cX10_layText 43 = .ok (.iconst 1, 1) := by decide +kernel
theorem dX10_layText_44 : decode cX10_layText 44 = .ok (.iadd, 1) := by decide +kernel
theorem dX10_layText_45 : decode cX10_layText 45 = .ok (.iload 7, 2) := by decide +kernel
theorem dX10_layText_47 : decode cX10_layText 47 = .ok (.iadd, 1) := by decide +kernel
theorem dX10_layText_48 : decode cX10_layText 48 = .ok (.aload_n 0, 1) := by decide +kernel
theorem dX10_layText_49 : decode cX10_layText 49 = .ok (.iload_n 1, 1) := by decide +kernel
theorem dX10_layText_50 : decode cX10_layText 50 = .ok (.iconst 0, 1) := by decide +kernel
theorem dX10_layText_51 : decode cX10_layText 51 = .ok (.invokevirtual 227, 3) := by decide +kernel
theorem dX10_layText_54 : decode cX10_layText 54 = .ok (.if_icmp .gt 7, 3) := by decide +kernel
theorem dX10_layText_57 : decode cX10_layText 57 = .ok (.iconst 1, 1) := by decide +kernel
theorem dX10_layText_58 : decode cX10_layText 58 = .ok (.goto 4, 3) := by decide +kernel
theorem dX10_layText_61 : decode cX10_layText 61 = .ok (.iconst 0, 1) := by decide +kernel
theorem dX10_layText_62 : decode cX10_layText 62 = .ok (.istore 8, 2) := by decide +kernel
theorem dX10_layText_64 : decode cX10_layText 64 = .ok (.iload 8, 2) := by decide +kernel
theorem dX10_layText_66 : decode cX10_layText 66 = .ok (.ifCond .eq 13, 3) := by decide +kernel
theorem dX10_layText_69 : decode cX10_layText 69 = .ok (.iload 4, 2) := by decide +kernel
theorem dX10_layText_71 : decode cX10_layText 71 = .ok (.iconst 1, 1) := by decide +kernel
theorem dX10_layText_72 : decode cX10_layText 72 = .ok (.iadd, 1) := by decide +kernel
theorem dX10_layText_73 : decode cX10_layText 73 = .ok (.iload 7, 2) := by decide +kernel
theorem dX10_layText_75 : decode cX10_layText 75 = .ok (.iadd, 1) := by decide +kernel
theorem dX10_layText_76 : decode cX10_layText 76 = .ok (.goto 5, 3) := by decide +kernel
theorem dX10_layText_79 : decode cX10_layText 79 = .ok (.iload 7, 2) := by decide +kernel
theorem dX10_layText_81 : decode cX10_layText 81 = .ok (.istore 4, 2) := by decide +kernel
theorem dX10_layText_83 : decode cX10_layText 83 = .ok (.iload_n 3, 1) := by decide +kernel
theorem dX10_layText_84 : decode cX10_layText 84 = .ok (.iload 8, 2) := by decide +kernel
theorem dX10_layText_86 : decode cX10_layText 86 = .ok (.ifCond .eq 7, 3) := by decide +kernel
theorem dX10_layText_89 : decode cX10_layText 89 = .ok (.iconst 0, 1) := by decide +kernel
theorem dX10_layText_90 : decode cX10_layText 90 = .ok (.goto 4, 3) := by decide +kernel
theorem dX10_layText_93 : decode cX10_layText 93 = .ok (.iconst 1, 1) := by decide +kernel
theorem dX10_layText_94 : decode cX10_layText 94 = .ok (.iadd, 1) := by decide +kernel
theorem dX10_layText_95 : decode cX10_layText 95 = .ok (.istore_n 3, 1) := by decide +kernel
theorem dX10_layText_96 : decode cX10_layText 96 = .ok (.iload 4, 2) := by decide +kernel
theorem dX10_layText_98 : decode cX10_layText 98 = .ok (.iload 5, 2) := by decide +kernel
theorem dX10_layText_100 : decode cX10_layText 100 = .ok (.if_icmp .le 8, 3) := by decide +kernel
theorem dX10_layText_103 : decode cX10_layText 103 = .ok (.iload 4, 2) := by decide +kernel
theorem dX10_layText_105 : decode cX10_layText 105 = .ok (.goto 5, 3) := by decide +kernel
theorem dX10_layText_108 : decode cX10_layText 108 = .ok (.iload 5, 2) := by decide +kernel
theorem dX10_layText_110 : decode cX10_layText 110 = .ok (.istore 5, 2) := by decide +kernel
theorem dX10_layText_112 : decode cX10_layText 112 = .ok (.iinc 6 1, 3) := by decide +kernel
theorem dX10_layText_115 : decode cX10_layText 115 = .ok (.goto (-97), 3) := by decide +kernel
theorem dX10_layText_118 : decode cX10_layText 118 = .ok (.aload_n 0, 1) := by decide +kernel
theorem dX10_layText_119 : decode cX10_layText 119 = .ok (.iload_n 1, 1) := by decide +kernel
theorem dX10_layText_120 : decode cX10_layText 120 = .ok (.iload 5, 2) := by decide +kernel
theorem dX10_layText_122 : decode cX10_layText 122 = .ok (.iconst 2, 1) := by decide +kernel
theorem dX10_layText_123 : decode cX10_layText 123 = .ok (.iload_n 3, 1) := by decide +kernel
theorem dX10_layText_124 : decode cX10_layText 124 = .ok (.imul, 1) := by decide +kernel
theorem dX10_layText_125 : decode cX10_layText 125 = .ok (.invokevirtual 230, 3) := by decide +kernel
theorem dX10_layText_128 : decode cX10_layText 128 = .ok (.aload_n 0, 1) := by decide +kernel
theorem dX10_layText_129 : decode cX10_layText 129 = .ok (.iload_n 1, 1) := by decide +kernel
theorem dX10_layText_130 : decode cX10_layText 130 = .ok (.bipush 36, 2) := by decide +kernel
theorem dX10_layText_132 : decode cX10_layText 132 = .ok (.iload_n 2, 1) := by decide +kernel
theorem dX10_layText_133 : decode cX10_layText 133 = .ok (.ifCond .le 7, 3) := by decide +kernel
theorem dX10_layText_136 : decode cX10_layText 136 = .ok (.iconst 1, 1) := by decide +kernel
theorem dX10_layText_137 : decode cX10_layText 137 = .ok (.goto 4, 3) := by decide +kernel
theorem dX10_layText_140 : decode cX10_layText 140 = .ok (.iconst 2, 1) := by decide +kernel
theorem dX10_layText_141 : decode cX10_layText 141 = .ok (.invokevirtual 102, 3) := by decide +kernel
theorem dX10_layText_144 : decode cX10_layText 144 = .ok (.aload_n 0, 1) := by decide +kernel
theorem dX10_layText_145 : decode cX10_layText 145 = .ok (.iload_n 1, 1) := by decide +kernel
theorem dX10_layText_146 : decode cX10_layText 146 = .ok (.bipush 37, 2) := by decide +kernel
theorem dX10_layText_148 : decode cX10_layText 148 = .ok (.iconst 1, 1) := by decide +kernel
theorem dX10_layText_149 : decode cX10_layText 149 = .ok (.invokevirtual 102, 3) := by decide +kernel
theorem dX10_layText_152 : decode cX10_layText 152 = .ok (.return_, 1) := by decide +kernel
theorem dX10_layPad_0 : decode cX10_layPad 0 = .ok (.aload_n 0, 1) := by decide +kernel
theorem dX10_layPad_1 : decode cX10_layPad 1 = .ok (.iload_n 1, 1) := by decide +kernel
theorem dX10_layPad_2 : decode cX10_layPad 2 = .ok (.iconst 2, 1) := by decide +kernel
theorem dX10_layPad_3 : decode cX10_layPad 3 = .ok (.invokevirtual 91, 3) := by decide +kernel
theorem dX10_layPad_6 : decode cX10_layPad 6 = .ok (.istore_n 3, 1) := by decide +kernel
theorem dX10_layPad_7 : decode cX10_layPad 7 = .ok (.aload_n 0, 1) := by decide +kernel
theorem dX10_layPad_8 : decode cX10_layPad 8 = .ok (.iload_n 1, 1) := by decide +kernel
theorem dX10_layPad_9 : decode cX10_layPad 9 = .ok (.iconst 3, 1) := by decide +kernel
theorem dX10_layPad_10 : decode cX10_layPad 10 = .ok (.invokevirtual 91, 3) := by decide +kernel
theorem dX10_layPad_13 : decode cX10_layPad 13 = .ok (.istore 4, 2) := by decide +kernel
theorem dX10_layPad_15 : decode cX10_layPad 15 = .ok (.iload_n 2, 1) := by decide +kernel
theorem dX10_layPad_16 : decode cX10_layPad 16 = .ok (.ifCond .lt 75, 3) := by decide +kernel
theorem dX10_layPad_19 : decode cX10_layPad 19 = .ok (.aload_n 0, 1) := by decide +kernel
theorem dX10_layPad_20 : decode cX10_layPad 20 = .ok (.getfield 42, 3) := by decide +kernel
theorem dX10_layPad_23 : decode cX10_layPad 23 = .ok (.iload_n 1, 1) := by decide +kernel
theorem dX10_layPad_24 : decode cX10_layPad 24 = .ok (.iaload, 1) := by decide +kernel
theorem dX10_layPad_25 : decode cX10_layPad 25 = .ok (.ifCond .ne 66, 3) := by decide +kernel
theorem dX10_layPad_28 : decode cX10_layPad 28 = .ok (.aload_n 0, 1) := by decide +kernel
theorem dX10_layPad_29 : decode cX10_layPad 29 = .ok (.getfield 42, 3) := by decide +kernel
theorem dX10_layPad_32 : decode cX10_layPad 32 = .ok (.iload_n 1, 1) := by decide +kernel
theorem dX10_layPad_33 : decode cX10_layPad 33 = .ok (.iconst 1, 1) := by decide +kernel
theorem dX10_layPad_34 : decode cX10_layPad 34 = .ok (.iastore, 1) := by decide +kernel
theorem dX10_layPad_35 : decode cX10_layPad 35 = .ok (.aload_n 0, 1) := by decide +kernel
theorem dX10_layPad_36 : decode cX10_layPad 36 = .ok (.iload_n 2, 1) := by decide +kernel
theorem dX10_layPad_37 : decode cX10_layPad 37 = .ok (.aload_n 0, 1) := by decide +kernel
theorem dX10_layPad_38 : decode cX10_layPad 38 = .ok (.iload_n 1, 1) := by decide +kernel
theorem dX10_layPad_39 : decode cX10_layPad 39 = .ok (.iconst 0, 1) := by decide +kernel
theorem dX10_layPad_40 : decode cX10_layPad 40 = .ok (.invokevirtual 224, 3) := by decide +kernel
theorem dX10_layPad_43 : decode cX10_layPad 43 = .ok (.iconst 2, 1) := by decide +kernel
theorem dX10_layPad_44 : decode cX10_layPad 44 = .ok (.iload_n 3, 1) := by decide +kernel
theorem dX10_layPad_45 : decode cX10_layPad 45 = .ok (.imul, 1) := by decide +kernel
theorem dX10_layPad_46 : decode cX10_layPad 46 = .ok (.invokestatic 233, 3) := by decide +kernel
theorem dX10_layPad_49 : decode cX10_layPad 49 = .ok (.aload_n 0, 1) := by decide +kernel
theorem dX10_layPad_50 : decode cX10_layPad 50 = .ok (.iload_n 1, 1) := by decide +kernel
theorem dX10_layPad_51 : decode cX10_layPad 51 = .ok (.iconst 0, 1) := by decide +kernel
theorem dX10_layPad_52 : decode cX10_layPad 52 = .ok (.invokevirtual 227, 3) := by decide +kernel
theorem dX10_layPad_55 : decode cX10_layPad 55 = .ok (.iconst 2, 1) := by decide +kernel
theorem dX10_layPad_56 : decode cX10_layPad 56 = .ok (.iload_n 3, 1) := by decide +kernel
theorem dX10_layPad_57 : decode cX10_layPad 57 = .ok (.imul, 1) := by decide +kernel
theorem dX10_layPad_58 : decode cX10_layPad 58 = .ok (.invokestatic 233, 3) := by decide +kernel
theorem dX10_layPad_61 : decode cX10_layPad 61 = .ok (.aload_n 0, 1) := by decide +kernel
theorem dX10_layPad_62 : decode cX10_layPad 62 = .ok (.iload_n 1, 1) := by decide +kernel
theorem dX10_layPad_63 : decode cX10_layPad 63 = .ok (.iconst 1, 1) := by decide +kernel
theorem dX10_layPad_64 : decode cX10_layPad 64 = .ok (.invokevirtual 224, 3) := by decide +kernel
theorem dX10_layPad_67 : decode cX10_layPad 67 = .ok (.iconst 2, 1) := by decide +kernel
theorem dX10_layPad_68 : decode cX10_layPad 68 = .ok (.iload 4, 2) := by decide +kernel
theorem dX10_layPad_70 : decode cX10_layPad 70 = .ok (.imul, 1) := by decide +kernel
theorem dX10_layPad_71 : decode cX10_layPad 71 = .ok (.invokestatic 233, 3) := by decide +kernel
theorem dX10_layPad_74 : decode cX10_layPad 74 = .ok (.aload_n 0, 1) := by decide +kernel
theorem dX10_layPad_75 : decode cX10_layPad 75 = .ok (.iload_n 1, 1) := by decide +kernel
theorem dX10_layPad_76 : decode cX10_layPad 76 = .ok (.iconst 1, 1) := by decide +kernel
theorem dX10_layPad_77 : decode cX10_layPad 77 = .ok (.invokevirtual 227, 3) := by decide +kernel
theorem dX10_layPad_80 : decode cX10_layPad 80 = .ok (.iconst 2, 1) := by decide +kernel
theorem dX10_layPad_81 : decode cX10_layPad 81 = .ok (.iload 4, 2) := by decide +kernel
theorem dX10_layPad_83 : decode cX10_layPad 83 = .ok (.imul, 1) := by decide +kernel
theorem dX10_layPad_84 : decode cX10_layPad 84 = .ok (.invokestatic 233, 3) := by decide +kernel
theorem dX10_layPad_87 : decode cX10_layPad 87 = .ok (.invokevirtual 236, 3) := by decide +kernel
theorem dX10_layPad_90 : decode cX10_layPad 90 = .ok (.return_, 1) := by decide +kernel
theorem dX10_layPad_91 : decode cX10_layPad 91 = .ok (.iload_n 2, 1) := by decide +kernel
theorem dX10_layPad_92 : decode cX10_layPad 92 = .ok (.ifCond .lt 11, 3) := by decide +kernel
theorem dX10_layPad_95 : decode cX10_layPad 95 = .ok (.aload_n 0, 1) := by decide +kernel
theorem dX10_layPad_96 : decode cX10_layPad 96 = .ok (.iload_n 2, 1) := by decide +kernel
theorem dX10_layPad_97 : decode cX10_layPad 97 = .ok (.iload_n 3, 1) := by decide +kernel
theorem dX10_layPad_98 : decode cX10_layPad 98 = .ok (.iload 4, 2) := by decide +kernel
theorem dX10_layPad_100 : decode cX10_layPad 100 = .ok (.invokevirtual 240, 3) := by decide +kernel
theorem dX10_layPad_103 : decode cX10_layPad 103 = .ok (.aload_n 0, 1) := by decide +kernel
theorem dX10_layPad_104 : decode cX10_layPad 104 = .ok (.iload_n 1, 1) := by decide +kernel
theorem dX10_layPad_105 : decode cX10_layPad 105 = .ok (.iload_n 2, 1) := by decide +kernel
theorem dX10_layPad_106 : decode cX10_layPad 106 = .ok (.ifCond .ge 7, 3) := by decide +kernel
theorem dX10_layPad_109 : decode cX10_layPad 109 = .ok (.iconst 0, 1) := by decide +kernel
theorem dX10_layPad_110 : decode cX10_layPad 110 = .ok (.goto 9, 3) := by decide +kernel
theorem dX10_layPad_113 : decode cX10_layPad 113 = .ok (.aload_n 0, 1) := by decide +kernel
theorem dX10_layPad_114 : decode cX10_layPad 114 = .ok (.iload_n 2, 1) := by decide +kernel
theorem dX10_layPad_115 : decode cX10_layPad 115 = .ok (.iconst 0, 1) := by decide +kernel
theorem dX10_layPad_116 : decode cX10_layPad 116 = .ok (.invokevirtual 243, 3) := by decide +kernel
theorem dX10_layPad_119 : decode cX10_layPad 119 = .ok (.iconst 2, 1) := by decide +kernel
theorem dX10_layPad_120 : decode cX10_layPad 120 = .ok (.iload_n 3, 1) := by decide +kernel
theorem dX10_layPad_121 : decode cX10_layPad 121 = .ok (.imul, 1) := by decide +kernel
theorem dX10_layPad_122 : decode cX10_layPad 122 = .ok (.iadd, 1) := by decide +kernel
theorem dX10_layPad_123 : decode cX10_layPad 123 = .ok (.iload_n 2, 1) := by decide +kernel
theorem dX10_layPad_124 : decode cX10_layPad 124 = .ok (.ifCond .ge 7, 3) := by decide +kernel
theorem dX10_layPad_127 : decode cX10_layPad 127 = .ok (.iconst 0, 1) := by decide +kernel
theorem dX10_layPad_128 : decode cX10_layPad 128 = .ok (.goto 9, 3) := by decide +kernel
theorem dX10_layPad_131 : decode cX10_layPad 131 = .ok (.aload_n 0, 1) := by decide +kernel
theorem dX10_layPad_132 : decode cX10_layPad 132 = .ok (.iload_n 2, 1) := by decide +kernel
theorem dX10_layPad_133 : decode cX10_layPad 133 = .ok (.iconst 1, 1) := by decide +kernel
theorem dX10_layPad_134 : decode cX10_layPad 134 = .ok (.invokevirtual 243, 3) := by decide +kernel
theorem dX10_layPad_137 : decode cX10_layPad 137 = .ok (.iconst 2, 1) := by decide +kernel
theorem dX10_layPad_138 : decode cX10_layPad 138 = .ok (.iload 4, 2) := by decide +kernel
theorem dX10_layPad_140 : decode cX10_layPad 140 = .ok (.imul, 1) := by decide +kernel
theorem dX10_layPad_141 : decode cX10_layPad 141 = .ok (.iadd, 1) := by decide +kernel
theorem dX10_layPad_142 : decode cX10_layPad 142 = .ok (.invokevirtual 230, 3) := by decide +kernel
theorem dX10_layPad_145 : decode cX10_layPad 145 = .ok (.return_, 1) := by decide +kernel
theorem dX10_limited_0 : decode cX10_limited 0 = .ok (.aload_n 0, 1) := by decide +kernel
theorem dX10_limited_1 : decode cX10_limited 1 = .ok (.iload_n 1, 1) := by decide +kernel
theorem dX10_limited_2 : decode cX10_limited 2 = .ok (.iconst 2, 1) := by decide +kernel
theorem dX10_limited_3 : decode cX10_limited 3 = .ok (.iload_n 2, 1) := by decide +kernel
theorem dX10_limited_4 : decode cX10_limited 4 = .ok (.iadd, 1) := by decide +kernel
theorem dX10_limited_5 : decode cX10_limited 5 = .ok (.invokevirtual 91, 3) := by decide +kernel
theorem dX10_limited_8 : decode cX10_limited 8 = .ok (.istore 4, 2) := by decide +kernel
theorem dX10_limited_10 : decode cX10_limited 10 = .ok (.iload_n 2, 1) := by decide +kernel
theorem dX10_limited_11 : decode cX10_limited 11 = .ok (.iconst 2, 1) := by decide +kernel
theorem dX10_limited_12 : decode cX10_limited 12 = .ok (.irem, 1) := by decide +kernel
theorem dX10_limited_13 : decode cX10_limited 13 = .ok (.iconst 1, 1) := by decide +kernel
theorem dX10_limited_14 : decode cX10_limited 14 = .ok (.if_icmp .ne 11, 3) := by decide +kernel
theorem dX10_limited_17 : decode cX10_limited 17 = .ok (.iload 4, 2) := by decide +kernel
theorem dX10_limited_19 : decode cX10_limited 19 = .ok (.invokestatic 181, 3) := by decide +kernel
theorem dX10_limited_22 : decode cX10_limited 22 = .ok (.goto 5, 3) := by decide +kernel
theorem dX10_limited_25 : decode cX10_limited 25 = .ok (.iload 4, 2) := by decide +kernel
theorem dX10_limited_27 : decode cX10_limited 27 = .ok (.aload_n 0, 1) := by decide +kernel
theorem dX10_limited_28 : decode cX10_limited 28 = .ok (.iload_n 1, 1) := by decide +kernel
theorem dX10_limited_29 : decode cX10_limited 29 = .ok (.iload_n 3, 1) := by decide +kernel
theorem dX10_limited_30 : decode cX10_limited 30 = .ok (.invokevirtual 224, 3) := by decide +kernel
theorem dX10_limited_33 : decode cX10_limited 33 = .ok (.aload_n 0, 1) := by decide +kernel
theorem dX10_limited_34 : decode cX10_limited 34 = .ok (.iload_n 1, 1) := by decide +kernel
theorem dX10_limited_35 : decode cX10_limited 35 = .ok (.iload_n 3, 1) := by decide +kernel
theorem dX10_limited_36 : decode cX10_limited 36 = .ok (.invokevirtual 227, 3) := by decide +kernel
theorem dX10_limited_39 : decode cX10_limited 39 = .ok (.invokestatic 184, 3) := by decide +kernel
theorem dX10_limited_42 : decode cX10_limited 42 = .ok (.ireturn, 1) := by decide +kernel
theorem dX10_layLimit_0 : decode cX10_layLimit 0 = .ok (.iload_n 2, 1) := by decide +kernel
theorem dX10_layLimit_1 : decode cX10_layLimit 1 = .ok (.ifCond .lt 53, 3) := by decide +kernel
theorem dX10_layLimit_4 : decode cX10_layLimit 4 = .ok (.aload_n 0, 1) := by decide +kernel
theorem dX10_layLimit_5 : decode cX10_layLimit 5 = .ok (.getfield 42, 3) := by decide +kernel
theorem dX10_layLimit_8 : decode cX10_layLimit 8 = .ok (.iload_n 1, 1) := by decide +kernel
theorem dX10_layLimit_9 : decode cX10_layLimit 9 = .ok (.iaload, 1) := by decide +kernel
theorem dX10_layLimit_10 : decode cX10_layLimit 10 = .ok (.ifCond .ne 44, 3) := by decide +kernel
theorem dX10_layLimit_13 : decode cX10_layLimit 13 = .ok (.aload_n 0, 1) := by decide +kernel
theorem dX10_layLimit_14 : decode cX10_layLimit 14 = .ok (.getfield 42, 3) := by decide +kernel
theorem dX10_layLimit_17 : decode cX10_layLimit 17 = .ok (.iload_n 1, 1) := by decide +kernel
theorem dX10_layLimit_18 : decode cX10_layLimit 18 = .ok (.iconst 1, 1) := by decide +kernel
theorem dX10_layLimit_19 : decode cX10_layLimit 19 = .ok (.iastore, 1) := by decide +kernel
theorem dX10_layLimit_20 : decode cX10_layLimit 20 = .ok (.aload_n 0, 1) := by decide +kernel
theorem dX10_layLimit_21 : decode cX10_layLimit 21 = .ok (.iload_n 2, 1) := by decide +kernel
theorem dX10_layLimit_22 : decode cX10_layLimit 22 = .ok (.aload_n 0, 1) := by decide +kernel
theorem dX10_layLimit_23 : decode cX10_layLimit 23 = .ok (.iload_n 1, 1) := by decide +kernel
theorem dX10_layLimit_24 : decode cX10_layLimit 24 = .ok (.iconst 0, 1) := by decide +kernel
theorem dX10_layLimit_25 : decode cX10_layLimit 25 = .ok (.iconst 0, 1) := by decide +kernel
theorem dX10_layLimit_26 : decode cX10_layLimit 26 = .ok (.invokevirtual 246, 3) := by decide +kernel
theorem dX10_layLimit_29 : decode cX10_layLimit 29 = .ok (.aload_n 0, 1) := by decide +kernel
theorem dX10_layLimit_30 : decode cX10_layLimit 30 = .ok (.iload_n 1, 1) := by decide +kernel
theorem dX10_layLimit_31 : decode cX10_layLimit 31 = .ok (.iconst 1, 1) := by decide +kernel
theorem dX10_layLimit_32 : decode cX10_layLimit 32 = .ok (.iconst 0, 1) := by decide +kernel
theorem dX10_layLimit_33 : decode cX10_layLimit 33 = .ok (.invokevirtual 246, 3) := by decide +kernel
theorem dX10_layLimit_36 : decode cX10_layLimit 36 = .ok (.aload_n 0, 1) := by decide +kernel
theorem dX10_layLimit_37 : decode cX10_layLimit 37 = .ok (.iload_n 1, 1) := by decide +kernel
theorem dX10_layLimit_38 : decode cX10_layLimit 38 = .ok (.iconst 2, 1) := by decide +kernel
theorem dX10_layLimit_39 : decode cX10_layLimit 39 = .ok (.iconst 1, 1) := by decide +kernel
theorem dX10_layLimit_40 : decode cX10_layLimit 40 = .ok (.invokevirtual 246, 3) := by decide +kernel
theorem dX10_layLimit_43 : decode cX10_layLimit 43 = .ok (.aload_n 0, 1) := by decide +kernel
theorem dX10_layLimit_44 : decode cX10_layLimit 44 = .ok (.iload_n 1, 1) := by decide +kernel
theorem dX10_layLimit_45 : decode cX10_layLimit 45 = .ok (.iconst 3, 1) := by decide +kernel
theorem dX10_layLimit_46 : decode cX10_layLimit 46 = .ok (.iconst 1, 1) := by decide +kernel
theorem dX10_layLimit_47 : decode cX10_layLimit 47 = .ok (.invokevirtual 246, 3) := by decide +kernel
theorem dX10_layLimit_50 : decode cX10_layLimit 50 = .ok (.invokevirtual 236, 3) := by decide +kernel
theorem dX10_layLimit_53 : decode cX10_layLimit 53 = .ok (.return_, 1) := by decide +kernel
theorem dX10_layLimit_54 : decode cX10_layLimit 54 = .ok (.iload_n 2, 1) := by decide +kernel
theorem dX10_layLimit_55 : decode cX10_layLimit 55 = .ok (.ifCond .lt 10, 3) := by decide +kernel
theorem dX10_layLimit_58 : decode cX10_layLimit 58 = .ok (.aload_n 0, 1) := by decide +kernel
theorem dX10_layLimit_59 : decode cX10_layLimit 59 = .ok (.iload_n 2, 1) := by decide +kernel
theorem dX10_layLimit_60 : decode cX10_layLimit 60 = .ok (.iconst 0, 1) := by decide +kernel
theorem dX10_layLimit_61 : decode cX10_layLimit 61 = .ok (.iconst 0, 1) := by decide +kernel
theorem dX10_layLimit_62 : decode cX10_layLimit 62 = .ok (.invokevirtual 240, 3) := by decide +kernel
theorem dX10_layLimit_65 : decode cX10_layLimit 65 = .ok (.aload_n 0, 1) := by decide +kernel
theorem dX10_layLimit_66 : decode cX10_layLimit 66 = .ok (.iload_n 1, 1) := by decide +kernel
theorem dX10_layLimit_67 : decode cX10_layLimit 67 = .ok (.iload_n 2, 1) := by decide +kernel
theorem dX10_layLimit_68 : decode cX10_layLimit 68 = .ok (.ifCond .ge 13, 3) := by decide +kernel
theorem dX10_layLimit_71 : decode cX10_layLimit 71 = .ok (.aload_n 0, 1) := by decide +kernel
theorem dX10_layLimit_72 : decode cX10_layLimit 72 = .ok (.iload_n 1, 1) := by decide +kernel
theorem dX10_layLimit_73 : decode cX10_layLimit 73 = .ok (.iconst 0, 1) := by decide +kernel
theorem dX10_layLimit_74 : decode cX10_layLimit 74 = .ok (.iconst 0, 1) := by decide +kernel
theorem dX10_layLimit_75 : decode cX10_layLimit 75 = .ok (.invokevirtual 246, 3) := by decide +kernel
theorem dX10_layLimit_78 : decode cX10_layLimit 78 = .ok (.goto 9, 3) := by decide +kernel
theorem dX10_layLimit_81 : decode cX10_layLimit 81 = .ok (.aload_n 0, 1) := by decide +kernel
theorem dX10_layLimit_82 : decode cX10_layLimit 82 = .ok (.iload_n 2, 1) := by decide +kernel
theorem dX10_layLimit_83 : decode cX10_layLimit 83 = .ok (.iconst 0, 1) := by decide +kernel
theorem dX10_layLimit_84 : decode cX10_layLimit 84 = .ok (.invokevirtual 243, 3) := by decide +kernel
theorem dX10_layLimit_87 : decode cX10_layLimit 87 = .ok (.iload_n 2, 1) := by decide +kernel
theorem dX10_layLimit_88 : decode cX10_layLimit 88 = .ok (.ifCond .ge 13, 3) := by decide +kernel
theorem dX10_layLimit_91 : decode cX10_layLimit 91 = .ok (.aload_n 0, 1) := by decide +kernel
theorem dX10_layLimit_92 : decode cX10_layLimit 92 = .ok (.iload_n 1, 1) := by decide +kernel
theorem dX10_layLimit_93 : decode cX10_layLimit 93 = .ok (.iconst 2, 1) := by decide +kernel
theorem dX10_layLimit_94 : decode cX10_layLimit 94 = .ok (.iconst 1, 1) := by decide +kernel
theorem dX10_layLimit_95 : decode cX10_layLimit 95 = .ok (.invokevirtual 246, 3) := by decide +kernel
theorem dX10_layLimit_98 : decode cX10_layLimit 98 = .ok (.goto 9, 3) := by decide +kernel
theorem dX10_layLimit_101 : decode cX10_layLimit 101 = .ok (.aload_n 0, 1) := by decide +kernel
theorem dX10_layLimit_102 : decode cX10_layLimit 102 = .ok (.iload_n 2, 1) := by decide +kernel
theorem dX10_layLimit_103 : decode cX10_layLimit 103 = .ok (.iconst 1, 1) := by decide +kernel
theorem dX10_layLimit_104 : decode cX10_layLimit 104 = .ok (.invokevirtual 243, 3) := by decide +kernel
theorem dX10_layLimit_107 : decode cX10_layLimit 107 = .ok (.invokevirtual 230, 3) := by decide +kernel
theorem dX10_layLimit_110 : decode cX10_layLimit 110 = .ok (.return_, 1) := by decide +kernel
theorem dX10_layCentre_0 : decode cX10_layCentre 0 = .ok (.iload_n 2, 1) := by decide +kernel
theorem dX10_layCentre_1 : decode cX10_layCentre 1 = .ok (.ifCond .lt 39, 3) := by decide +kernel
theorem dX10_layCentre_4 : decode cX10_layCentre 4 = .ok (.aload_n 0, 1) := by decide +kernel
theorem dX10_layCentre_5 : decode cX10_layCentre 5 = .ok (.getfield 42, 3) := by decide +kernel
theorem dX10_layCentre_8 : decode cX10_layCentre 8 = .ok (.iload_n 1, 1) := by decide +kernel
theorem dX10_layCentre_9 : decode cX10_layCentre 9 = .ok (.iaload, 1) := by decide +kernel
theorem dX10_layCentre_10 : decode cX10_layCentre 10 = .ok (.ifCond .ne 30, 3) := by decide +kernel
theorem dX10_layCentre_13 : decode cX10_layCentre 13 = .ok (.aload_n 0, 1) := by decide +kernel
theorem dX10_layCentre_14 : decode cX10_layCentre 14 = .ok (.getfield 42, 3) := by decide +kernel
theorem dX10_layCentre_17 : decode cX10_layCentre 17 = .ok (.iload_n 1, 1) := by decide +kernel
theorem dX10_layCentre_18 : decode cX10_layCentre 18 = .ok (.iconst 1, 1) := by decide +kernel
theorem dX10_layCentre_19 : decode cX10_layCentre 19 = .ok (.iastore, 1) := by decide +kernel
theorem dX10_layCentre_20 : decode cX10_layCentre 20 = .ok (.aload_n 0, 1) := by decide +kernel
theorem dX10_layCentre_21 : decode cX10_layCentre 21 = .ok (.iload_n 2, 1) := by decide +kernel
theorem dX10_layCentre_22 : decode cX10_layCentre 22 = .ok (.iconst 0, 1) := by decide +kernel
theorem dX10_layCentre_23 : decode cX10_layCentre 23 = .ok (.aload_n 0, 1) := by decide +kernel
theorem dX10_layCentre_24 : decode cX10_layCentre 24 = .ok (.iload_n 1, 1) := by decide +kernel
theorem dX10_layCentre_25 : decode cX10_layCentre 25 = .ok (.iconst 0, 1) := by decide +kernel
theorem dX10_layCentre_26 : decode cX10_layCentre 26 = .ok (.invokevirtual 227, 3) := by decide +kernel
theorem dX10_layCentre_29 : decode cX10_layCentre 29 = .ok (.iconst 0, 1) := by decide +kernel
theorem dX10_layCentre_30 : decode cX10_layCentre 30 = .ok (.aload_n 0, 1) := by decide +kernel
theorem dX10_layCentre_31 : decode cX10_layCentre 31 = .ok (.iload_n 1, 1) := by decide +kernel
theorem dX10_layCentre_32 : decode cX10_layCentre 32 = .ok (.iconst 1, 1) := by decide +kernel
theorem dX10_layCentre_33 : decode cX10_layCentre 33 = .ok (.invokevirtual 227, 3) := by decide +kernel
theorem dX10_layCentre_36 : decode cX10_layCentre 36 = .ok (.invokevirtual 236, 3) := by decide +kernel
theorem dX10_layCentre_39 : decode cX10_layCentre 39 = .ok (.return_, 1) := by decide +kernel
theorem dX10_layCentre_40 : decode cX10_layCentre 40 = .ok (.iload_n 2, 1) := by decide +kernel
theorem dX10_layCentre_41 : decode cX10_layCentre 41 = .ok (.ifCond .ge 7, 3) := by decide +kernel
theorem dX10_layCentre_44 : decode cX10_layCentre 44 = .ok (.iconst 0, 1) := by decide +kernel
theorem dX10_layCentre_45 : decode cX10_layCentre 45 = .ok (.goto 9, 3) := by decide +kernel
theorem dX10_layCentre_48 : decode cX10_layCentre 48 = .ok (.aload_n 0, 1) := by decide +kernel
theorem dX10_layCentre_49 : decode cX10_layCentre 49 = .ok (.iload_n 2, 1) := by decide +kernel
theorem dX10_layCentre_50 : decode cX10_layCentre 50 = .ok (.iconst 0, 1) := by decide +kernel
theorem dX10_layCentre_51 : decode cX10_layCentre 51 = .ok (.invokevirtual 243, 3) := by decide +kernel
theorem dX10_layCentre_54 : decode cX10_layCentre 54 = .ok (.istore_n 3, 1) := by decide +kernel
theorem dX10_layCentre_55 : decode cX10_layCentre 55 = .ok (.iload_n 2, 1) := by decide +kernel
theorem dX10_layCentre_56 : decode cX10_layCentre 56 = .ok (.ifCond .ge 7, 3) := by decide +kernel
theorem dX10_layCentre_59 : decode cX10_layCentre 59 = .ok (.iconst 0, 1) := by decide +kernel
theorem dX10_layCentre_60 : decode cX10_layCentre 60 = .ok (.goto 9, 3) := by decide +kernel
theorem dX10_layCentre_63 : decode cX10_layCentre 63 = .ok (.aload_n 0, 1) := by decide +kernel
theorem dX10_layCentre_64 : decode cX10_layCentre 64 = .ok (.iload_n 2, 1) := by decide +kernel
theorem dX10_layCentre_65 : decode cX10_layCentre 65 = .ok (.iconst 1, 1) := by decide +kernel
theorem dX10_layCentre_66 : decode cX10_layCentre 66 = .ok (.invokevirtual 243, 3) := by decide +kernel
theorem dX10_layCentre_69 : decode cX10_layCentre 69 = .ok (.istore 4, 2) := by decide +kernel
theorem dX10_layCentre_71 : decode cX10_layCentre 71 = .ok (.aload_n 0, 1) := by decide +kernel
theorem dX10_layCentre_72 : decode cX10_layCentre 72 = .ok (.iload_n 1, 1) := by decide +kernel
theorem dX10_layCentre_73 : decode cX10_layCentre 73 = .ok (.aload_n 0, 1) := by decide +kernel
theorem dX10_layCentre_74 : decode cX10_layCentre 74 = .ok (.iload_n 1, 1) := by decide +kernel
theorem dX10_layCentre_75 : decode cX10_layCentre 75 = .ok (.iconst 0, 1) := by decide +kernel
theorem dX10_layCentre_76 : decode cX10_layCentre 76 = .ok (.invokevirtual 227, 3) := by decide +kernel
theorem dX10_layCentre_79 : decode cX10_layCentre 79 = .ok (.sipush 1000, 3) := by decide +kernel
theorem dX10_layCentre_82 : decode cX10_layCentre 82 = .ok (.if_icmp .ne 7, 3) := by decide +kernel
theorem dX10_layCentre_85 : decode cX10_layCentre 85 = .ok (.iload_n 3, 1) := by decide +kernel
theorem dX10_layCentre_86 : decode cX10_layCentre 86 = .ok (.goto 9, 3) := by decide +kernel
theorem dX10_layCentre_89 : decode cX10_layCentre 89 = .ok (.aload_n 0, 1) := by decide +kernel
theorem dX10_layCentre_90 : decode cX10_layCentre 90 = .ok (.iload_n 1, 1) := by decide +kernel
theorem dX10_layCentre_91 : decode cX10_layCentre 91 = .ok (.iconst 0, 1) := by decide +kernel
theorem dX10_layCentre_92 : decode cX10_layCentre 92 = .ok (.invokevirtual 227, 3) := by decide +kernel
theorem dX10_layCentre_95 : decode cX10_layCentre 95 = .ok (.aload_n 0, 1) := by decide +kernel
theorem dX10_layCentre_96 : decode cX10_layCentre 96 = .ok (.iload_n 1, 1) := by decide +kernel
theorem dX10_layCentre_97 : decode cX10_layCentre 97 = .ok (.iconst 1, 1) := by decide +kernel
theorem dX10_layCentre_98 : decode cX10_layCentre 98 = .ok (.invokevirtual 227, 3) := by decide +kernel
theorem dX10_layCentre_101 : decode cX10_layCentre 101 = .ok (.sipush 1000, 3) := by decide +kernel
theorem dX10_layCentre_104 : decode cX10_layCentre 104 = .ok (.if_icmp .ne 8, 3) := by decide +kernel
theorem dX10_layCentre_107 : decode cX10_layCentre 107 = .ok (.iload 4, 2) := by decide +kernel
theorem dX10_layCentre_109 : decode cX10_layCentre 109 = .ok (.goto 9, 3) := by decide +kernel
theorem dX10_layCentre_112 : decode cX10_layCentre 112 = .ok (.aload_n 0, 1) := by decide +kernel
theorem dX10_layCentre_113 : decode cX10_layCentre 113 = .ok (.iload_n 1, 1) := by decide +kernel
theorem dX10_layCentre_114 : decode cX10_layCentre 114 = .ok (.iconst 1, 1) := by decide +kernel
theorem dX10_layCentre_115 : decode cX10_layCentre 115 = .ok (.invokevirtual 227, 3) := by decide +kernel
theorem dX10_layCentre_118 : decode cX10_layCentre 118 = .ok (.invokevirtual 230, 3) := by decide +kernel
theorem dX10_layCentre_121 : decode cX10_layCentre 121 = .ok (.iload_n 2, 1) := by decide +kernel
theorem dX10_layCentre_122 : decode cX10_layCentre 122 = .ok (.ifCond .lt 29, 3) := by decide +kernel
theorem dX10_layCentre_125 : decode cX10_layCentre 125 = .ok (.aload_n 0, 1) := by decide +kernel
theorem dX10_layCentre_126 : decode cX10_layCentre 126 = .ok (.iload_n 2, 1) := by decide +kernel
theorem dX10_layCentre_127 : decode cX10_layCentre 127 = .ok (.aload_n 0, 1) := by decide +kernel
theorem dX10_layCentre_128 : decode cX10_layCentre 128 = .ok (.iload_n 1, 1) := by decide +kernel
theorem dX10_layCentre_129 : decode cX10_layCentre 129 = .ok (.iconst 0, 1) := by decide +kernel
theorem dX10_layCentre_130 : decode cX10_layCentre 130 = .ok (.invokevirtual 243, 3) := by decide +kernel
theorem dX10_layCentre_133 : decode cX10_layCentre 133 = .ok (.iload_n 3, 1) := by decide +kernel
theorem dX10_layCentre_134 : decode cX10_layCentre 134 = .ok (.isub, 1) := by decide +kernel
theorem dX10_layCentre_135 : decode cX10_layCentre 135 = .ok (.iconst 2, 1) := by decide +kernel
theorem dX10_layCentre_136 : decode cX10_layCentre 136 = .ok (.idiv, 1) := by decide +kernel
theorem dX10_layCentre_137 : decode cX10_layCentre 137 = .ok (.aload_n 0, 1) := by decide +kernel
theorem dX10_layCentre_138 : decode cX10_layCentre 138 = .ok (.iload_n 1, 1) := by decide +kernel
theorem dX10_layCentre_139 : decode cX10_layCentre 139 = .ok (.iconst 1, 1) := by decide +kernel
theorem dX10_layCentre_140 : decode cX10_layCentre 140 = .ok (.invokevirtual 243, 3) := by decide +kernel
theorem dX10_layCentre_143 : decode cX10_layCentre 143 = .ok (.iload 4, 2) := by decide +kernel
theorem dX10_layCentre_145 : decode cX10_layCentre 145 = .ok (.isub, 1) := by decide +kernel
theorem dX10_layCentre_146 : decode cX10_layCentre 146 = .ok (.iconst 2, 1) := by decide +kernel
theorem dX10_layCentre_147 : decode cX10_layCentre 147 = .ok (.idiv, 1) := by decide +kernel
theorem dX10_layCentre_148 : decode cX10_layCentre 148 = .ok (.invokevirtual 240, 3) := by decide +kernel
theorem dX10_layCentre_151 : decode cX10_layCentre 151 = .ok (.return_, 1) := by decide +kernel
theorem dX10_layFit_0 : decode cX10_layFit 0 = .ok (.iload_n 2, 1) := by decide +kernel
theorem dX10_layFit_1 : decode cX10_layFit 1 = .ok (.ifCond .ge 7, 3) := by decide +kernel
theorem dX10_layFit_4 : decode cX10_layFit 4 = .ok (.iconst 0, 1) := by decide +kernel
theorem dX10_layFit_5 : decode cX10_layFit 5 = .ok (.goto 9, 3) := by decide +kernel
theorem dX10_layFit_8 : decode cX10_layFit 8 = .ok (.aload_n 0, 1) := by decide +kernel
theorem dX10_layFit_9 : decode cX10_layFit 9 = .ok (.iload_n 2, 1) := by decide +kernel
theorem dX10_layFit_10 : decode cX10_layFit 10 = .ok (.iconst 0, 1) := by decide +kernel
theorem dX10_layFit_11 : decode cX10_layFit 11 = .ok (.invokevirtual 206, 3) := by decide +kernel
theorem dX10_layFit_14 : decode cX10_layFit 14 = .ok (.aload_n 0, 1) := by decide +kernel
theorem dX10_layFit_15 : decode cX10_layFit 15 = .ok (.iload_n 1, 1) := by decide +kernel
theorem dX10_layFit_16 : decode cX10_layFit 16 = .ok (.iconst 0, 1) := by decide +kernel
theorem dX10_layFit_17 : decode cX10_layFit 17 = .ok (.invokevirtual 224, 3) := by decide +kernel
theorem dX10_layFit_20 : decode cX10_layFit 20 = .ok (.aload_n 0, 1) := by decide +kernel
theorem dX10_layFit_21 : decode cX10_layFit 21 = .ok (.iload_n 1, 1) := by decide +kernel
theorem dX10_layFit_22 : decode cX10_layFit 22 = .ok (.iconst 0, 1) := by decide +kernel
theorem dX10_layFit_23 : decode cX10_layFit 23 = .ok (.invokevirtual 227, 3) := by decide +kernel
theorem dX10_layFit_26 : decode cX10_layFit 26 = .ok (.invokestatic 184, 3) := by decide +kernel
theorem dX10_layFit_29 : decode cX10_layFit 29 = .ok (.istore_n 3, 1) := by decide +kernel
theorem dX10_layFit_30 : decode cX10_layFit 30 = .ok (.iload_n 2, 1) := by decide +kernel
theorem dX10_layFit_31 : decode cX10_layFit 31 = .ok (.ifCond .lt 39, 3) := by decide +kernel
theorem dX10_layFit_34 : decode cX10_layFit 34 = .ok (.aload_n 0, 1) := by decide +kernel
theorem dX10_layFit_35 : decode cX10_layFit 35 = .ok (.getfield 42, 3) := by decide +kernel
theorem dX10_layFit_38 : decode cX10_layFit 38 = .ok (.iload_n 1, 1) := by decide +kernel
theorem dX10_layFit_39 : decode cX10_layFit 39 = .ok (.iaload, 1) := by decide +kernel
theorem dX10_layFit_40 : decode cX10_layFit 40 = .ok (.ifCond .ne 30, 3) := by decide +kernel
theorem dX10_layFit_43 : decode cX10_layFit 43 = .ok (.aload_n 0, 1) := by decide +kernel
theorem dX10_layFit_44 : decode cX10_layFit 44 = .ok (.getfield 42, 3) := by decide +kernel
theorem dX10_layFit_47 : decode cX10_layFit 47 = .ok (.iload_n 1, 1) := by decide +kernel
theorem dX10_layFit_48 : decode cX10_layFit 48 = .ok (.iconst 1, 1) := by decide +kernel
theorem dX10_layFit_49 : decode cX10_layFit 49 = .ok (.iastore, 1) := by decide +kernel
theorem dX10_layFit_50 : decode cX10_layFit 50 = .ok (.aload_n 0, 1) := by decide +kernel
theorem dX10_layFit_51 : decode cX10_layFit 51 = .ok (.iload_n 2, 1) := by decide +kernel
theorem dX10_layFit_52 : decode cX10_layFit 52 = .ok (.iload_n 3, 1) := by decide +kernel
theorem dX10_layFit_53 : decode cX10_layFit 53 = .ok (.iload_n 3, 1) := by decide +kernel
theorem dX10_layFit_54 : decode cX10_layFit 54 = .ok (.aload_n 0, 1) := by decide +kernel
theorem dX10_layFit_55 : decode cX10_layFit 55 = .ok (.iload_n 1, 1) := by decide +kernel
theorem dX10_layFit_56 : decode cX10_layFit 56 = .ok (.iconst 1, 1) := by decide +kernel
theorem dX10_layFit_57 : decode cX10_layFit 57 = .ok (.invokevirtual 224, 3) := by decide +kernel
theorem dX10_layFit_60 : decode cX10_layFit 60 = .ok (.aload_n 0, 1) := by decide +kernel
theorem dX10_layFit_61 : decode cX10_layFit 61 = .ok (.iload_n 1, 1) := by decide +kernel
theorem dX10_layFit_62 : decode cX10_layFit 62 = .ok (.iconst 1, 1) := by decide +kernel
theorem dX10_layFit_63 : decode cX10_layFit 63 = .ok (.invokevirtual 227, 3) := by decide +kernel
theorem dX10_layFit_66 : decode cX10_layFit 66 = .ok (.invokevirtual 236, 3) := by decide +kernel
theorem dX10_layFit_69 : decode cX10_layFit 69 = .ok (.return_, 1) := by decide +kernel
theorem dX10_layFit_70 : decode cX10_layFit 70 = .ok (.iload_n 2, 1) := by decide +kernel
theorem dX10_layFit_71 : decode cX10_layFit 71 = .ok (.ifCond .lt 10, 3) := by decide +kernel
theorem dX10_layFit_74 : decode cX10_layFit 74 = .ok (.aload_n 0, 1) := by decide +kernel
theorem dX10_layFit_75 : decode cX10_layFit 75 = .ok (.iload_n 2, 1) := by decide +kernel
theorem dX10_layFit_76 : decode cX10_layFit 76 = .ok (.iconst 0, 1) := by decide +kernel
theorem dX10_layFit_77 : decode cX10_layFit 77 = .ok (.iconst 0, 1) := by decide +kernel
theorem dX10_layFit_78 : decode cX10_layFit 78 = .ok (.invokevirtual 240, 3) := by decide +kernel
theorem dX10_layFit_81 : decode cX10_layFit 81 = .ok (.aload_n 0, 1) := by decide +kernel
theorem dX10_layFit_82 : decode cX10_layFit 82 = .ok (.iload_n 1, 1) := by decide +kernel
theorem dX10_layFit_83 : decode cX10_layFit 83 = .ok (.iload_n 2, 1) := by decide +kernel
theorem dX10_layFit_84 : decode cX10_layFit 84 = .ok (.ifCond .ge 7, 3) := by decide +kernel
theorem dX10_layFit_87 : decode cX10_layFit 87 = .ok (.iload_n 3, 1) := by decide +kernel
theorem dX10_layFit_88 : decode cX10_layFit 88 = .ok (.goto 9, 3) := by decide +kernel
theorem dX10_layFit_91 : decode cX10_layFit 91 = .ok (.aload_n 0, 1) := by decide +kernel
theorem dX10_layFit_92 : decode cX10_layFit 92 = .ok (.iload_n 2, 1) := by decide +kernel
theorem dX10_layFit_93 : decode cX10_layFit 93 = .ok (.iconst 0, 1) := by decide +kernel
theorem dX10_layFit_94 : decode cX10_layFit 94 = .ok (.invokevirtual 243, 3) := by decide +kernel
theorem dX10_layFit_97 : decode cX10_layFit 97 = .ok (.iload_n 2, 1) := by decide +kernel
theorem dX10_layFit_98 : decode cX10_layFit 98 = .ok (.ifCond .ge 12, 3) := by decide +kernel
theorem dX10_layFit_101 : decode cX10_layFit 101 = .ok (.aload_n 0, 1) := by decide +kernel
theorem dX10_layFit_102 : decode cX10_layFit 102 = .ok (.iload_n 1, 1) := by decide +kernel
theorem dX10_layFit_103 : decode cX10_layFit 103 = .ok (.iconst 1, 1) := by decide +kernel
theorem dX10_layFit_104 : decode cX10_layFit 104 = .ok (.invokevirtual 224, 3) := by decide +kernel
theorem dX10_layFit_107 : decode cX10_layFit 107 = .ok (.goto 9, 3) := by decide +kernel
theorem dX10_layFit_110 : decode cX10_layFit 110 = .ok (.aload_n 0, 1) := by decide +kernel
theorem dX10_layFit_111 : decode cX10_layFit 111 = .ok (.iload_n 2, 1) := by decide +kernel
theorem dX10_layFit_112 : decode cX10_layFit 112 = .ok (.iconst 1, 1) := by decide +kernel
theorem dX10_layFit_113 : decode cX10_layFit 113 = .ok (.invokevirtual 243, 3) := by decide +kernel
theorem dX10_layFit_116 : decode cX10_layFit 116 = .ok (.invokevirtual 230, 3) := by decide +kernel
theorem dX10_layFit_119 : decode cX10_layFit 119 = .ok (.return_, 1) := by decide +kernel
theorem dX10_layRatio_0 : decode cX10_layRatio 0 = .ok (.aload_n 0, 1) := by decide +kernel
theorem dX10_layRatio_1 : decode cX10_layRatio 1 = .ok (.iload_n 1, 1) := by decide +kernel
theorem dX10_layRatio_2 : decode cX10_layRatio 2 = .ok (.iconst 2, 1) := by decide +kernel
theorem dX10_layRatio_3 : decode cX10_layRatio 3 = .ok (.invokevirtual 91, 3) := by decide +kernel
theorem dX10_layRatio_6 : decode cX10_layRatio 6 = .ok (.istore_n 3, 1) := by decide +kernel
theorem dX10_layRatio_7 : decode cX10_layRatio 7 = .ok (.aload_n 0, 1) := by decide +kernel
theorem dX10_layRatio_8 : decode cX10_layRatio 8 = .ok (.iload_n 1, 1) := by decide +kernel
theorem dX10_layRatio_9 : decode cX10_layRatio 9 = .ok (.iconst 3, 1) := by decide +kernel
theorem dX10_layRatio_10 : decode cX10_layRatio 10 = .ok (.invokevirtual 91, 3) := by decide +kernel
theorem dX10_layRatio_13 : decode cX10_layRatio 13 = .ok (.istore 4, 2) := by decide +kernel
theorem dX10_layRatio_15 : decode cX10_layRatio 15 = .ok (.aload_n 0, 1) := by decide +kernel
theorem dX10_layRatio_16 : decode cX10_layRatio 16 = .ok (.iload_n 1, 1) := by decide +kernel
theorem dX10_layRatio_17 : decode cX10_layRatio 17 = .ok (.iconst 1, 1) := by decide +kernel
theorem dX10_layRatio_18 : decode cX10_layRatio 18 = .ok (.invokevirtual 227, 3) := by decide +kernel
theorem dX10_layRatio_21 : decode cX10_layRatio 21 = .ok (.istore 5, 2) := by decide +kernel
theorem dX10_layRatio_23 : decode cX10_layRatio 23 = .ok (.aload_n 0, 1) := by decide +kernel
theorem dX10_layRatio_24 : decode cX10_layRatio 24 = .ok (.iload_n 1, 1) := by decide +kernel
theorem dX10_layRatio_25 : decode cX10_layRatio 25 = .ok (.iconst 0, 1) := by decide +kernel
theorem dX10_layRatio_26 : decode cX10_layRatio 26 = .ok (.invokevirtual 227, 3) := by decide +kernel
theorem dX10_layRatio_29 : decode cX10_layRatio 29 = .ok (.istore 6, 2) := by decide +kernel
theorem dX10_layRatio_31 : decode cX10_layRatio 31 = .ok (.iload 6, 2) := by decide +kernel
theorem dX10_layRatio_33 : decode cX10_layRatio 33 = .ok (.sipush 1000, 3) := by decide +kernel
theorem dX10_layRatio_36 : decode cX10_layRatio 36 = .ok (.if_icmp .ne 27, 3) := by decide +kernel
theorem dX10_layRatio_39 : decode cX10_layRatio 39 = .ok (.iload 5, 2) := by decide +kernel
theorem dX10_layRatio_41 : decode cX10_layRatio 41 = .ok (.sipush 1000, 3) := by decide +kernel
theorem dX10_layRatio_44 : decode cX10_layRatio 44 = .ok (.if_icmp .ne 10, 3) := by decide +kernel
theorem dX10_layRatio_47 : decode cX10_layRatio 47 = .ok (.bipush 10, 2) := by decide +kernel
theorem dX10_layRatio_49 : decode cX10_layRatio 49 = .ok (.iload_n 3, 1) := by decide +kernel
theorem dX10_layRatio_50 : decode cX10_layRatio 50 = .ok (.imul, 1) := by decide +kernel
theorem dX10_layRatio_51 : decode cX10_layRatio 51 = .ok (.goto 10, 3) := by decide +kernel
theorem dX10_layRatio_54 : decode cX10_layRatio 54 = .ok (.iload 5, 2) := by decide +kernel
theorem dX10_layRatio_56 : decode cX10_layRatio 56 = .ok (.iload_n 3, 1) := by decide +kernel
theorem dX10_layRatio_57 : decode cX10_layRatio 57 = .ok (.imul, 1) := by decide +kernel
theorem dX10_layRatio_58 : decode cX10_layRatio 58 = .ok (.iload 4, 2) := by decide +kernel
theorem dX10_layRatio_60 : decode cX10_layRatio 60 = .ok (.idiv, 1) := by decide +kernel
theorem dX10_layRatio_61 : decode cX10_layRatio 61 = .ok (.istore 6, 2) := by decide +kernel
theorem dX10_layRatio_63 : decode cX10_layRatio 63 = .ok (.iload 6, 2) := by decide +kernel
theorem dX10_layRatio_65 : decode cX10_layRatio 65 = .ok (.iload 4, 2) := by decide +kernel
theorem dX10_layRatio_67 : decode cX10_layRatio 67 = .ok (.imul, 1) := by decide +kernel
theorem dX10_layRatio_68 : decode cX10_layRatio 68 = .ok (.iload_n 3, 1) := by decide +kernel
theorem dX10_layRatio_69 : decode cX10_layRatio 69 = .ok (.idiv, 1) := by decide +kernel
theorem dX10_layRatio_70 : decode cX10_layRatio 70 = .ok (.istore 7, 2) := by decide +kernel
theorem dX10_layRatio_72 : decode cX10_layRatio 72 = .ok (.iload 7, 2) := by decide +kernel
theorem dX10_layRatio_74 : decode cX10_layRatio 74 = .ok (.iload 5, 2) := by decide +kernel
theorem dX10_layRatio_76 : decode cX10_layRatio 76 = .ok (.if_icmp .le 16, 3) := by decide +kernel
theorem dX10_layRatio_79 : decode cX10_layRatio 79 = .ok (.iload 5, 2) := by decide +kernel
theorem dX10_layRatio_81 : decode cX10_layRatio 81 = .ok (.istore 7, 2) := by decide +kernel
theorem dX10_layRatio_83 : decode cX10_layRatio 83 = .ok (.iload 7, 2) := by decide +kernel
theorem dX10_layRatio_85 : decode cX10_layRatio 85 = .ok (.iload_n 3, 1) := by decide +kernel
theorem dX10_layRatio_86 : decode cX10_layRatio 86 = .ok (.imul, 1) := by decide +kernel
theorem dX10_layRatio_87 : decode cX10_layRatio 87 = .ok (.iload 4, 2) := by decide +kernel
theorem dX10_layRatio_89 : decode cX10_layRatio 89 = .ok (.idiv, 1) := by decide +kernel
theorem dX10_layRatio_90 : decode cX10_layRatio 90 = .ok (.istore 6, 2) := by decide +kernel
theorem dX10_layRatio_92 : decode cX10_layRatio 92 = .ok (.iload 6, 2) := by decide +kernel
theorem dX10_layRatio_94 : decode cX10_layRatio 94 = .ok (.aload_n 0, 1) := by decide +kernel
theorem dX10_layRatio_95 : decode cX10_layRatio 95 = .ok (.iload_n 1, 1) := by decide +kernel
theorem dX10_layRatio_96 : decode cX10_layRatio 96 = .ok (.iconst 0, 1) := by decide +kernel
theorem dX10_layRatio_97 : decode cX10_layRatio 97 = .ok (.invokevirtual 224, 3) := by decide +kernel
theorem dX10_layRatio_100 : decode cX10_layRatio 100 = .ok (.aload_n 0, 1) := by decide +kernel
theorem dX10_layRatio_101 : decode cX10_layRatio 101 = .ok (.iload_n 1, 1) := by decide +kernel
theorem dX10_layRatio_102 : decode cX10_layRatio 102 = .ok (.iconst 0, 1) := by decide +kernel
theorem dX10_layRatio_103 : decode cX10_layRatio 103 = .ok (.invokevirtual 227, 3) := by decide +kernel
theorem dX10_layRatio_106 : decode cX10_layRatio 106 = .ok (.invokestatic 184, 3) := by decide +kernel
theorem dX10_layRatio_109 : decode cX10_layRatio 109 = .ok (.istore 6, 2) := by decide +kernel
theorem dX10_layRatio_111 : decode cX10_layRatio 111 = .ok (.iload 7, 2) := by decide +kernel
theorem dX10_layRatio_113 : decode cX10_layRatio 113 = .ok (.aload_n 0, 1) := by decide +kernel
theorem dX10_layRatio_114 : decode cX10_layRatio 114 = .ok (.iload_n 1, 1) := by decide +kernel
theorem dX10_layRatio_115 : decode cX10_layRatio 115 = .ok (.iconst 1, 1) := by decide +kernel
theorem dX10_layRatio_116 : decode cX10_layRatio 116 = .ok (.invokevirtual 224, 3) := by decide +kernel
theorem dX10_layRatio_119 : decode cX10_layRatio 119 = .ok (.iload 5, 2) := by decide +kernel
theorem dX10_layRatio_121 : decode cX10_layRatio 121 = .ok (.invokestatic 184, 3) := by decide +kernel
theorem dX10_layRatio_124 : decode cX10_layRatio 124 = .ok (.istore 7, 2) := by decide +kernel
theorem dX10_layRatio_126 : decode cX10_layRatio 126 = .ok (.iload_n 2, 1) := by decide +kernel
theorem dX10_layRatio_127 : decode cX10_layRatio 127 = .ok (.ifCond .lt 33, 3) := by decide +kernel
theorem dX10_layRatio_130 : decode cX10_layRatio 130 = .ok (.aload_n 0, 1) := by decide +kernel
theorem dX10_layRatio_131 : decode cX10_layRatio 131 = .ok (.getfield 42, 3) := by decide +kernel
theorem dX10_layRatio_134 : decode cX10_layRatio 134 = .ok (.iload_n 1, 1) := by decide +kernel
theorem dX10_layRatio_135 : decode cX10_layRatio 135 = .ok (.iaload, 1) := by decide +kernel
theorem dX10_layRatio_136 : decode cX10_layRatio 136 = .ok (.ifCond .ne 24, 3) := by decide +kernel
theorem dX10_layRatio_139 : decode cX10_layRatio 139 = .ok (.aload_n 0, 1) := by decide +kernel
theorem dX10_layRatio_140 : decode cX10_layRatio 140 = .ok (.getfield 42, 3) := by decide +kernel
theorem dX10_layRatio_143 : decode cX10_layRatio 143 = .ok (.iload_n 1, 1) := by decide +kernel
theorem dX10_layRatio_144 : decode cX10_layRatio 144 = .ok (.iconst 1, 1) := by decide +kernel
theorem dX10_layRatio_145 : decode cX10_layRatio 145 = .ok (.iastore, 1) := by decide +kernel
theorem dX10_layRatio_146 : decode cX10_layRatio 146 = .ok (.aload_n 0, 1) := by decide +kernel
theorem dX10_layRatio_147 : decode cX10_layRatio 147 = .ok (.iload_n 2, 1) := by decide +kernel
theorem dX10_layRatio_148 : decode cX10_layRatio 148 = .ok (.iload 6, 2) := by decide +kernel
theorem dX10_layRatio_150 : decode cX10_layRatio 150 = .ok (.iload 6, 2) := by decide +kernel
theorem dX10_layRatio_152 : decode cX10_layRatio 152 = .ok (.iload 7, 2) := by decide +kernel
theorem dX10_layRatio_154 : decode cX10_layRatio 154 = .ok (.iload 7, 2) := by decide +kernel
theorem dX10_layRatio_156 : decode cX10_layRatio 156 = .ok (.invokevirtual 236, 3) := by decide +kernel
theorem dX10_layRatio_159 : decode cX10_layRatio 159 = .ok (.return_, 1) := by decide +kernel
theorem dX10_layRatio_160 : decode cX10_layRatio 160 = .ok (.iload_n 2, 1) := by decide +kernel
theorem dX10_layRatio_161 : decode cX10_layRatio 161 = .ok (.ifCond .lt 10, 3) := by decide +kernel
theorem dX10_layRatio_164 : decode cX10_layRatio 164 = .ok (.aload_n 0, 1) := by decide +kernel
theorem dX10_layRatio_165 : decode cX10_layRatio 165 = .ok (.iload_n 2, 1) := by decide +kernel
theorem dX10_layRatio_166 : decode cX10_layRatio 166 = .ok (.iconst 0, 1) := by decide +kernel
theorem dX10_layRatio_167 : decode cX10_layRatio 167 = .ok (.iconst 0, 1) := by decide +kernel
theorem dX10_layRatio_168 : decode cX10_layRatio 168 = .ok (.invokevirtual 240, 3) := by decide +kernel
theorem dX10_layRatio_171 : decode cX10_layRatio 171 = .ok (.aload_n 0, 1) := by decide +kernel
theorem dX10_layRatio_172 : decode cX10_layRatio 172 = .ok (.iload_n 1, 1) := by decide +kernel
theorem dX10_layRatio_173 : decode cX10_layRatio 173 = .ok (.iload 6, 2) := by decide +kernel
theorem dX10_layRatio_175 : decode cX10_layRatio 175 = .ok (.iload 7, 2) := by decide +kernel
theorem dX10_layRatio_177 : decode cX10_layRatio 177 = .ok (.invokevirtual 230, 3) := by decide +kernel
theorem dX10_layRatio_180 : decode cX10_layRatio 180 = .ok (.return_, 1) := by decide +kernel
theorem dX10_beside_0 : decode cX10_beside 0 = .ok (.iload_n 0, 1) := by decide +kernel
theorem dX10_beside_1 : decode cX10_beside 1 = .ok (.iconst 1, 1) := by decide +kernel
theorem dX10_beside_2 : decode cX10_beside 2 = .ok (.if_icmp .ne 9, 3) := by decide +kernel
theorem dX10_beside_5 : decode cX10_beside 5 = .ok (.iload_n 1, 1) := by decide +kernel
theorem dX10_beside_6 : decode cX10_beside 6 = .ok (.iconst 2, 1) := by decide +kernel
theorem dX10_beside_7 : decode cX10_beside 7 = .ok (.idiv, 1) := by decide +kernel
theorem dX10_beside_8 : decode cX10_beside 8 = .ok (.goto 13, 3) := by decide +kernel
theorem dX10_beside_11 : decode cX10_beside 11 = .ok (.iload_n 0, 1) := by decide +kernel
theorem dX10_beside_12 : decode cX10_beside 12 = .ok (.iconst 2, 1) := by decide +kernel
theorem dX10_beside_13 : decode cX10_beside 13 = .ok (.if_icmp .ne 7, 3) := by decide +kernel
theorem dX10_beside_16 : decode cX10_beside 16 = .ok (.iload_n 1, 1) := by decide +kernel
theorem dX10_beside_17 : decode cX10_beside 17 = .ok (.goto 4, 3) := by decide +kernel
theorem dX10_beside_20 : decode cX10_beside 20 = .ok (.iconst 0, 1) := by decide +kernel
theorem dX10_beside_21 : decode cX10_beside 21 = .ok (.ireturn, 1) := by decide +kernel
theorem dX10_layLayers_0 : decode cX10_layLayers 0 = .ok (.aload_n 0, 1) := by decide +kernel
theorem dX10_layLayers_1 : decode cX10_layLayers 1 = .ok (.getfield 42, 3) := by decide +kernel
theorem dX10_layLayers_4 : decode cX10_layLayers 4 = .ok (.iload_n 1, 1) := by decide +kernel
theorem dX10_layLayers_5 : decode cX10_layLayers 5 = .ok (.iaload, 1) := by decide +kernel
theorem dX10_layLayers_6 : decode cX10_layLayers 6 = .ok (.istore_n 2, 1) := by decide +kernel
theorem dX10_layLayers_7 : decode cX10_layLayers 7 = .ok (.aload_n 0, 1) := by decide +kernel
theorem dX10_layLayers_8 : decode cX10_layLayers 8 = .ok (.iload_n 1, 1) := by decide +kernel
theorem dX10_layLayers_9 : decode cX10_layLayers 9 = .ok (.invokevirtual 117, 3) := by decide +kernel
theorem dX10_layLayers_12 : decode cX10_layLayers 12 = .ok (.istore_n 3, 1) := by decide +kernel
theorem dX10_layLayers_13 : decode cX10_layLayers 13 = .ok (.iload_n 2, 1) := by decide +kernel
theorem dX10_layLayers_14 : decode cX10_layLayers 14 = .ok (.iload_n 3, 1) := by decide +kernel
theorem dX10_layLayers_15 : decode cX10_layLayers 15 = .ok (.if_icmp .ge 38, 3) := by decide +kernel
theorem dX10_layLayers_18 : decode cX10_layLayers 18 = .ok (.aload_n 0, 1) := by decide +kernel
theorem dX10_layLayers_19 : decode cX10_layLayers 19 = .ok (.getfield 42, 3) := by decide +kernel
theorem dX10_layLayers_22 : decode cX10_layLayers 22 = .ok (.iload_n 1, 1) := by decide +kernel
theorem dX10_layLayers_23 : decode cX10_layLayers 23 = .ok (.dup2, 1) := by decide +kernel
theorem dX10_layLayers_24 : decode cX10_layLayers 24 = .ok (.iaload, 1) := by decide +kernel
theorem dX10_layLayers_25 : decode cX10_layLayers 25 = .ok (.iconst 1, 1) := by decide +kernel
theorem dX10_layLayers_26 : decode cX10_layLayers 26 = .ok (.iadd, 1) := by decide +kernel
theorem dX10_layLayers_27 : decode cX10_layLayers 27 = .ok (.iastore, 1) := by decide +kernel
theorem dX10_layLayers_28 : decode cX10_layLayers 28 = .ok (.aload_n 0, 1) := by decide +kernel
theorem dX10_layLayers_29 : decode cX10_layLayers 29 = .ok (.aload_n 0, 1) := by decide +kernel
theorem dX10_layLayers_30 : decode cX10_layLayers 30 = .ok (.iload_n 1, 1) := by decide +kernel
theorem dX10_layLayers_31 : decode cX10_layLayers 31 = .ok (.iload_n 2, 1) := by decide +kernel
theorem dX10_layLayers_32 : decode cX10_layLayers 32 = .ok (.invokevirtual 153, 3) := by decide +kernel
theorem dX10_layLayers_35 : decode cX10_layLayers 35 = .ok (.iconst 0, 1) := by decide +kernel
theorem dX10_layLayers_36 : decode cX10_layLayers 36 = .ok (.aload_n 0, 1) := by decide +kernel
theorem dX10_layLayers_37 : decode cX10_layLayers 37 = .ok (.iload_n 1, 1) := by decide +kernel
theorem dX10_layLayers_38 : decode cX10_layLayers 38 = .ok (.iconst 0, 1) := by decide +kernel
theorem dX10_layLayers_39 : decode cX10_layLayers 39 = .ok (.invokevirtual 227, 3) := by decide +kernel
theorem dX10_layLayers_42 : decode cX10_layLayers 42 = .ok (.iconst 0, 1) := by decide +kernel
theorem dX10_layLayers_43 : decode cX10_layLayers 43 = .ok (.aload_n 0, 1) := by decide +kernel
theorem dX10_layLayers_44 : decode cX10_layLayers 44 = .ok (.iload_n 1, 1) := by decide +kernel
theorem dX10_layLayers_45 : decode cX10_layLayers 45 = .ok (.iconst 1, 1) := by decide +kernel
theorem dX10_layLayers_46 : decode cX10_layLayers 46 = .ok (.invokevirtual 227, 3) := by decide +kernel
theorem dX10_layLayers_49 : decode cX10_layLayers 49 = .ok (.invokevirtual 236, 3) := by decide +kernel
theorem dX10_layLayers_52 : decode cX10_layLayers 52 = .ok (.return_, 1) := by decide +kernel
theorem dX10_layLayers_53 : decode cX10_layLayers 53 = .ok (.iconst 0, 1) := by decide +kernel
theorem dX10_layLayers_54 : decode cX10_layLayers 54 = .ok (.istore 4, 2) := by decide +kernel
theorem dX10_layLayers_56 : decode cX10_layLayers 56 = .ok (.iconst 0, 1) := by decide +kernel
theorem dX10_layLayers_57 : decode cX10_layLayers 57 = .ok (.istore 5, 2) := by decide +kernel
theorem dX10_layLayers_59 : decode cX10_layLayers 59 = .ok (.iconst 0, 1) := by decide +kernel
theorem dX10_layLayers_60 : decode cX10_layLayers 60 = .ok (.istore 6, 2) := by decide +kernel
theorem dX10_layLayers_62 : decode cX10_layLayers 62 = .ok (.iload 6, 2) := by decide +kernel
theorem dX10_layLayers_64 : decode cX10_layLayers 64 = .ok (.iload_n 3, 1) := by decide +kernel
theorem dX10_layLayers_65 : decode cX10_layLayers 65 = .ok (.if_icmp .ge 70, 3) := by decide +kernel
theorem dX10_layLayers_68 : decode cX10_layLayers 68 = .ok (.aload_n 0, 1) := by decide +kernel
theorem dX10_layLayers_69 : decode cX10_layLayers 69 = .ok (.iload_n 1, 1) := by decide +kernel
theorem dX10_layLayers_70 : decode cX10_layLayers 70 = .ok (.iload 6, 2) := by decide +kernel
theorem dX10_layLayers_72 : decode cX10_layLayers 72 = .ok (.invokevirtual 153, 3) := by decide +kernel
theorem dX10_layLayers_75 : decode cX10_layLayers 75 = .ok (.istore 7, 2) := by decide +kernel
theorem dX10_layLayers_77 : decode cX10_layLayers 77 = .ok (.aload_n 0, 1) := by decide +kernel
theorem dX10_layLayers_78 : decode cX10_layLayers 78 = .ok (.iload 7, 2) := by decide +kernel
theorem dX10_layLayers_80 : decode cX10_layLayers 80 = .ok (.iconst 0, 1) := by decide +kernel
theorem dX10_layLayers_81 : decode cX10_layLayers 81 = .ok (.invokevirtual 243, 3) := by decide +kernel
theorem dX10_layLayers_84 : decode cX10_layLayers 84 = .ok (.iload 4, 2) := by decide +kernel
theorem dX10_layLayers_86 : decode cX10_layLayers 86 = .ok (.if_icmp .le 13, 3) := by decide +kernel
theorem dX10_layLayers_89 : decode cX10_layLayers 89 = .ok (.aload_n 0, 1) := by decide +kernel
theorem dX10_layLayers_90 : decode cX10_layLayers 90 = .ok (.iload 7, 2) := by decide +kernel
theorem dX10_layLayers_92 : decode cX10_layLayers 92 = .ok (.iconst 0, 1) := by decide +kernel
theorem dX10_layLayers_93 : decode cX10_layLayers 93 = .ok (.invokevirtual 243, 3) := by decide +kernel
theorem dX10_layLayers_96 : decode cX10_layLayers 96 = .ok (.goto 5, 3) := by decide +kernel
theorem dX10_layLayers_99 : decode cX10_layLayers 99 = .ok (.iload 4, 2) := by decide +kernel
theorem dX10_layLayers_101 : decode cX10_layLayers 101 = .ok (.istore 4, 2) := by decide +kernel
theorem dX10_layLayers_103 : decode cX10_layLayers 103 = .ok (.aload_n 0, 1) := by decide +kernel
theorem dX10_layLayers_104 : decode cX10_layLayers 104 = .ok (.iload 7, 2) := by decide +kernel
theorem dX10_layLayers_106 : decode cX10_layLayers 106 = .ok (.iconst 1, 1) := by decide +kernel
theorem dX10_layLayers_107 : decode cX10_layLayers 107 = .ok (.invokevirtual 243, 3) := by decide +kernel
theorem dX10_layLayers_110 : decode cX10_layLayers 110 = .ok (.iload 5, 2) := by decide +kernel
theorem dX10_layLayers_112 : decode cX10_layLayers 112 = .ok (.if_icmp .le 13, 3) := by decide +kernel
theorem dX10_layLayers_115 : decode cX10_layLayers 115 = .ok (.aload_n 0, 1) := by decide +kernel
theorem dX10_layLayers_116 : decode cX10_layLayers 116 = .ok (.iload 7, 2) := by decide +kernel
theorem dX10_layLayers_118 : decode cX10_layLayers 118 = .ok (.iconst 1, 1) := by decide +kernel
theorem dX10_layLayers_119 : decode cX10_layLayers 119 = .ok (.invokevirtual 243, 3) := by decide +kernel
theorem dX10_layLayers_122 : decode cX10_layLayers 122 = .ok (.goto 5, 3) := by decide +kernel
theorem dX10_layLayers_125 : decode cX10_layLayers 125 = .ok (.iload 5, 2) := by decide +kernel
theorem dX10_layLayers_127 : decode cX10_layLayers 127 = .ok (.istore 5, 2) := by decide +kernel
theorem dX10_layLayers_129 : decode cX10_layLayers 129 = .ok (.iinc 6 1, 3) := by decide +kernel
theorem dX10_layLayers_132 : decode cX10_layLayers 132 = .ok (.goto (-70), 3) := by decide +kernel
theorem dX10_layLayers_135 : decode cX10_layLayers 135 = .ok (.aload_n 0, 1) := by decide +kernel
theorem dX10_layLayers_136 : decode cX10_layLayers 136 = .ok (.iload_n 1, 1) := by decide +kernel
theorem dX10_layLayers_137 : decode cX10_layLayers 137 = .ok (.iload 4, 2) := by decide +kernel
theorem dX10_layLayers_139 : decode cX10_layLayers 139 = .ok (.iload 5, 2) := by decide +kernel
theorem dX10_layLayers_141 : decode cX10_layLayers 141 = .ok (.invokevirtual 230, 3) := by decide +kernel
theorem dX10_layLayers_144 : decode cX10_layLayers 144 = .ok (.aload_n 0, 1) := by decide +kernel
theorem dX10_layLayers_145 : decode cX10_layLayers 145 = .ok (.iload_n 1, 1) := by decide +kernel
theorem dX10_layLayers_146 : decode cX10_layLayers 146 = .ok (.iconst 2, 1) := by decide +kernel
theorem dX10_layLayers_147 : decode cX10_layLayers 147 = .ok (.invokevirtual 91, 3) := by decide +kernel
theorem dX10_layLayers_150 : decode cX10_layLayers 150 = .ok (.istore 6, 2) := by decide +kernel
theorem dX10_layLayers_152 : decode cX10_layLayers 152 = .ok (.iconst 0, 1) := by decide +kernel
theorem dX10_layLayers_153 : decode cX10_layLayers 153 = .ok (.istore 7, 2) := by decide +kernel
theorem dX10_layLayers_155 : decode cX10_layLayers 155 = .ok (.iload 7, 2) := by decide +kernel
theorem dX10_layLayers_157 : decode cX10_layLayers 157 = .ok (.iload_n 3, 1) := by decide +kernel
theorem dX10_layLayers_158 : decode cX10_layLayers 158 = .ok (.if_icmp .ge 62, 3) := by decide +kernel
theorem dX10_layLayers_161 : decode cX10_layLayers 161 = .ok (.aload_n 0, 1) := by decide +kernel
theorem dX10_layLayers_162 : decode cX10_layLayers 162 = .ok (.iload_n 1, 1) := by decide +kernel
theorem dX10_layLayers_163 : decode cX10_layLayers 163 = .ok (.iload 7, 2) := by decide +kernel
theorem dX10_layLayers_165 : decode cX10_layLayers 165 = .ok (.invokevirtual 153, 3) := by decide +kernel
theorem dX10_layLayers_168 : decode cX10_layLayers 168 = .ok (.istore 8, 2) := by decide +kernel
theorem dX10_layLayers_170 : decode cX10_layLayers 170 = .ok (.aload_n 0, 1) := by decide +kernel
theorem dX10_layLayers_171 : decode cX10_layLayers 171 = .ok (.iload 8, 2) := by decide +kernel
theorem dX10_layLayers_173 : decode cX10_layLayers 173 = .ok (.iload 6, 2) := by decide +kernel
theorem dX10_layLayers_175 : decode cX10_layLayers 175 = .ok (.aload_n 0, 1) := by decide +kernel
theorem dX10_layLayers_176 : decode cX10_layLayers 176 = .ok (.iload_n 1, 1) := by decide +kernel
theorem dX10_layLayers_177 : decode cX10_layLayers 177 = .ok (.iconst 0, 1) := by decide +kernel
theorem dX10_layLayers_178 : decode cX10_layLayers 178 = .ok (.invokevirtual 243, 3) := by decide +kernel
theorem dX10_layLayers_181 : decode cX10_layLayers 181 = .ok (.aload_n 0, 1) := by decide +kernel
theorem dX10_layLayers_182 : decode cX10_layLayers 182 = .ok (.iload 8, 2) := by decide +kernel
theorem dX10_layLayers_184 : decode cX10_layLayers 184 = .ok (.iconst 0, 1) := by decide +kernel
theorem dX10_layLayers_185 : decode cX10_layLayers 185 = .ok (.invokevirtual 243, 3) := by decide +kernel
theorem dX10_layLayers_188 : decode cX10_layLayers 188 = .ok (.isub, 1) := by decide +kernel
theorem dX10_layLayers_189 : decode cX10_layLayers 189 = .ok (.invokestatic 249, 3) := by decide +kernel
theorem dX10_layLayers_192 : decode cX10_layLayers 192 = .ok (.iload 6, 2) := by decide +kernel
theorem dX10_layLayers_194 : decode cX10_layLayers 194 = .ok (.aload_n 0, 1) := by decide +kernel
theorem dX10_layLayers_195 : decode cX10_layLayers 195 = .ok (.iload_n 1, 1) := by decide +kernel
theorem dX10_layLayers_196 : decode cX10_layLayers 196 = .ok (.iconst 1, 1) := by decide +kernel
theorem dX10_layLayers_197 : decode cX10_layLayers 197 = .ok (.invokevirtual 243, 3) := by decide +kernel
theorem dX10_layLayers_200 : decode cX10_layLayers 200 = .ok (.aload_n 0, 1) := by decide +kernel
theorem dX10_layLayers_201 : decode cX10_layLayers 201 = .ok (.iload 8, 2) := by decide +kernel
theorem dX10_layLayers_203 : decode cX10_layLayers 203 = .ok (.iconst 1, 1) := by decide +kernel
theorem dX10_layLayers_204 : decode cX10_layLayers 204 = .ok (.invokevirtual 243, 3) := by decide +kernel
theorem dX10_layLayers_207 : decode cX10_layLayers 207 = .ok (.isub, 1) := by decide +kernel
theorem dX10_layLayers_208 : decode cX10_layLayers 208 = .ok (.invokestatic 249, 3) := by decide +kernel
theorem dX10_layLayers_211 : decode cX10_layLayers 211 = .ok (.invokevirtual 240, 3) := by decide +kernel
theorem dX10_layLayers_214 : decode cX10_layLayers 214 = .ok (.iinc 7 1, 3) := by decide +kernel
theorem dX10_layLayers_217 : decode cX10_layLayers 217 = .ok (.goto (-62), 3) := by decide +kernel
theorem dX10_layLayers_220 : decode cX10_layLayers 220 = .ok (.return_, 1) := by decide +kernel
theorem dX10_alongOf_0 : decode cX10_alongOf 0 = .ok (.iload_n 0, 1) := by decide +kernel
theorem dX10_alongOf_1 : decode cX10_alongOf 1 = .ok (.bipush 8, 2) := by decide +kernel
theorem dX10_alongOf_3 : decode cX10_alongOf 3 = .ok (.if_icmp .ne 7, 3) := by decide +kernel
theorem dX10_alongOf_6 : decode cX10_alongOf 6 = .ok (.iconst 0, 1) := by decide +kernel
theorem dX10_alongOf_7 : decode cX10_alongOf 7 = .ok (.goto 4, 3) := by decide +kernel
theorem dX10_alongOf_10 : decode cX10_alongOf 10 = .ok (.iconst 1, 1) := by decide +kernel
theorem dX10_alongOf_11 : decode cX10_alongOf 11 = .ok (.ireturn, 1) := by decide +kernel
theorem dX10_hasPart_0 : decode cX10_hasPart 0 = .ok (.aload_n 0, 1) := by decide +kernel
theorem dX10_hasPart_1 : decode cX10_hasPart 1 = .ok (.iload_n 2, 1) := by decide +kernel
theorem dX10_hasPart_2 : decode cX10_hasPart 2 = .ok (.bipush 6, 2) := by decide +kernel
theorem dX10_hasPart_4 : decode cX10_hasPart 4 = .ok (.invokevirtual 91, 3) := by decide +kernel
theorem dX10_hasPart_7 : decode cX10_hasPart 7 = .ok (.ifCond .le 27, 3) := by decide +kernel
theorem dX10_hasPart_10 : decode cX10_hasPart 10 = .ok (.aload_n 0, 1) := by decide +kernel
theorem dX10_hasPart_11 : decode cX10_hasPart 11 = .ok (.iload_n 1, 1) := by decide +kernel
theorem dX10_hasPart_12 : decode cX10_hasPart 12 = .ok (.aload_n 0, 1) := by decide +kernel
theorem dX10_hasPart_13 : decode cX10_hasPart 13 = .ok (.iload_n 1, 1) := by decide +kernel
theorem dX10_hasPart_14 : decode cX10_hasPart 14 = .ok (.iconst 1, 1) := by decide +kernel
theorem dX10_hasPart_15 : decode cX10_hasPart 15 = .ok (.invokevirtual 91, 3) := by decide +kernel
theorem dX10_hasPart_18 : decode cX10_hasPart 18 = .ok (.invokestatic 252, 3) := by decide +kernel
theorem dX10_hasPart_21 : decode cX10_hasPart 21 = .ok (.invokevirtual 227, 3) := by decide +kernel
theorem dX10_hasPart_24 : decode cX10_hasPart 24 = .ok (.sipush 1000, 3) := by decide +kernel
theorem dX10_hasPart_27 : decode cX10_hasPart 27 = .ok (.if_icmp .eq 7, 3) := by decide +kernel
theorem dX10_hasPart_30 : decode cX10_hasPart 30 = .ok (.iconst 1, 1) := by decide +kernel
theorem dX10_hasPart_31 : decode cX10_hasPart 31 = .ok (.goto 4, 3) := by decide +kernel
theorem dX10_hasPart_34 : decode cX10_hasPart 34 = .ok (.iconst 0, 1) := by decide +kernel
theorem dX10_hasPart_35 : decode cX10_hasPart 35 = .ok (.ireturn, 1) := by decide +kernel
theorem dX10_gapsOf_0 : decode cX10_gapsOf 0 = .ok (.aload_n 0, 1) := by decide +kernel
theorem dX10_gapsOf_1 : decode cX10_gapsOf 1 = .ok (.iload_n 1, 1) := by decide +kernel
theorem dX10_gapsOf_2 : decode cX10_gapsOf 2 = .ok (.invokevirtual 117, 3) := by decide +kernel
theorem dX10_gapsOf_5 : decode cX10_gapsOf 5 = .ok (.istore_n 2, 1) := by decide +kernel
theorem dX10_gapsOf_6 : decode cX10_gapsOf 6 = .ok (.iload_n 2, 1) := by decide +kernel
theorem dX10_gapsOf_7 : decode cX10_gapsOf 7 = .ok (.iconst 1, 1) := by decide +kernel
theorem dX10_gapsOf_8 : decode cX10_gapsOf 8 = .ok (.if_icmp .le 16, 3) := by decide +kernel
theorem dX10_gapsOf_11 : decode cX10_gapsOf 11 = .ok (.iload_n 2, 1) := by decide +kernel
theorem dX10_gapsOf_12 : decode cX10_gapsOf 12 = .ok (.iconst 1, 1) := by decide +kernel
theorem dX10_gapsOf_13 : decode cX10_gapsOf 13 = .ok (.isub, 1) := by decide +kernel
theorem dX10_gapsOf_14 : decode cX10_gapsOf 14 = .ok (.aload_n 0, 1) := by decide +kernel
theorem dX10_gapsOf_15 : decode cX10_gapsOf 15 = .ok (.iload_n 1, 1) := by decide +kernel
theorem dX10_gapsOf_16 : decode cX10_gapsOf 16 = .ok (.iconst 3, 1) := by decide +kernel
theorem dX10_gapsOf_17 : decode cX10_gapsOf 17 = .ok (.invokevirtual 91, 3) := by decide +kernel
theorem dX10_gapsOf_20 : decode cX10_gapsOf 20 = .ok (.imul, 1) := by decide +kernel
theorem dX10_gapsOf_21 : decode cX10_gapsOf 21 = .ok (.goto 4, 3) := by decide +kernel
theorem dX10_gapsOf_24 : decode cX10_gapsOf 24 = .ok (.iconst 0, 1) := by decide +kernel
theorem dX10_gapsOf_25 : decode cX10_gapsOf 25 = .ok (.ireturn, 1) := by decide +kernel
theorem dX10_layAlong_0 : decode cX10_layAlong 0 = .ok (.aload_n 0, 1) := by decide +kernel
theorem dX10_layAlong_1 : decode cX10_layAlong 1 = .ok (.iload_n 1, 1) := by decide +kernel
theorem dX10_layAlong_2 : decode cX10_layAlong 2 = .ok (.iconst 1, 1) := by decide +kernel
theorem dX10_layAlong_3 : decode cX10_layAlong 3 = .ok (.invokevirtual 91, 3) := by decide +kernel
theorem dX10_layAlong_6 : decode cX10_layAlong 6 = .ok (.invokestatic 252, 3) := by decide +kernel
theorem dX10_layAlong_9 : decode cX10_layAlong 9 = .ok (.istore 5, 2) := by decide +kernel
theorem dX10_layAlong_11 : decode cX10_layAlong 11 = .ok (.aload_n 0, 1) := by decide +kernel
theorem dX10_layAlong_12 : decode cX10_layAlong 12 = .ok (.iload_n 1, 1) := by decide +kernel
theorem dX10_layAlong_13 : decode cX10_layAlong 13 = .ok (.iconst 1, 1) := by decide +kernel
theorem dX10_layAlong_14 : decode cX10_layAlong 14 = .ok (.iload 5, 2) := by decide +kernel
theorem dX10_layAlong_16 : decode cX10_layAlong 16 = .ok (.isub, 1) := by decide +kernel
theorem dX10_layAlong_17 : decode cX10_layAlong 17 = .ok (.invokevirtual 227, 3) := by decide +kernel
theorem dX10_layAlong_20 : decode cX10_layAlong 20 = .ok (.istore 6, 2) := by decide +kernel
theorem dX10_layAlong_22 : decode cX10_layAlong 22 = .ok (.aload_n 0, 1) := by decide +kernel
theorem dX10_layAlong_23 : decode cX10_layAlong 23 = .ok (.iload_n 1, 1) := by decide +kernel
theorem dX10_layAlong_24 : decode cX10_layAlong 24 = .ok (.iconst 2, 1) := by decide +kernel
theorem dX10_layAlong_25 : decode cX10_layAlong 25 = .ok (.invokevirtual 91, 3) := by decide +kernel
theorem dX10_layAlong_28 : decode cX10_layAlong 28 = .ok (.iconst 3, 1) := by decide +kernel
theorem dX10_layAlong_29 : decode cX10_layAlong 29 = .ok (.if_icmp .ne 16, 3) := by decide +kernel
theorem dX10_layAlong_32 : decode cX10_layAlong 32 = .ok (.iload 6, 2) := by decide +kernel
theorem dX10_layAlong_34 : decode cX10_layAlong 34 = .ok (.sipush 1000, 3) := by decide +kernel
theorem dX10_layAlong_37 : decode cX10_layAlong 37 = .ok (.if_icmp .eq 8, 3) := by decide +kernel
theorem dX10_layAlong_40 : decode cX10_layAlong 40 = .ok (.iload 6, 2) := by decide +kernel
theorem dX10_layAlong_42 : decode cX10_layAlong 42 = .ok (.goto 4, 3) := by decide +kernel
theorem dX10_layAlong_45 : decode cX10_layAlong 45 = .ok (.iconst 0, 1) := by decide +kernel
theorem dX10_layAlong_46 : decode cX10_layAlong 46 = .ok (.istore 7, 2) := by decide +kernel
theorem dX10_layAlong_48 : decode cX10_layAlong 48 = .ok (.iload 5, 2) := by decide +kernel
theorem dX10_layAlong_50 : decode cX10_layAlong 50 = .ok (.ifCond .ne 18, 3) := by decide +kernel
theorem dX10_layAlong_53 : decode cX10_layAlong 53 = .ok (.aload_n 0, 1) := by decide +kernel
theorem dX10_layAlong_54 : decode cX10_layAlong 54 = .ok (.iload_n 2, 1) := by decide +kernel
theorem dX10_layAlong_55 : decode cX10_layAlong 55 = .ok (.iload_n 3, 1) := by decide +kernel
theorem dX10_layAlong_56 : decode cX10_layAlong 56 = .ok (.iload 4, 2) := by decide +kernel
theorem dX10_layAlong_58 : decode cX10_layAlong 58 = .ok (.iload 7, 2) := by decide +kernel
theorem dX10_layAlong_60 : decode cX10_layAlong 60 = .ok (.iload 6, 2) := by decide +kernel
theorem dX10_layAlong_62 : decode cX10_layAlong 62 = .ok (.invokevirtual 236, 3) := by decide +kernel
theorem dX10_layAlong_65 : decode cX10_layAlong 65 = .ok (.goto 15, 3) := by decide +kernel
theorem dX10_layAlong_68 : decode cX10_layAlong 68 = .ok (.aload_n 0, 1) := by decide +kernel
theorem dX10_layAlong_69 : decode cX10_layAlong 69 = .ok (.iload_n 2, 1) := by decide +kernel
theorem dX10_layAlong_70 : decode cX10_layAlong 70 = .ok (.iload 7, 2) := by decide +kernel
theorem dX10_layAlong_72 : decode cX10_layAlong 72 = .ok (.iload 6, 2) := by decide +kernel
theorem dX10_layAlong_74 : decode cX10_layAlong 74 = .ok (.iload_n 3, 1) := by decide +kernel
theorem dX10_layAlong_75 : decode cX10_layAlong 75 = .ok (.iload 4, 2) := by decide +kernel
theorem dX10_layAlong_77 : decode cX10_layAlong 77 = .ok (.invokevirtual 236, 3) := by decide +kernel
theorem dX10_layAlong_80 : decode cX10_layAlong 80 = .ok (.return_, 1) := by decide +kernel
theorem dX10_parts_0 : decode cX10_parts 0 = .ok (.aload_n 0, 1) := by decide +kernel
theorem dX10_parts_1 : decode cX10_parts 1 = .ok (.iload_n 1, 1) := by decide +kernel
theorem dX10_parts_2 : decode cX10_parts 2 = .ok (.iconst 1, 1) := by decide +kernel
theorem dX10_parts_3 : decode cX10_parts 3 = .ok (.invokevirtual 91, 3) := by decide +kernel
theorem dX10_parts_6 : decode cX10_parts 6 = .ok (.invokestatic 252, 3) := by decide +kernel
theorem dX10_parts_9 : decode cX10_parts 9 = .ok (.istore_n 2, 1) := by decide +kernel
theorem dX10_parts_10 : decode cX10_parts 10 = .ok (.aload_n 0, 1) := by decide +kernel
theorem dX10_parts_11 : decode cX10_parts 11 = .ok (.iload_n 1, 1) := by decide +kernel
theorem dX10_parts_12 : decode cX10_parts 12 = .ok (.invokevirtual 117, 3) := by decide +kernel
theorem dX10_parts_15 : decode cX10_parts 15 = .ok (.istore_n 3, 1) := by decide +kernel
theorem dX10_parts_16 : decode cX10_parts 16 = .ok (.aload_n 0, 1) := by decide +kernel
theorem dX10_parts_17 : decode cX10_parts 17 = .ok (.iload_n 1, 1) := by decide +kernel
theorem dX10_parts_18 : decode cX10_parts 18 = .ok (.iload_n 2, 1) := by decide +kernel
theorem dX10_parts_19 : decode cX10_parts 19 = .ok (.invokevirtual 227, 3) := by decide +kernel
theorem dX10_parts_22 : decode cX10_parts 22 = .ok (.aload_n 0, 1) := by decide +kernel
theorem dX10_parts_23 : decode cX10_parts 23 = .ok (.iload_n 1, 1) := by decide +kernel
theorem dX10_parts_24 : decode cX10_parts 24 = .ok (.invokevirtual 255, 3) := by decide +kernel
theorem dX10_parts_27 : decode cX10_parts 27 = .ok (.isub, 1) := by decide +kernel
theorem dX10_parts_28 : decode cX10_parts 28 = .ok (.istore 4, 2) := by decide +kernel
theorem dX10_parts_30 : decode cX10_parts 30 = .ok (.iconst 0, 1) := by decide +kernel
theorem dX10_parts_31 : decode cX10_parts 31 = .ok (.istore 5, 2) := by decide +kernel
theorem dX10_parts_33 : decode cX10_parts 33 = .ok (.iconst 0, 1) := by decide +kernel
theorem dX10_parts_34 : decode cX10_parts 34 = .ok (.istore 6, 2) := by decide +kernel
theorem dX10_parts_36 : decode cX10_parts 36 = .ok (.iload 6, 2) := by decide +kernel
theorem dX10_parts_38 : decode cX10_parts 38 = .ok (.iload_n 3, 1) := by decide +kernel
theorem dX10_parts_39 : decode cX10_parts 39 = .ok (.if_icmp .ge 66, 3) := by decide +kernel
theorem dX10_parts_42 : decode cX10_parts 42 = .ok (.aload_n 0, 1) := by decide +kernel
theorem dX10_parts_43 : decode cX10_parts 43 = .ok (.iload_n 1, 1) := by decide +kernel
theorem dX10_parts_44 : decode cX10_parts 44 = .ok (.iload 6, 2) := by decide +kernel
theorem dX10_parts_46 : decode cX10_parts 46 = .ok (.invokevirtual 153, 3) := by decide +kernel
theorem dX10_parts_49 : decode cX10_parts 49 = .ok (.istore 7, 2) := by decide +kernel
theorem dX10_parts_51 : decode cX10_parts 51 = .ok (.aload_n 0, 1) := by decide +kernel
theorem dX10_parts_52 : decode cX10_parts 52 = .ok (.iload_n 1, 1) := by decide +kernel
theorem dX10_parts_53 : decode cX10_parts 53 = .ok (.iload 7, 2) := by decide +kernel
theorem dX10_parts_55 : decode cX10_parts 55 = .ok (.invokevirtual 258, 3) := by decide +kernel
theorem dX10_parts_58 : decode cX10_parts 58 = .ok (.istore 8, 2) := by decide +kernel
theorem dX10_parts_60 : decode cX10_parts 60 = .ok (.iload 4, 2) := by decide +kernel
theorem dX10_parts_62 : decode cX10_parts 62 = .ok (.iload 8, 2) := by decide +kernel
theorem dX10_parts_64 : decode cX10_parts 64 = .ok (.ifCond .eq 7, 3) := by decide +kernel
theorem dX10_parts_67 : decode cX10_parts 67 = .ok (.iconst 0, 1) := by decide +kernel
theorem dX10_parts_68 : decode cX10_parts 68 = .ok (.goto 10, 3) := by decide +kernel
theorem dX10_parts_71 : decode cX10_parts 71 = .ok (.aload_n 0, 1) := by decide +kernel
theorem dX10_parts_72 : decode cX10_parts 72 = .ok (.iload 7, 2) := by decide +kernel
theorem dX10_parts_74 : decode cX10_parts 74 = .ok (.iload_n 2, 1) := by decide +kernel
theorem dX10_parts_75 : decode cX10_parts 75 = .ok (.invokevirtual 243, 3) := by decide +kernel
theorem dX10_parts_78 : decode cX10_parts 78 = .ok (.isub, 1) := by decide +kernel
theorem dX10_parts_79 : decode cX10_parts 79 = .ok (.istore 4, 2) := by decide +kernel
theorem dX10_parts_81 : decode cX10_parts 81 = .ok (.iload 5, 2) := by decide +kernel
theorem dX10_parts_83 : decode cX10_parts 83 = .ok (.iload 8, 2) := by decide +kernel
theorem dX10_parts_85 : decode cX10_parts 85 = .ok (.ifCond .eq 10, 3) := by decide +kernel
theorem dX10_parts_88 : decode cX10_parts 88 = .ok (.iconst 1, 1) := by decide +kernel
theorem dX10_parts_89 : decode cX10_parts 89 = .ok (.iload 6, 2) := by decide +kernel
theorem dX10_parts_91 : decode cX10_parts 91 = .ok (.ishl, 1) := by decide +kernel
theorem dX10_parts_92 : decode cX10_parts 92 = .ok (.goto 4, 3) := by decide +kernel
theorem dX10_parts_95 : decode cX10_parts 95 = .ok (.iconst 0, 1) := by decide +kernel
theorem dX10_parts_96 : decode cX10_parts 96 = .ok (.ior, 1) := by decide +kernel
theorem dX10_parts_97 : decode cX10_parts 97 = .ok (.istore 5, 2) := by decide +kernel
theorem dX10_parts_99 : decode cX10_parts 99 = .ok (.iinc 6 1, 3) := by decide +kernel
theorem dX10_parts_102 : decode cX10_parts 102 = .ok (.goto (-66), 3) := by decide +kernel
theorem dX10_parts_105 : decode cX10_parts 105 = .ok (.iload 4, 2) := by decide +kernel
theorem dX10_parts_107 : decode cX10_parts 107 = .ok (.ifCond .ge 7, 3) := by decide +kernel
theorem dX10_parts_110 : decode cX10_parts 110 = .ok (.iconst 0, 1) := by decide +kernel
theorem dX10_parts_111 : decode cX10_parts 111 = .ok (.goto 5, 3) := by decide +kernel
theorem dX10_parts_114 : decode cX10_parts 114 = .ok (.iload 4, 2) := by decide +kernel
theorem dX10_parts_116 : decode cX10_parts 116 = .ok (.istore 4, 2) := by decide +kernel
theorem dX10_parts_118 : decode cX10_parts 118 = .ok (.aload_n 0, 1) := by decide +kernel
theorem dX10_parts_119 : decode cX10_parts 119 = .ok (.iconst 0, 1) := by decide +kernel
theorem dX10_parts_120 : decode cX10_parts 120 = .ok (.putfield 261, 3) := by decide +kernel
theorem dX10_parts_123 : decode cX10_parts 123 = .ok (.iload 5, 2) := by decide +kernel
theorem dX10_parts_125 : decode cX10_parts 125 = .ok (.ifCond .eq 96, 3) := by decide +kernel
theorem dX10_parts_128 : decode cX10_parts 128 = .ok (.aload_n 0, 1) := by decide +kernel
theorem dX10_parts_129 : decode cX10_parts 129 = .ok (.iload_n 1, 1) := by decide +kernel
theorem dX10_parts_130 : decode cX10_parts 130 = .ok (.iload 4, 2) := by decide +kernel
theorem dX10_parts_132 : decode cX10_parts 132 = .ok (.iload 5, 2) := by decide +kernel
theorem dX10_parts_134 : decode cX10_parts 134 = .ok (.invokevirtual 264, 3) := by decide +kernel
theorem dX10_parts_137 : decode cX10_parts 137 = .ok (.istore 6, 2) := by decide +kernel
theorem dX10_parts_139 : decode cX10_parts 139 = .ok (.iconst 0, 1) := by decide +kernel
theorem dX10_parts_140 : decode cX10_parts 140 = .ok (.istore 7, 2) := by decide +kernel
theorem dX10_parts_142 : decode cX10_parts 142 = .ok (.iload 7, 2) := by decide +kernel
theorem dX10_parts_144 : decode cX10_parts 144 = .ok (.iload_n 3, 1) := by decide +kernel
theorem dX10_parts_145 : decode cX10_parts 145 = .ok (.if_icmp .ge 41, 3) := by decide +kernel
theorem dX10_parts_148 : decode cX10_parts 148 = .ok (.iload 4, 2) := by decide +kernel
theorem dX10_parts_150 : decode cX10_parts 150 = .ok (.iload 6, 2) := by decide +kernel
theorem dX10_parts_152 : decode cX10_parts 152 = .ok (.iload 7, 2) := by decide +kernel
theorem dX10_parts_154 : decode cX10_parts 154 = .ok (.ishr, 1) := by decide +kernel
theorem dX10_parts_155 : decode cX10_parts 155 = .ok (.iconst 1, 1) := by decide +kernel
theorem dX10_parts_156 : decode cX10_parts 156 = .ok (.iand, 1) := by decide +kernel
theorem dX10_parts_157 : decode cX10_parts 157 = .ok (.iconst 1, 1) := by decide +kernel
theorem dX10_parts_158 : decode cX10_parts 158 = .ok (.if_icmp .ne 18, 3) := by decide +kernel
theorem dX10_parts_161 : decode cX10_parts 161 = .ok (.aload_n 0, 1) := by decide +kernel
theorem dX10_parts_162 : decode cX10_parts 162 = .ok (.getfield 45, 3) := by decide +kernel
theorem dX10_parts_165 : decode cX10_parts 165 = .ok (.bipush 8, 2) := by decide +kernel
theorem dX10_parts_167 : decode cX10_parts 167 = .ok (.iload_n 1, 1) := by decide +kernel
theorem dX10_parts_168 : decode cX10_parts 168 = .ok (.imul, 1) := by decide +kernel
theorem dX10_parts_169 : decode cX10_parts 169 = .ok (.iload 7, 2) := by decide +kernel
theorem dX10_parts_171 : decode cX10_parts 171 = .ok (.iadd, 1) := by decide +kernel
theorem dX10_parts_172 : decode cX10_parts 172 = .ok (.iaload, 1) := by decide +kernel
theorem dX10_parts_173 : decode cX10_parts 173 = .ok (.goto 4, 3) := by decide +kernel
theorem dX10_parts_176 : decode cX10_parts 176 = .ok (.iconst 0, 1) := by decide +kernel
theorem dX10_parts_177 : decode cX10_parts 177 = .ok (.isub, 1) := by decide +kernel
theorem dX10_parts_178 : decode cX10_parts 178 = .ok (.istore 4, 2) := by decide +kernel
theorem dX10_parts_180 : decode cX10_parts 180 = .ok (.iinc 7 1, 3) := by decide +kernel
theorem dX10_parts_183 : decode cX10_parts 183 = .ok (.goto (-41), 3) := by decide +kernel
theorem dX10_parts_186 : decode cX10_parts 186 = .ok (.iload 4, 2) := by decide +kernel
theorem dX10_parts_188 : decode cX10_parts 188 = .ok (.ifCond .ge 7, 3) := by decide +kernel
theorem dX10_parts_191 : decode cX10_parts 191 = .ok (.iconst 0, 1) := by decide +kernel
theorem dX10_parts_192 : decode cX10_parts 192 = .ok (.goto 5, 3) := by decide +kernel
theorem dX10_parts_195 : decode cX10_parts 195 = .ok (.iload 4, 2) := by decide +kernel
theorem dX10_parts_197 : decode cX10_parts 197 = .ok (.istore 4, 2) := by decide +kernel
theorem dX10_parts_199 : decode cX10_parts 199 = .ok (.iload 5, 2) := by decide +kernel
theorem dX10_parts_201 : decode cX10_parts 201 = .ok (.iload 6, 2) := by decide +kernel
theorem dX10_parts_203 : decode cX10_parts 203 = .ok (.iconst (-1), 1) := by decide +kernel
theorem dX10_parts_204 : decode cX10_parts 204 = .ok (.ixor, 1) := by decide +kernel
theorem dX10_parts_205 : decode cX10_parts 205 = .ok (.iand, 1) := by decide +kernel
theorem dX10_parts_206 : decode cX10_parts 206 = .ok (.istore 5, 2) := by decide +kernel
theorem dX10_parts_208 : decode cX10_parts 208 = .ok (.aload_n 0, 1) := by decide +kernel
theorem dX10_parts_209 : decode cX10_parts 209 = .ok (.dup, 1) := by decide +kernel
theorem dX10_parts_210 : decode cX10_parts 210 = .ok (.getfield 261, 3) := by decide +kernel
theorem dX10_parts_213 : decode cX10_parts 213 = .ok (.iconst 1, 1) := by decide +kernel
theorem dX10_parts_214 : decode cX10_parts 214 = .ok (.iadd, 1) := by decide +kernel
theorem dX10_parts_215 : decode cX10_parts 215 = .ok (.putfield 261, 3) := by decide +kernel
theorem dX10_parts_218 : decode cX10_parts 218 = .ok (.goto (-95), 3) := by decide +kernel
theorem dX10_parts_221 : decode cX10_parts 221 = .ok (.return_, 1) := by decide +kernel
theorem dX10_roundOf_0 : decode cX10_roundOf 0 = .ok (.aload_n 0, 1) := by decide +kernel
theorem dX10_roundOf_1 : decode cX10_roundOf 1 = .ok (.iload_n 1, 1) := by decide +kernel
theorem dX10_roundOf_2 : decode cX10_roundOf 2 = .ok (.invokevirtual 117, 3) := by decide +kernel
theorem dX10_roundOf_5 : decode cX10_roundOf 5 = .ok (.istore 4, 2) := by decide +kernel
theorem dX10_roundOf_7 : decode cX10_roundOf 7 = .ok (.iconst 0, 1) := by decide +kernel
theorem dX10_roundOf_8 : decode cX10_roundOf 8 = .ok (.istore 5, 2) := by decide +kernel
theorem dX10_roundOf_10 : decode cX10_roundOf 10 = .ok (.iload_n 2, 1) := by decide +kernel
theorem dX10_roundOf_11 : decode cX10_roundOf 11 = .ok (.istore 6, 2) := by decide +kernel
theorem dX10_roundOf_13 : decode cX10_roundOf 13 = .ok (.iconst 0, 1) := by decide +kernel
theorem dX10_roundOf_14 : decode cX10_roundOf 14 = .ok (.istore 7, 2) := by decide +kernel
theorem dX10_roundOf_16 : decode cX10_roundOf 16 = .ok (.iload 7, 2) := by decide +kernel
theorem dX10_roundOf_18 : decode cX10_roundOf 18 = .ok (.iload 4, 2) := by decide +kernel
theorem dX10_roundOf_20 : decode cX10_roundOf 20 = .ok (.if_icmp .ge 41, 3) := by decide +kernel
theorem dX10_roundOf_23 : decode cX10_roundOf 23 = .ok (.iload 5, 2) := by decide +kernel
theorem dX10_roundOf_25 : decode cX10_roundOf 25 = .ok (.iload_n 3, 1) := by decide +kernel
theorem dX10_roundOf_26 : decode cX10_roundOf 26 = .ok (.iload 7, 2) := by decide +kernel
theorem dX10_roundOf_28 : decode cX10_roundOf 28 = .ok (.ishr, 1) := by decide +kernel
theorem dX10_roundOf_29 : decode cX10_roundOf 29 = .ok (.iconst 1, 1) := by decide +kernel
theorem dX10_roundOf_30 : decode cX10_roundOf 30 = .ok (.iand, 1) := by decide +kernel
theorem dX10_roundOf_31 : decode cX10_roundOf 31 = .ok (.iconst 1, 1) := by decide +kernel
theorem dX10_roundOf_32 : decode cX10_roundOf 32 = .ok (.if_icmp .ne 19, 3) := by decide +kernel
theorem dX10_roundOf_35 : decode cX10_roundOf 35 = .ok (.aload_n 0, 1) := by decide +kernel
theorem dX10_roundOf_36 : decode cX10_roundOf 36 = .ok (.aload_n 0, 1) := by decide +kernel
theorem dX10_roundOf_37 : decode cX10_roundOf 37 = .ok (.iload_n 1, 1) := by decide +kernel
theorem dX10_roundOf_38 : decode cX10_roundOf 38 = .ok (.iload 7, 2) := by decide +kernel
theorem dX10_roundOf_40 : decode cX10_roundOf 40 = .ok (.invokevirtual 153, 3) := by decide +kernel
theorem dX10_roundOf_43 : decode cX10_roundOf 43 = .ok (.bipush 6, 2) := by decide +kernel
theorem dX10_roundOf_45 : decode cX10_roundOf 45 = .ok (.invokevirtual 91, 3) := by decide +kernel
theorem dX10_roundOf_48 : decode cX10_roundOf 48 = .ok (.goto 4, 3) := by decide +kernel
theorem dX10_roundOf_51 : decode cX10_roundOf 51 = .ok (.iconst 0, 1) := by decide +kernel
theorem dX10_roundOf_52 : decode cX10_roundOf 52 = .ok (.iadd, 1) := by decide +kernel
theorem dX10_roundOf_53 : decode cX10_roundOf 53 = .ok (.istore 5, 2) := by decide +kernel
theorem dX10_roundOf_55 : decode cX10_roundOf 55 = .ok (.iinc 7 1, 3) := by decide +kernel
theorem dX10_roundOf_58 : decode cX10_roundOf 58 = .ok (.goto (-42), 3) := by decide +kernel
theorem dX10_roundOf_61 : decode cX10_roundOf 61 = .ok (.iconst 0, 1) := by decide +kernel
theorem dX10_roundOf_62 : decode cX10_roundOf 62 = .ok (.istore 7, 2) := by decide +kernel
theorem dX10_roundOf_64 : decode cX10_roundOf 64 = .ok (.iload 7, 2) := by decide +kernel
theorem dX10_roundOf_66 : decode cX10_roundOf 66 = .ok (.iload 4, 2) := by decide +kernel
theorem dX10_roundOf_68 : decode cX10_roundOf 68 = .ok (.if_icmp .ge 66, 3) := by decide +kernel
theorem dX10_roundOf_71 : decode cX10_roundOf 71 = .ok (.iload_n 3, 1) := by decide +kernel
theorem dX10_roundOf_72 : decode cX10_roundOf 72 = .ok (.iload 7, 2) := by decide +kernel
theorem dX10_roundOf_74 : decode cX10_roundOf 74 = .ok (.ishr, 1) := by decide +kernel
theorem dX10_roundOf_75 : decode cX10_roundOf 75 = .ok (.iconst 1, 1) := by decide +kernel
theorem dX10_roundOf_76 : decode cX10_roundOf 76 = .ok (.iand, 1) := by decide +kernel
theorem dX10_roundOf_77 : decode cX10_roundOf 77 = .ok (.iconst 1, 1) := by decide +kernel
theorem dX10_roundOf_78 : decode cX10_roundOf 78 = .ok (.if_icmp .ne 50, 3) := by decide +kernel
theorem dX10_roundOf_81 : decode cX10_roundOf 81 = .ok (.aload_n 0, 1) := by decide +kernel
theorem dX10_roundOf_82 : decode cX10_roundOf 82 = .ok (.getfield 45, 3) := by decide +kernel
theorem dX10_roundOf_85 : decode cX10_roundOf 85 = .ok (.bipush 8, 2) := by decide +kernel
theorem dX10_roundOf_87 : decode cX10_roundOf 87 = .ok (.iload_n 1, 1) := by decide +kernel
theorem dX10_roundOf_88 : decode cX10_roundOf 88 = .ok (.imul, 1) := by decide +kernel
theorem dX10_roundOf_89 : decode cX10_roundOf 89 = .ok (.iload 7, 2) := by decide +kernel
theorem dX10_roundOf_91 : decode cX10_roundOf 91 = .ok (.iadd, 1) := by decide +kernel
theorem dX10_roundOf_92 : decode cX10_roundOf 92 = .ok (.iload_n 2, 1) := by decide +kernel
theorem dX10_roundOf_93 : decode cX10_roundOf 93 = .ok (.aload_n 0, 1) := by decide +kernel
theorem dX10_roundOf_94 : decode cX10_roundOf 94 = .ok (.aload_n 0, 1) := by decide +kernel
theorem dX10_roundOf_95 : decode cX10_roundOf 95 = .ok (.iload_n 1, 1) := by decide +kernel
theorem dX10_roundOf_96 : decode cX10_roundOf 96 = .ok (.iload 7, 2) := by decide +kernel
theorem dX10_roundOf_98 : decode cX10_roundOf 98 = .ok (.invokevirtual 153, 3) := by decide +kernel
theorem dX10_roundOf_101 : decode cX10_roundOf 101 = .ok (.bipush 6, 2) := by decide +kernel
theorem dX10_roundOf_103 : decode cX10_roundOf 103 = .ok (.invokevirtual 91, 3) := by decide +kernel
theorem dX10_roundOf_106 : decode cX10_roundOf 106 = .ok (.imul, 1) := by decide +kernel
theorem dX10_roundOf_107 : decode cX10_roundOf 107 = .ok (.iload 5, 2) := by decide +kernel
theorem dX10_roundOf_109 : decode cX10_roundOf 109 = .ok (.idiv, 1) := by decide +kernel
theorem dX10_roundOf_110 : decode cX10_roundOf 110 = .ok (.iastore, 1) := by decide +kernel
theorem dX10_roundOf_111 : decode cX10_roundOf 111 = .ok (.iload 6, 2) := by decide +kernel
theorem dX10_roundOf_113 : decode cX10_roundOf 113 = .ok (.aload_n 0, 1) := by decide +kernel
theorem dX10_roundOf_114 : decode cX10_roundOf 114 = .ok (.getfield 45, 3) := by decide +kernel
theorem dX10_roundOf_117 : decode cX10_roundOf 117 = .ok (.bipush 8, 2) := by decide +kernel
theorem dX10_roundOf_119 : decode cX10_roundOf 119 = .ok (.iload_n 1, 1) := by decide +kernel
theorem dX10_roundOf_120 : decode cX10_roundOf 120 = .ok (.imul, 1) := by decide +kernel
theorem dX10_roundOf_121 : decode cX10_roundOf 121 = .ok (.iload 7, 2) := by decide +kernel
theorem dX10_roundOf_123 : decode cX10_roundOf 123 = .ok (.iadd, 1) := by decide +kernel
theorem dX10_roundOf_124 : decode cX10_roundOf 124 = .ok (.iaload, 1) := by decide +kernel
theorem dX10_roundOf_125 : decode cX10_roundOf 125 = .ok (.isub, 1) := by decide +kernel
theorem dX10_roundOf_126 : decode cX10_roundOf 126 = .ok (.istore 6, 2) := by decide +kernel
theorem dX10_roundOf_128 : decode cX10_roundOf 128 = .ok (.iinc 7 1, 3) := by decide +kernel
theorem dX10_roundOf_131 : decode cX10_roundOf 131 = .ok (.goto (-67), 3) := by decide +kernel
theorem dX10_roundOf_134 : decode cX10_roundOf 134 = .ok (.iconst 0, 1) := by decide +kernel
theorem dX10_roundOf_135 : decode cX10_roundOf 135 = .ok (.istore 7, 2) := by decide +kernel
theorem dX10_roundOf_137 : decode cX10_roundOf 137 = .ok (.iconst 0, 1) := by decide +kernel
theorem dX10_roundOf_138 : decode cX10_roundOf 138 = .ok (.istore 8, 2) := by decide +kernel
theorem dX10_roundOf_140 : decode cX10_roundOf 140 = .ok (.iconst 0, 1) := by decide +kernel
theorem dX10_roundOf_141 : decode cX10_roundOf 141 = .ok (.istore 9, 2) := by decide +kernel
theorem dX10_roundOf_143 : decode cX10_roundOf 143 = .ok (.iconst 0, 1) := by decide +kernel
theorem dX10_roundOf_144 : decode cX10_roundOf 144 = .ok (.istore 10, 2) := by decide +kernel
theorem dX10_roundOf_146 : decode cX10_roundOf 146 = .ok (.iload 10, 2) := by decide +kernel
theorem dX10_roundOf_148 : decode cX10_roundOf 148 = .ok (.iload 4, 2) := by decide +kernel
theorem dX10_roundOf_150 : decode cX10_roundOf 150 = .ok (.if_icmp .ge 155, 3) := by decide +kernel
theorem dX10_roundOf_153 : decode cX10_roundOf 153 = .ok (.iload_n 3, 1) := by decide +kernel
theorem dX10_roundOf_154 : decode cX10_roundOf 154 = .ok (.iload 10, 2) := by decide +kernel
theorem dX10_roundOf_156 : decode cX10_roundOf 156 = .ok (.ishr, 1) := by decide +kernel
theorem dX10_roundOf_157 : decode cX10_roundOf 157 = .ok (.iconst 1, 1) := by decide +kernel
theorem dX10_roundOf_158 : decode cX10_roundOf 158 = .ok (.iand, 1) := by decide +kernel
theorem dX10_roundOf_159 : decode cX10_roundOf 159 = .ok (.iconst 1, 1) := by decide +kernel
theorem dX10_roundOf_160 : decode cX10_roundOf 160 = .ok (.if_icmp .ne 139, 3) := by decide +kernel
theorem dX10_roundOf_163 : decode cX10_roundOf 163 = .ok (.aload_n 0, 1) := by decide +kernel
theorem dX10_roundOf_164 : decode cX10_roundOf 164 = .ok (.iload_n 1, 1) := by decide +kernel
theorem dX10_roundOf_165 : decode cX10_roundOf 165 = .ok (.iload 10, 2) := by decide +kernel
theorem dX10_roundOf_167 : decode cX10_roundOf 167 = .ok (.invokevirtual 153, 3) := by decide +kernel
theorem dX10_roundOf_170 : decode cX10_roundOf 170 = .ok (.istore 11, 2) := by decide +kernel
theorem dX10_roundOf_172 : decode cX10_roundOf 172 = .ok (.aload_n 0, 1) := by decide +kernel
theorem dX10_roundOf_173 : decode cX10_roundOf 173 = .ok (.getfield 45, 3) := by decide +kernel
theorem dX10_roundOf_176 : decode cX10_roundOf 176 = .ok (.bipush 8, 2) := by decide +kernel
theorem dX10_roundOf_178 : decode cX10_roundOf 178 = .ok (.iload_n 1, 1) := by decide +kernel
theorem dX10_roundOf_179 : decode cX10_roundOf 179 = .ok (.imul, 1) := by decide +kernel
theorem dX10_roundOf_180 : decode cX10_roundOf 180 = .ok (.iload 10, 2) := by decide +kernel
theorem dX10_roundOf_182 : decode cX10_roundOf 182 = .ok (.iadd, 1) := by decide +kernel
theorem dX10_roundOf_183 : decode cX10_roundOf 183 = .ok (.iaload, 1) := by decide +kernel
theorem dX10_roundOf_184 : decode cX10_roundOf 184 = .ok (.iload 6, 2) := by decide +kernel
theorem dX10_roundOf_186 : decode cX10_roundOf 186 = .ok (.ifCond .le 7, 3) := by decide +kernel
theorem dX10_roundOf_189 : decode cX10_roundOf 189 = .ok (.iconst 1, 1) := by decide +kernel
theorem dX10_roundOf_190 : decode cX10_roundOf 190 = .ok (.goto 4, 3) := by decide +kernel
theorem dX10_roundOf_193 : decode cX10_roundOf 193 = .ok (.iconst 0, 1) := by decide +kernel
theorem dX10_roundOf_194 : decode cX10_roundOf 194 = .ok (.iadd, 1) := by decide +kernel
theorem dX10_roundOf_195 : decode cX10_roundOf 195 = .ok (.istore 12, 2) := by decide +kernel
theorem dX10_roundOf_197 : decode cX10_roundOf 197 = .ok (.iload 6, 2) := by decide +kernel
theorem dX10_roundOf_199 : decode cX10_roundOf 199 = .ok (.iload 6, 2) := by decide +kernel
theorem dX10_roundOf_201 : decode cX10_roundOf 201 = .ok (.ifCond .le 7, 3) := by decide +kernel
theorem dX10_roundOf_204 : decode cX10_roundOf 204 = .ok (.iconst 1, 1) := by decide +kernel
theorem dX10_roundOf_205 : decode cX10_roundOf 205 = .ok (.goto 4, 3) := by decide +kernel
theorem dX10_roundOf_208 : decode cX10_roundOf 208 = .ok (.iconst 0, 1) := by decide +kernel
