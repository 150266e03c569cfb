theorem dX10_roundOf_209 : decode cX10_roundOf 209 = .ok (.isub, 1) := by decide +kernel
theorem dX10_roundOf_210 : decode cX10_roundOf 210 = .ok (.istore 6, 2) := by decide +kernel
theorem dX10_roundOf_212 : decode cX10_roundOf 212 = .ok (.iload 12, 2) := by decide +kernel
theorem dX10_roundOf_214 : decode cX10_roundOf 214 = .ok (.aload_n 0, 1) := by decide +kernel
theorem dX10_roundOf_215 : decode cX10_roundOf 215 = .ok (.iload 11, 2) := by decide +kernel
theorem dX10_roundOf_217 : decode cX10_roundOf 217 = .ok (.bipush 7, 2) := by decide +kernel
theorem dX10_roundOf_219 : decode cX10_roundOf 219 = .ok (.invokevirtual 91, 3) := by decide +kernel
theorem dX10_roundOf_222 : decode cX10_roundOf 222 = .ok (.aload_n 0, 1) := by decide +kernel
theorem dX10_roundOf_223 : decode cX10_roundOf 223 = .ok (.iload 11, 2) := by decide +kernel
theorem dX10_roundOf_225 : decode cX10_roundOf 225 = .ok (.bipush 8, 2) := by decide +kernel
theorem dX10_roundOf_227 : decode cX10_roundOf 227 = .ok (.invokevirtual 91, 3) := by decide +kernel
theorem dX10_roundOf_230 : decode cX10_roundOf 230 = .ok (.invokestatic 181, 3) := by decide +kernel
theorem dX10_roundOf_233 : decode cX10_roundOf 233 = .ok (.invokestatic 184, 3) := by decide +kernel
theorem dX10_roundOf_236 : decode cX10_roundOf 236 = .ok (.istore 13, 2) := by decide +kernel
theorem dX10_roundOf_238 : decode cX10_roundOf 238 = .ok (.iload 8, 2) := by decide +kernel
theorem dX10_roundOf_240 : decode cX10_roundOf 240 = .ok (.iload 13, 2) := by decide +kernel
theorem dX10_roundOf_242 : decode cX10_roundOf 242 = .ok (.iload 12, 2) := by decide +kernel
theorem dX10_roundOf_244 : decode cX10_roundOf 244 = .ok (.if_icmp .le 10, 3) := by decide +kernel
theorem dX10_roundOf_247 : decode cX10_roundOf 247 = .ok (.iconst 1, 1) := by decide +kernel
theorem dX10_roundOf_248 : decode cX10_roundOf 248 = .ok (.iload 10, 2) := by decide +kernel
theorem dX10_roundOf_250 : decode cX10_roundOf 250 = .ok (.ishl, 1) := by decide +kernel
theorem dX10_roundOf_251 : decode cX10_roundOf 251 = .ok (.goto 4, 3) := by decide +kernel
theorem dX10_roundOf_254 : decode cX10_roundOf 254 = .ok (.iconst 0, 1) := by decide +kernel
theorem dX10_roundOf_255 : decode cX10_roundOf 255 = .ok (.ior, 1) := by decide +kernel
theorem dX10_roundOf_256 : decode cX10_roundOf 256 = .ok (.istore 8, 2) := by decide +kernel
theorem dX10_roundOf_258 : decode cX10_roundOf 258 = .ok (.iload 9, 2) := by decide +kernel
theorem dX10_roundOf_260 : decode cX10_roundOf 260 = .ok (.iload 13, 2) := by decide +kernel
theorem dX10_roundOf_262 : decode cX10_roundOf 262 = .ok (.iload 12, 2) := by decide +kernel
theorem dX10_roundOf_264 : decode cX10_roundOf 264 = .ok (.if_icmp .ge 10, 3) := by decide +kernel
theorem dX10_roundOf_267 : decode cX10_roundOf 267 = .ok (.iconst 1, 1) := by decide +kernel
theorem dX10_roundOf_268 : decode cX10_roundOf 268 = .ok (.iload 10, 2) := by decide +kernel
theorem dX10_roundOf_270 : decode cX10_roundOf 270 = .ok (.ishl, 1) := by decide +kernel
theorem dX10_roundOf_271 : decode cX10_roundOf 271 = .ok (.goto 4, 3) := by decide +kernel
theorem dX10_roundOf_274 : decode cX10_roundOf 274 = .ok (.iconst 0, 1) := by decide +kernel
theorem dX10_roundOf_275 : decode cX10_roundOf 275 = .ok (.ior, 1) := by decide +kernel
theorem dX10_roundOf_276 : decode cX10_roundOf 276 = .ok (.istore 9, 2) := by decide +kernel
theorem dX10_roundOf_278 : decode cX10_roundOf 278 = .ok (.aload_n 0, 1) := by decide +kernel
theorem dX10_roundOf_279 : decode cX10_roundOf 279 = .ok (.getfield 45, 3) := by decide +kernel
theorem dX10_roundOf_282 : decode cX10_roundOf 282 = .ok (.bipush 8, 2) := by decide +kernel
theorem dX10_roundOf_284 : decode cX10_roundOf 284 = .ok (.iload_n 1, 1) := by decide +kernel
theorem dX10_roundOf_285 : decode cX10_roundOf 285 = .ok (.imul, 1) := by decide +kernel
theorem dX10_roundOf_286 : decode cX10_roundOf 286 = .ok (.iload 10, 2) := by decide +kernel
theorem dX10_roundOf_288 : decode cX10_roundOf 288 = .ok (.iadd, 1) := by decide +kernel
theorem dX10_roundOf_289 : decode cX10_roundOf 289 = .ok (.iload 13, 2) := by decide +kernel
theorem dX10_roundOf_291 : decode cX10_roundOf 291 = .ok (.iastore, 1) := by decide +kernel
theorem dX10_roundOf_292 : decode cX10_roundOf 292 = .ok (.iload 7, 2) := by decide +kernel
theorem dX10_roundOf_294 : decode cX10_roundOf 294 = .ok (.iload 13, 2) := by decide +kernel
theorem dX10_roundOf_296 : decode cX10_roundOf 296 = .ok (.iadd, 1) := by decide +kernel
theorem dX10_roundOf_297 : decode cX10_roundOf 297 = .ok (.istore 7, 2) := by decide +kernel
theorem dX10_roundOf_299 : decode cX10_roundOf 299 = .ok (.iinc 10 1, 3) := by decide +kernel
theorem dX10_roundOf_302 : decode cX10_roundOf 302 = .ok (.goto (-156), 3) := by decide +kernel
theorem dX10_roundOf_305 : decode cX10_roundOf 305 = .ok (.iload 7, 2) := by decide +kernel
theorem dX10_roundOf_307 : decode cX10_roundOf 307 = .ok (.iload_n 2, 1) := by decide +kernel
theorem dX10_roundOf_308 : decode cX10_roundOf 308 = .ok (.if_icmp .ne 7, 3) := by decide +kernel
theorem dX10_roundOf_311 : decode cX10_roundOf 311 = .ok (.iload_n 3, 1) := by decide +kernel
theorem dX10_roundOf_312 : decode cX10_roundOf 312 = .ok (.goto 16, 3) := by decide +kernel
theorem dX10_roundOf_315 : decode cX10_roundOf 315 = .ok (.iload 7, 2) := by decide +kernel
theorem dX10_roundOf_317 : decode cX10_roundOf 317 = .ok (.iload_n 2, 1) := by decide +kernel
theorem dX10_roundOf_318 : decode cX10_roundOf 318 = .ok (.if_icmp .le 8, 3) := by decide +kernel
theorem dX10_roundOf_321 : decode cX10_roundOf 321 = .ok (.iload 8, 2) := by decide +kernel
theorem dX10_roundOf_323 : decode cX10_roundOf 323 = .ok (.goto 5, 3) := by decide +kernel
theorem dX10_roundOf_326 : decode cX10_roundOf 326 = .ok (.iload 9, 2) := by decide +kernel
theorem dX10_roundOf_328 : decode cX10_roundOf 328 = .ok (.ireturn, 1) := by decide +kernel
theorem dX10_layRow_0 : decode cX10_layRow 0 = .ok (.aload_n 0, 1) := by decide +kernel
theorem dX10_layRow_1 : decode cX10_layRow 1 = .ok (.iload_n 1, 1) := by decide +kernel
theorem dX10_layRow_2 : decode cX10_layRow 2 = .ok (.invokevirtual 117, 3) := by decide +kernel
theorem dX10_layRow_5 : decode cX10_layRow 5 = .ok (.istore_n 2, 1) := by decide +kernel
theorem dX10_layRow_6 : decode cX10_layRow 6 = .ok (.aload_n 0, 1) := by decide +kernel
theorem dX10_layRow_7 : decode cX10_layRow 7 = .ok (.getfield 42, 3) := by decide +kernel
theorem dX10_layRow_10 : decode cX10_layRow 10 = .ok (.iload_n 1, 1) := by decide +kernel
theorem dX10_layRow_11 : decode cX10_layRow 11 = .ok (.iaload, 1) := by decide +kernel
theorem dX10_layRow_12 : decode cX10_layRow 12 = .ok (.istore_n 3, 1) := by decide +kernel
theorem dX10_layRow_13 : decode cX10_layRow 13 = .ok (.iload_n 3, 1) := by decide +kernel
theorem dX10_layRow_14 : decode cX10_layRow 14 = .ok (.iload_n 2, 1) := by decide +kernel
theorem dX10_layRow_15 : decode cX10_layRow 15 = .ok (.if_icmp .ge 23, 3) := by decide +kernel
theorem dX10_layRow_18 : decode cX10_layRow 18 = .ok (.aload_n 0, 1) := by decide +kernel
theorem dX10_layRow_19 : decode cX10_layRow 19 = .ok (.iload_n 1, 1) := by decide +kernel
theorem dX10_layRow_20 : decode cX10_layRow 20 = .ok (.aload_n 0, 1) := by decide +kernel
theorem dX10_layRow_21 : decode cX10_layRow 21 = .ok (.iload_n 1, 1) := by decide +kernel
theorem dX10_layRow_22 : decode cX10_layRow 22 = .ok (.iload_n 3, 1) := by decide +kernel
theorem dX10_layRow_23 : decode cX10_layRow 23 = .ok (.invokevirtual 153, 3) := by decide +kernel
theorem dX10_layRow_26 : decode cX10_layRow 26 = .ok (.invokevirtual 258, 3) := by decide +kernel
theorem dX10_layRow_29 : decode cX10_layRow 29 = .ok (.ifCond .eq 9, 3) := by decide +kernel
theorem dX10_layRow_32 : decode cX10_layRow 32 = .ok (.iinc 3 1, 3) := by decide +kernel
theorem dX10_layRow_35 : decode cX10_layRow 35 = .ok (.goto (-22), 3) := by decide +kernel
theorem dX10_layRow_38 : decode cX10_layRow 38 = .ok (.iload_n 3, 1) := by decide +kernel
theorem dX10_layRow_39 : decode cX10_layRow 39 = .ok (.iload_n 2, 1) := by decide +kernel
theorem dX10_layRow_40 : decode cX10_layRow 40 = .ok (.if_icmp .ge 47, 3) := by decide +kernel
theorem dX10_layRow_43 : decode cX10_layRow 43 = .ok (.aload_n 0, 1) := by decide +kernel
theorem dX10_layRow_44 : decode cX10_layRow 44 = .ok (.iload_n 1, 1) := by decide +kernel
theorem dX10_layRow_45 : decode cX10_layRow 45 = .ok (.iload_n 3, 1) := by decide +kernel
theorem dX10_layRow_46 : decode cX10_layRow 46 = .ok (.invokevirtual 153, 3) := by decide +kernel
theorem dX10_layRow_49 : decode cX10_layRow 49 = .ok (.istore 4, 2) := by decide +kernel
theorem dX10_layRow_51 : decode cX10_layRow 51 = .ok (.aload_n 0, 1) := by decide +kernel
theorem dX10_layRow_52 : decode cX10_layRow 52 = .ok (.getfield 42, 3) := by decide +kernel
theorem dX10_layRow_55 : decode cX10_layRow 55 = .ok (.iload_n 1, 1) := by decide +kernel
theorem dX10_layRow_56 : decode cX10_layRow 56 = .ok (.iload_n 3, 1) := by decide +kernel
theorem dX10_layRow_57 : decode cX10_layRow 57 = .ok (.iconst 1, 1) := by decide +kernel
theorem dX10_layRow_58 : decode cX10_layRow 58 = .ok (.iadd, 1) := by decide +kernel
theorem dX10_layRow_59 : decode cX10_layRow 59 = .ok (.iastore, 1) := by decide +kernel
theorem dX10_layRow_60 : decode cX10_layRow 60 = .ok (.aload_n 0, 1) := by decide +kernel
theorem dX10_layRow_61 : decode cX10_layRow 61 = .ok (.iload_n 1, 1) := by decide +kernel
theorem dX10_layRow_62 : decode cX10_layRow 62 = .ok (.iload 4, 2) := by decide +kernel
theorem dX10_layRow_64 : decode cX10_layRow 64 = .ok (.aload_n 0, 1) := by decide +kernel
theorem dX10_layRow_65 : decode cX10_layRow 65 = .ok (.iload 4, 2) := by decide +kernel
theorem dX10_layRow_67 : decode cX10_layRow 67 = .ok (.bipush 7, 2) := by decide +kernel
theorem dX10_layRow_69 : decode cX10_layRow 69 = .ok (.invokevirtual 91, 3) := by decide +kernel
theorem dX10_layRow_72 : decode cX10_layRow 72 = .ok (.aload_n 0, 1) := by decide +kernel
theorem dX10_layRow_73 : decode cX10_layRow 73 = .ok (.iload 4, 2) := by decide +kernel
theorem dX10_layRow_75 : decode cX10_layRow 75 = .ok (.bipush 8, 2) := by decide +kernel
theorem dX10_layRow_77 : decode cX10_layRow 77 = .ok (.invokevirtual 91, 3) := by decide +kernel
theorem dX10_layRow_80 : decode cX10_layRow 80 = .ok (.invokestatic 181, 3) := by decide +kernel
theorem dX10_layRow_83 : decode cX10_layRow 83 = .ok (.invokevirtual 267, 3) := by decide +kernel
theorem dX10_layRow_86 : decode cX10_layRow 86 = .ok (.return_, 1) := by decide +kernel
theorem dX10_layRow_87 : decode cX10_layRow 87 = .ok (.iload_n 3, 1) := by decide +kernel
theorem dX10_layRow_88 : decode cX10_layRow 88 = .ok (.iload_n 2, 1) := by decide +kernel
theorem dX10_layRow_89 : decode cX10_layRow 89 = .ok (.if_icmp .ne 22, 3) := by decide +kernel
theorem dX10_layRow_92 : decode cX10_layRow 92 = .ok (.aload_n 0, 1) := by decide +kernel
theorem dX10_layRow_93 : decode cX10_layRow 93 = .ok (.iload_n 1, 1) := by decide +kernel
theorem dX10_layRow_94 : decode cX10_layRow 94 = .ok (.invokevirtual 271, 3) := by decide +kernel
theorem dX10_layRow_97 : decode cX10_layRow 97 = .ok (.aload_n 0, 1) := by decide +kernel
theorem dX10_layRow_98 : decode cX10_layRow 98 = .ok (.getfield 48, 3) := by decide +kernel
theorem dX10_layRow_101 : decode cX10_layRow 101 = .ok (.iload_n 1, 1) := by decide +kernel
theorem dX10_layRow_102 : decode cX10_layRow 102 = .ok (.aload_n 0, 1) := by decide +kernel
theorem dX10_layRow_103 : decode cX10_layRow 103 = .ok (.getfield 261, 3) := by decide +kernel
theorem dX10_layRow_106 : decode cX10_layRow 106 = .ok (.iastore, 1) := by decide +kernel
theorem dX10_layRow_107 : decode cX10_layRow 107 = .ok (.iload_n 2, 1) := by decide +kernel
theorem dX10_layRow_108 : decode cX10_layRow 108 = .ok (.iconst 1, 1) := by decide +kernel
theorem dX10_layRow_109 : decode cX10_layRow 109 = .ok (.iadd, 1) := by decide +kernel
theorem dX10_layRow_110 : decode cX10_layRow 110 = .ok (.istore_n 3, 1) := by decide +kernel
theorem dX10_layRow_111 : decode cX10_layRow 111 = .ok (.iload_n 3, 1) := by decide +kernel
theorem dX10_layRow_112 : decode cX10_layRow 112 = .ok (.iconst 2, 1) := by decide +kernel
theorem dX10_layRow_113 : decode cX10_layRow 113 = .ok (.iload_n 2, 1) := by decide +kernel
theorem dX10_layRow_114 : decode cX10_layRow 114 = .ok (.imul, 1) := by decide +kernel
theorem dX10_layRow_115 : decode cX10_layRow 115 = .ok (.if_icmp .gt 27, 3) := by decide +kernel
theorem dX10_layRow_118 : decode cX10_layRow 118 = .ok (.aload_n 0, 1) := by decide +kernel
theorem dX10_layRow_119 : decode cX10_layRow 119 = .ok (.iload_n 1, 1) := by decide +kernel
theorem dX10_layRow_120 : decode cX10_layRow 120 = .ok (.aload_n 0, 1) := by decide +kernel
theorem dX10_layRow_121 : decode cX10_layRow 121 = .ok (.iload_n 1, 1) := by decide +kernel
theorem dX10_layRow_122 : decode cX10_layRow 122 = .ok (.iload_n 3, 1) := by decide +kernel
theorem dX10_layRow_123 : decode cX10_layRow 123 = .ok (.iload_n 2, 1) := by decide +kernel
theorem dX10_layRow_124 : decode cX10_layRow 124 = .ok (.isub, 1) := by decide +kernel
theorem dX10_layRow_125 : decode cX10_layRow 125 = .ok (.iconst 1, 1) := by decide +kernel
theorem dX10_layRow_126 : decode cX10_layRow 126 = .ok (.isub, 1) := by decide +kernel
theorem dX10_layRow_127 : decode cX10_layRow 127 = .ok (.invokevirtual 153, 3) := by decide +kernel
theorem dX10_layRow_130 : decode cX10_layRow 130 = .ok (.invokevirtual 258, 3) := by decide +kernel
theorem dX10_layRow_133 : decode cX10_layRow 133 = .ok (.ifCond .ne 9, 3) := by decide +kernel
theorem dX10_layRow_136 : decode cX10_layRow 136 = .ok (.iinc 3 1, 3) := by decide +kernel
theorem dX10_layRow_139 : decode cX10_layRow 139 = .ok (.goto (-28), 3) := by decide +kernel
theorem dX10_layRow_142 : decode cX10_layRow 142 = .ok (.iload_n 3, 1) := by decide +kernel
theorem dX10_layRow_143 : decode cX10_layRow 143 = .ok (.iconst 2, 1) := by decide +kernel
theorem dX10_layRow_144 : decode cX10_layRow 144 = .ok (.iload_n 2, 1) := by decide +kernel
theorem dX10_layRow_145 : decode cX10_layRow 145 = .ok (.imul, 1) := by decide +kernel
theorem dX10_layRow_146 : decode cX10_layRow 146 = .ok (.if_icmp .gt 56, 3) := by decide +kernel
theorem dX10_layRow_149 : decode cX10_layRow 149 = .ok (.aload_n 0, 1) := by decide +kernel
theorem dX10_layRow_150 : decode cX10_layRow 150 = .ok (.getfield 42, 3) := by decide +kernel
theorem dX10_layRow_153 : decode cX10_layRow 153 = .ok (.iload_n 1, 1) := by decide +kernel
theorem dX10_layRow_154 : decode cX10_layRow 154 = .ok (.iload_n 3, 1) := by decide +kernel
theorem dX10_layRow_155 : decode cX10_layRow 155 = .ok (.iconst 1, 1) := by decide +kernel
theorem dX10_layRow_156 : decode cX10_layRow 156 = .ok (.iadd, 1) := by decide +kernel
theorem dX10_layRow_157 : decode cX10_layRow 157 = .ok (.iastore, 1) := by decide +kernel
theorem dX10_layRow_158 : decode cX10_layRow 158 = .ok (.iload_n 3, 1) := by decide +kernel
theorem dX10_layRow_159 : decode cX10_layRow 159 = .ok (.iload_n 2, 1) := by decide +kernel
theorem dX10_layRow_160 : decode cX10_layRow 160 = .ok (.isub, 1) := by decide +kernel
theorem dX10_layRow_161 : decode cX10_layRow 161 = .ok (.iconst 1, 1) := by decide +kernel
theorem dX10_layRow_162 : decode cX10_layRow 162 = .ok (.isub, 1) := by decide +kernel
theorem dX10_layRow_163 : decode cX10_layRow 163 = .ok (.istore 4, 2) := by decide +kernel
theorem dX10_layRow_165 : decode cX10_layRow 165 = .ok (.aload_n 0, 1) := by decide +kernel
theorem dX10_layRow_166 : decode cX10_layRow 166 = .ok (.iload_n 1, 1) := by decide +kernel
theorem dX10_layRow_167 : decode cX10_layRow 167 = .ok (.aload_n 0, 1) := by decide +kernel
theorem dX10_layRow_168 : decode cX10_layRow 168 = .ok (.iload_n 1, 1) := by decide +kernel
theorem dX10_layRow_169 : decode cX10_layRow 169 = .ok (.iload 4, 2) := by decide +kernel
theorem dX10_layRow_171 : decode cX10_layRow 171 = .ok (.invokevirtual 153, 3) := by decide +kernel
theorem dX10_layRow_174 : decode cX10_layRow 174 = .ok (.aload_n 0, 1) := by decide +kernel
theorem dX10_layRow_175 : decode cX10_layRow 175 = .ok (.getfield 45, 3) := by decide +kernel
theorem dX10_layRow_178 : decode cX10_layRow 178 = .ok (.bipush 8, 2) := by decide +kernel
theorem dX10_layRow_180 : decode cX10_layRow 180 = .ok (.iload_n 1, 1) := by decide +kernel
theorem dX10_layRow_181 : decode cX10_layRow 181 = .ok (.imul, 1) := by decide +kernel
theorem dX10_layRow_182 : decode cX10_layRow 182 = .ok (.iload 4, 2) := by decide +kernel
theorem dX10_layRow_184 : decode cX10_layRow 184 = .ok (.iadd, 1) := by decide +kernel
theorem dX10_layRow_185 : decode cX10_layRow 185 = .ok (.iaload, 1) := by decide +kernel
theorem dX10_layRow_186 : decode cX10_layRow 186 = .ok (.aload_n 0, 1) := by decide +kernel
theorem dX10_layRow_187 : decode cX10_layRow 187 = .ok (.getfield 45, 3) := by decide +kernel
theorem dX10_layRow_190 : decode cX10_layRow 190 = .ok (.bipush 8, 2) := by decide +kernel
theorem dX10_layRow_192 : decode cX10_layRow 192 = .ok (.iload_n 1, 1) := by decide +kernel
theorem dX10_layRow_193 : decode cX10_layRow 193 = .ok (.imul, 1) := by decide +kernel
theorem dX10_layRow_194 : decode cX10_layRow 194 = .ok (.iload 4, 2) := by decide +kernel
theorem dX10_layRow_196 : decode cX10_layRow 196 = .ok (.iadd, 1) := by decide +kernel
theorem dX10_layRow_197 : decode cX10_layRow 197 = .ok (.iaload, 1) := by decide +kernel
theorem dX10_layRow_198 : decode cX10_layRow 198 = .ok (.invokevirtual 267, 3) := by decide +kernel
theorem dX10_layRow_201 : decode cX10_layRow 201 = .ok (.return_, 1) := by decide +kernel
theorem dX10_layRow_202 : decode cX10_layRow 202 = .ok (.aload_n 0, 1) := by decide +kernel
theorem dX10_layRow_203 : decode cX10_layRow 203 = .ok (.iload_n 1, 1) := by decide +kernel
theorem dX10_layRow_204 : decode cX10_layRow 204 = .ok (.invokevirtual 274, 3) := by decide +kernel
theorem dX10_layRow_207 : decode cX10_layRow 207 = .ok (.return_, 1) := by decide +kernel
theorem dX10_endsRow_0 : decode cX10_endsRow 0 = .ok (.aload_n 0, 1) := by decide +kernel
theorem dX10_endsRow_1 : decode cX10_endsRow 1 = .ok (.iload_n 1, 1) := by decide +kernel
theorem dX10_endsRow_2 : decode cX10_endsRow 2 = .ok (.iconst 1, 1) := by decide +kernel
theorem dX10_endsRow_3 : decode cX10_endsRow 3 = .ok (.invokevirtual 91, 3) := by decide +kernel
theorem dX10_endsRow_6 : decode cX10_endsRow 6 = .ok (.invokestatic 252, 3) := by decide +kernel
theorem dX10_endsRow_9 : decode cX10_endsRow 9 = .ok (.istore_n 2, 1) := by decide +kernel
theorem dX10_endsRow_10 : decode cX10_endsRow 10 = .ok (.aload_n 0, 1) := by decide +kernel
theorem dX10_endsRow_11 : decode cX10_endsRow 11 = .ok (.iload_n 1, 1) := by decide +kernel
theorem dX10_endsRow_12 : decode cX10_endsRow 12 = .ok (.invokevirtual 117, 3) := by decide +kernel
theorem dX10_endsRow_15 : decode cX10_endsRow 15 = .ok (.istore_n 3, 1) := by decide +kernel
theorem dX10_endsRow_16 : decode cX10_endsRow 16 = .ok (.aload_n 0, 1) := by decide +kernel
theorem dX10_endsRow_17 : decode cX10_endsRow 17 = .ok (.iload_n 1, 1) := by decide +kernel
theorem dX10_endsRow_18 : decode cX10_endsRow 18 = .ok (.invokevirtual 255, 3) := by decide +kernel
theorem dX10_endsRow_21 : decode cX10_endsRow 21 = .ok (.istore 4, 2) := by decide +kernel
theorem dX10_endsRow_23 : decode cX10_endsRow 23 = .ok (.iconst 0, 1) := by decide +kernel
theorem dX10_endsRow_24 : decode cX10_endsRow 24 = .ok (.istore 5, 2) := by decide +kernel
theorem dX10_endsRow_26 : decode cX10_endsRow 26 = .ok (.iconst 0, 1) := by decide +kernel
theorem dX10_endsRow_27 : decode cX10_endsRow 27 = .ok (.istore 6, 2) := by decide +kernel
theorem dX10_endsRow_29 : decode cX10_endsRow 29 = .ok (.iconst 0, 1) := by decide +kernel
theorem dX10_endsRow_30 : decode cX10_endsRow 30 = .ok (.istore 7, 2) := by decide +kernel
theorem dX10_endsRow_32 : decode cX10_endsRow 32 = .ok (.iload 7, 2) := by decide +kernel
theorem dX10_endsRow_34 : decode cX10_endsRow 34 = .ok (.iload_n 3, 1) := by decide +kernel
theorem dX10_endsRow_35 : decode cX10_endsRow 35 = .ok (.if_icmp .ge 82, 3) := by decide +kernel
theorem dX10_endsRow_38 : decode cX10_endsRow 38 = .ok (.aload_n 0, 1) := by decide +kernel
theorem dX10_endsRow_39 : decode cX10_endsRow 39 = .ok (.iload_n 1, 1) := by decide +kernel
theorem dX10_endsRow_40 : decode cX10_endsRow 40 = .ok (.iload 7, 2) := by decide +kernel
theorem dX10_endsRow_42 : decode cX10_endsRow 42 = .ok (.invokevirtual 153, 3) := by decide +kernel
theorem dX10_endsRow_45 : decode cX10_endsRow 45 = .ok (.istore 8, 2) := by decide +kernel
theorem dX10_endsRow_47 : decode cX10_endsRow 47 = .ok (.iload 4, 2) := by decide +kernel
theorem dX10_endsRow_49 : decode cX10_endsRow 49 = .ok (.aload_n 0, 1) := by decide +kernel
theorem dX10_endsRow_50 : decode cX10_endsRow 50 = .ok (.iload 8, 2) := by decide +kernel
theorem dX10_endsRow_52 : decode cX10_endsRow 52 = .ok (.iload_n 2, 1) := by decide +kernel
theorem dX10_endsRow_53 : decode cX10_endsRow 53 = .ok (.invokevirtual 243, 3) := by decide +kernel
theorem dX10_endsRow_56 : decode cX10_endsRow 56 = .ok (.iadd, 1) := by decide +kernel
theorem dX10_endsRow_57 : decode cX10_endsRow 57 = .ok (.istore 4, 2) := by decide +kernel
theorem dX10_endsRow_59 : decode cX10_endsRow 59 = .ok (.aload_n 0, 1) := by decide +kernel
theorem dX10_endsRow_60 : decode cX10_endsRow 60 = .ok (.iload 8, 2) := by decide +kernel
theorem dX10_endsRow_62 : decode cX10_endsRow 62 = .ok (.iconst 1, 1) := by decide +kernel
theorem dX10_endsRow_63 : decode cX10_endsRow 63 = .ok (.iload_n 2, 1) := by decide +kernel
theorem dX10_endsRow_64 : decode cX10_endsRow 64 = .ok (.isub, 1) := by decide +kernel
theorem dX10_endsRow_65 : decode cX10_endsRow 65 = .ok (.invokevirtual 243, 3) := by decide +kernel
theorem dX10_endsRow_68 : decode cX10_endsRow 68 = .ok (.iload 5, 2) := by decide +kernel
theorem dX10_endsRow_70 : decode cX10_endsRow 70 = .ok (.if_icmp .le 15, 3) := by decide +kernel
theorem dX10_endsRow_73 : decode cX10_endsRow 73 = .ok (.aload_n 0, 1) := by decide +kernel
theorem dX10_endsRow_74 : decode cX10_endsRow 74 = .ok (.iload 8, 2) := by decide +kernel
theorem dX10_endsRow_76 : decode cX10_endsRow 76 = .ok (.iconst 1, 1) := by decide +kernel
theorem dX10_endsRow_77 : decode cX10_endsRow 77 = .ok (.iload_n 2, 1) := by decide +kernel
theorem dX10_endsRow_78 : decode cX10_endsRow 78 = .ok (.isub, 1) := by decide +kernel
theorem dX10_endsRow_79 : decode cX10_endsRow 79 = .ok (.invokevirtual 243, 3) := by decide +kernel
theorem dX10_endsRow_82 : decode cX10_endsRow 82 = .ok (.goto 5, 3) := by decide +kernel
theorem dX10_endsRow_85 : decode cX10_endsRow 85 = .ok (.iload 5, 2) := by decide +kernel
theorem dX10_endsRow_87 : decode cX10_endsRow 87 = .ok (.istore 5, 2) := by decide +kernel
theorem dX10_endsRow_89 : decode cX10_endsRow 89 = .ok (.iload 6, 2) := by decide +kernel
theorem dX10_endsRow_91 : decode cX10_endsRow 91 = .ok (.ifCond .ne 13, 3) := by decide +kernel
theorem dX10_endsRow_94 : decode cX10_endsRow 94 = .ok (.aload_n 0, 1) := by decide +kernel
theorem dX10_endsRow_95 : decode cX10_endsRow 95 = .ok (.iload_n 1, 1) := by decide +kernel
theorem dX10_endsRow_96 : decode cX10_endsRow 96 = .ok (.iload 8, 2) := by decide +kernel
theorem dX10_endsRow_98 : decode cX10_endsRow 98 = .ok (.invokevirtual 258, 3) := by decide +kernel
theorem dX10_endsRow_101 : decode cX10_endsRow 101 = .ok (.ifCond .eq 7, 3) := by decide +kernel
theorem dX10_endsRow_104 : decode cX10_endsRow 104 = .ok (.iconst 1, 1) := by decide +kernel
theorem dX10_endsRow_105 : decode cX10_endsRow 105 = .ok (.goto 4, 3) := by decide +kernel
theorem dX10_endsRow_108 : decode cX10_endsRow 108 = .ok (.iconst 0, 1) := by decide +kernel
theorem dX10_endsRow_109 : decode cX10_endsRow 109 = .ok (.istore 6, 2) := by decide +kernel
theorem dX10_endsRow_111 : decode cX10_endsRow 111 = .ok (.iinc 7 1, 3) := by decide +kernel
theorem dX10_endsRow_114 : decode cX10_endsRow 114 = .ok (.goto (-82), 3) := by decide +kernel
theorem dX10_endsRow_117 : decode cX10_endsRow 117 = .ok (.iload 6, 2) := by decide +kernel
theorem dX10_endsRow_119 : decode cX10_endsRow 119 = .ok (.ifCond .eq 12, 3) := by decide +kernel
theorem dX10_endsRow_122 : decode cX10_endsRow 122 = .ok (.aload_n 0, 1) := by decide +kernel
theorem dX10_endsRow_123 : decode cX10_endsRow 123 = .ok (.iload_n 1, 1) := by decide +kernel
theorem dX10_endsRow_124 : decode cX10_endsRow 124 = .ok (.iload_n 2, 1) := by decide +kernel
theorem dX10_endsRow_125 : decode cX10_endsRow 125 = .ok (.invokevirtual 227, 3) := by decide +kernel
theorem dX10_endsRow_128 : decode cX10_endsRow 128 = .ok (.goto 5, 3) := by decide +kernel
theorem dX10_endsRow_131 : decode cX10_endsRow 131 = .ok (.iload 4, 2) := by decide +kernel
theorem dX10_endsRow_133 : decode cX10_endsRow 133 = .ok (.istore 7, 2) := by decide +kernel
theorem dX10_endsRow_135 : decode cX10_endsRow 135 = .ok (.aload_n 0, 1) := by decide +kernel
theorem dX10_endsRow_136 : decode cX10_endsRow 136 = .ok (.iload_n 1, 1) := by decide +kernel
theorem dX10_endsRow_137 : decode cX10_endsRow 137 = .ok (.iconst 2, 1) := by decide +kernel
theorem dX10_endsRow_138 : decode cX10_endsRow 138 = .ok (.invokevirtual 91, 3) := by decide +kernel
theorem dX10_endsRow_141 : decode cX10_endsRow 141 = .ok (.iconst 4, 1) := by decide +kernel
theorem dX10_endsRow_142 : decode cX10_endsRow 142 = .ok (.if_icmp .ne 11, 3) := by decide +kernel
theorem dX10_endsRow_145 : decode cX10_endsRow 145 = .ok (.iload_n 2, 1) := by decide +kernel
theorem dX10_endsRow_146 : decode cX10_endsRow 146 = .ok (.ifCond .ne 7, 3) := by decide +kernel
theorem dX10_endsRow_149 : decode cX10_endsRow 149 = .ok (.iconst 1, 1) := by decide +kernel
theorem dX10_endsRow_150 : decode cX10_endsRow 150 = .ok (.goto 4, 3) := by decide +kernel
theorem dX10_endsRow_153 : decode cX10_endsRow 153 = .ok (.iconst 0, 1) := by decide +kernel
theorem dX10_endsRow_154 : decode cX10_endsRow 154 = .ok (.istore 8, 2) := by decide +kernel
theorem dX10_endsRow_156 : decode cX10_endsRow 156 = .ok (.iload 8, 2) := by decide +kernel
theorem dX10_endsRow_158 : decode cX10_endsRow 158 = .ok (.ifCond .eq 11, 3) := by decide +kernel
theorem dX10_endsRow_161 : decode cX10_endsRow 161 = .ok (.aload_n 0, 1) := by decide +kernel
theorem dX10_endsRow_162 : decode cX10_endsRow 162 = .ok (.iload_n 1, 1) := by decide +kernel
theorem dX10_endsRow_163 : decode cX10_endsRow 163 = .ok (.invokevirtual 277, 3) := by decide +kernel
theorem dX10_endsRow_166 : decode cX10_endsRow 166 = .ok (.goto 4, 3) := by decide +kernel
theorem dX10_endsRow_169 : decode cX10_endsRow 169 = .ok (.iconst 0, 1) := by decide +kernel
theorem dX10_endsRow_170 : decode cX10_endsRow 170 = .ok (.istore 9, 2) := by decide +kernel
theorem dX10_endsRow_172 : decode cX10_endsRow 172 = .ok (.iload 8, 2) := by decide +kernel
theorem dX10_endsRow_174 : decode cX10_endsRow 174 = .ok (.ifCond .eq 14, 3) := by decide +kernel
theorem dX10_endsRow_177 : decode cX10_endsRow 177 = .ok (.iload 9, 2) := by decide +kernel
theorem dX10_endsRow_179 : decode cX10_endsRow 179 = .ok (.aload_n 0, 1) := by decide +kernel
theorem dX10_endsRow_180 : decode cX10_endsRow 180 = .ok (.iload_n 1, 1) := by decide +kernel
theorem dX10_endsRow_181 : decode cX10_endsRow 181 = .ok (.invokevirtual 280, 3) := by decide +kernel
theorem dX10_endsRow_184 : decode cX10_endsRow 184 = .ok (.iadd, 1) := by decide +kernel
theorem dX10_endsRow_185 : decode cX10_endsRow 185 = .ok (.goto 5, 3) := by decide +kernel
theorem dX10_endsRow_188 : decode cX10_endsRow 188 = .ok (.iload 5, 2) := by decide +kernel
theorem dX10_endsRow_190 : decode cX10_endsRow 190 = .ok (.istore 5, 2) := by decide +kernel
theorem dX10_endsRow_192 : decode cX10_endsRow 192 = .ok (.aload_n 0, 1) := by decide +kernel
theorem dX10_endsRow_193 : decode cX10_endsRow 193 = .ok (.iload_n 1, 1) := by decide +kernel
theorem dX10_endsRow_194 : decode cX10_endsRow 194 = .ok (.iload_n 2, 1) := by decide +kernel
theorem dX10_endsRow_195 : decode cX10_endsRow 195 = .ok (.ifCond .ne 8, 3) := by decide +kernel
theorem dX10_endsRow_198 : decode cX10_endsRow 198 = .ok (.iload 7, 2) := by decide +kernel
theorem dX10_endsRow_200 : decode cX10_endsRow 200 = .ok (.goto 5, 3) := by decide +kernel
theorem dX10_endsRow_203 : decode cX10_endsRow 203 = .ok (.iload 5, 2) := by decide +kernel
theorem dX10_endsRow_205 : decode cX10_endsRow 205 = .ok (.iload_n 2, 1) := by decide +kernel
theorem dX10_endsRow_206 : decode cX10_endsRow 206 = .ok (.ifCond .ne 8, 3) := by decide +kernel
theorem dX10_endsRow_209 : decode cX10_endsRow 209 = .ok (.iload 5, 2) := by decide +kernel
theorem dX10_endsRow_211 : decode cX10_endsRow 211 = .ok (.goto 5, 3) := by decide +kernel
theorem dX10_endsRow_214 : decode cX10_endsRow 214 = .ok (.iload 7, 2) := by decide +kernel
theorem dX10_endsRow_216 : decode cX10_endsRow 216 = .ok (.invokevirtual 230, 3) := by decide +kernel
theorem dX10_endsRow_219 : decode cX10_endsRow 219 = .ok (.iload 4, 2) := by decide +kernel
theorem dX10_endsRow_221 : decode cX10_endsRow 221 = .ok (.aload_n 0, 1) := by decide +kernel
theorem dX10_endsRow_222 : decode cX10_endsRow 222 = .ok (.iload_n 1, 1) := by decide +kernel
theorem dX10_endsRow_223 : decode cX10_endsRow 223 = .ok (.iload_n 2, 1) := by decide +kernel
theorem dX10_endsRow_224 : decode cX10_endsRow 224 = .ok (.invokevirtual 243, 3) := by decide +kernel
theorem dX10_endsRow_227 : decode cX10_endsRow 227 = .ok (.isub, 1) := by decide +kernel
theorem dX10_endsRow_228 : decode cX10_endsRow 228 = .ok (.istore 10, 2) := by decide +kernel
theorem dX10_endsRow_230 : decode cX10_endsRow 230 = .ok (.aload_n 0, 1) := by decide +kernel
theorem dX10_endsRow_231 : decode cX10_endsRow 231 = .ok (.iload_n 1, 1) := by decide +kernel
theorem dX10_endsRow_232 : decode cX10_endsRow 232 = .ok (.bipush 34, 2) := by decide +kernel
theorem dX10_endsRow_234 : decode cX10_endsRow 234 = .ok (.iload 10, 2) := by decide +kernel
theorem dX10_endsRow_236 : decode cX10_endsRow 236 = .ok (.ifCond .le 8, 3) := by decide +kernel
theorem dX10_endsRow_239 : decode cX10_endsRow 239 = .ok (.iload 10, 2) := by decide +kernel
theorem dX10_endsRow_241 : decode cX10_endsRow 241 = .ok (.goto 4, 3) := by decide +kernel
theorem dX10_endsRow_244 : decode cX10_endsRow 244 = .ok (.iconst 0, 1) := by decide +kernel
theorem dX10_endsRow_245 : decode cX10_endsRow 245 = .ok (.invokevirtual 102, 3) := by decide +kernel
theorem dX10_endsRow_248 : decode cX10_endsRow 248 = .ok (.aload_n 0, 1) := by decide +kernel
theorem dX10_endsRow_249 : decode cX10_endsRow 249 = .ok (.iload_n 1, 1) := by decide +kernel
theorem dX10_endsRow_250 : decode cX10_endsRow 250 = .ok (.bipush 35, 2) := by decide +kernel
theorem dX10_endsRow_252 : decode cX10_endsRow 252 = .ok (.aload_n 0, 1) := by decide +kernel
theorem dX10_endsRow_253 : decode cX10_endsRow 253 = .ok (.getfield 48, 3) := by decide +kernel
theorem dX10_endsRow_256 : decode cX10_endsRow 256 = .ok (.iload_n 1, 1) := by decide +kernel
theorem dX10_endsRow_257 : decode cX10_endsRow 257 = .ok (.iaload, 1) := by decide +kernel
theorem dX10_endsRow_258 : decode cX10_endsRow 258 = .ok (.invokevirtual 102, 3) := by decide +kernel
theorem dX10_endsRow_261 : decode cX10_endsRow 261 = .ok (.aload_n 0, 1) := by decide +kernel
theorem dX10_endsRow_262 : decode cX10_endsRow 262 = .ok (.iload_n 1, 1) := by decide +kernel
theorem dX10_endsRow_263 : decode cX10_endsRow 263 = .ok (.bipush 36, 2) := by decide +kernel
theorem dX10_endsRow_265 : decode cX10_endsRow 265 = .ok (.iload 8, 2) := by decide +kernel
theorem dX10_endsRow_267 : decode cX10_endsRow 267 = .ok (.ifCond .ne 7, 3) := by decide +kernel
theorem dX10_endsRow_270 : decode cX10_endsRow 270 = .ok (.iconst 0, 1) := by decide +kernel
theorem dX10_endsRow_271 : decode cX10_endsRow 271 = .ok (.goto 12, 3) := by decide +kernel
theorem dX10_endsRow_274 : decode cX10_endsRow 274 = .ok (.iload_n 3, 1) := by decide +kernel
theorem dX10_endsRow_275 : decode cX10_endsRow 275 = .ok (.ifCond .le 7, 3) := by decide +kernel
theorem dX10_endsRow_278 : decode cX10_endsRow 278 = .ok (.iconst 1, 1) := by decide +kernel
theorem dX10_endsRow_279 : decode cX10_endsRow 279 = .ok (.goto 4, 3) := by decide +kernel
theorem dX10_endsRow_282 : decode cX10_endsRow 282 = .ok (.iconst 2, 1) := by decide +kernel
theorem dX10_endsRow_283 : decode cX10_endsRow 283 = .ok (.invokevirtual 102, 3) := by decide +kernel
theorem dX10_endsRow_286 : decode cX10_endsRow 286 = .ok (.aload_n 0, 1) := by decide +kernel
theorem dX10_endsRow_287 : decode cX10_endsRow 287 = .ok (.iload_n 1, 1) := by decide +kernel
theorem dX10_endsRow_288 : decode cX10_endsRow 288 = .ok (.bipush 37, 2) := by decide +kernel
theorem dX10_endsRow_290 : decode cX10_endsRow 290 = .ok (.iload 9, 2) := by decide +kernel
theorem dX10_endsRow_292 : decode cX10_endsRow 292 = .ok (.invokevirtual 102, 3) := by decide +kernel
theorem dX10_endsRow_295 : decode cX10_endsRow 295 = .ok (.iconst 0, 1) := by decide +kernel
theorem dX10_endsRow_296 : decode cX10_endsRow 296 = .ok (.istore 11, 2) := by decide +kernel
theorem dX10_endsRow_298 : decode cX10_endsRow 298 = .ok (.iconst 0, 1) := by decide +kernel
theorem dX10_endsRow_299 : decode cX10_endsRow 299 = .ok (.istore 12, 2) := by decide +kernel
theorem dX10_endsRow_301 : decode cX10_endsRow 301 = .ok (.iload 12, 2) := by decide +kernel
theorem dX10_endsRow_303 : decode cX10_endsRow 303 = .ok (.iload_n 3, 1) := by decide +kernel
theorem dX10_endsRow_304 : decode cX10_endsRow 304 = .ok (.if_icmp .ge 117, 3) := by decide +kernel
theorem dX10_endsRow_307 : decode cX10_endsRow 307 = .ok (.aload_n 0, 1) := by decide +kernel
theorem dX10_endsRow_308 : decode cX10_endsRow 308 = .ok (.iload_n 1, 1) := by decide +kernel
theorem dX10_endsRow_309 : decode cX10_endsRow 309 = .ok (.iload 12, 2) := by decide +kernel
theorem dX10_endsRow_311 : decode cX10_endsRow 311 = .ok (.invokevirtual 153, 3) := by decide +kernel
theorem dX10_endsRow_314 : decode cX10_endsRow 314 = .ok (.istore 13, 2) := by decide +kernel
theorem dX10_endsRow_316 : decode cX10_endsRow 316 = .ok (.iload 8, 2) := by decide +kernel
theorem dX10_endsRow_318 : decode cX10_endsRow 318 = .ok (.ifCond .eq 21, 3) := by decide +kernel
theorem dX10_endsRow_321 : decode cX10_endsRow 321 = .ok (.iload 9, 2) := by decide +kernel
theorem dX10_endsRow_323 : decode cX10_endsRow 323 = .ok (.aload_n 0, 1) := by decide +kernel
theorem dX10_endsRow_324 : decode cX10_endsRow 324 = .ok (.getfield 51, 3) := by decide +kernel
theorem dX10_endsRow_327 : decode cX10_endsRow 327 = .ok (.bipush 8, 2) := by decide +kernel
theorem dX10_endsRow_329 : decode cX10_endsRow 329 = .ok (.iload_n 1, 1) := by decide +kernel
theorem dX10_endsRow_330 : decode cX10_endsRow 330 = .ok (.imul, 1) := by decide +kernel
theorem dX10_endsRow_331 : decode cX10_endsRow 331 = .ok (.iload 12, 2) := by decide +kernel
theorem dX10_endsRow_333 : decode cX10_endsRow 333 = .ok (.iadd, 1) := by decide +kernel
theorem dX10_endsRow_334 : decode cX10_endsRow 334 = .ok (.iaload, 1) := by decide +kernel
theorem dX10_endsRow_335 : decode cX10_endsRow 335 = .ok (.isub, 1) := by decide +kernel
theorem dX10_endsRow_336 : decode cX10_endsRow 336 = .ok (.goto 30, 3) := by decide +kernel
theorem dX10_endsRow_339 : decode cX10_endsRow 339 = .ok (.aload_n 0, 1) := by decide +kernel
theorem dX10_endsRow_340 : decode cX10_endsRow 340 = .ok (.iload_n 1, 1) := by decide +kernel
theorem dX10_endsRow_341 : decode cX10_endsRow 341 = .ok (.iconst 2, 1) := by decide +kernel
theorem dX10_endsRow_342 : decode cX10_endsRow 342 = .ok (.invokevirtual 91, 3) := by decide +kernel
theorem dX10_endsRow_345 : decode cX10_endsRow 345 = .ok (.aload_n 0, 1) := by decide +kernel
theorem dX10_endsRow_346 : decode cX10_endsRow 346 = .ok (.iload_n 1, 1) := by decide +kernel
theorem dX10_endsRow_347 : decode cX10_endsRow 347 = .ok (.iconst 1, 1) := by decide +kernel
theorem dX10_endsRow_348 : decode cX10_endsRow 348 = .ok (.iload_n 2, 1) := by decide +kernel
theorem dX10_endsRow_349 : decode cX10_endsRow 349 = .ok (.isub, 1) := by decide +kernel
theorem dX10_endsRow_350 : decode cX10_endsRow 350 = .ok (.invokevirtual 243, 3) := by decide +kernel
theorem dX10_endsRow_353 : decode cX10_endsRow 353 = .ok (.aload_n 0, 1) := by decide +kernel
theorem dX10_endsRow_354 : decode cX10_endsRow 354 = .ok (.iload 13, 2) := by decide +kernel
theorem dX10_endsRow_356 : decode cX10_endsRow 356 = .ok (.iconst 1, 1) := by decide +kernel
theorem dX10_endsRow_357 : decode cX10_endsRow 357 = .ok (.iload_n 2, 1) := by decide +kernel
theorem dX10_endsRow_358 : decode cX10_endsRow 358 = .ok (.isub, 1) := by decide +kernel
theorem dX10_endsRow_359 : decode cX10_endsRow 359 = .ok (.invokevirtual 243, 3) := by decide +kernel
theorem dX10_endsRow_362 : decode cX10_endsRow 362 = .ok (.isub, 1) := by decide +kernel
theorem dX10_endsRow_363 : decode cX10_endsRow 363 = .ok (.invokestatic 249, 3) := by decide +kernel
theorem dX10_endsRow_366 : decode cX10_endsRow 366 = .ok (.istore 14, 2) := by decide +kernel
theorem dX10_endsRow_368 : decode cX10_endsRow 368 = .ok (.aload_n 0, 1) := by decide +kernel
theorem dX10_endsRow_369 : decode cX10_endsRow 369 = .ok (.iload 13, 2) := by decide +kernel
theorem dX10_endsRow_371 : decode cX10_endsRow 371 = .ok (.iload_n 2, 1) := by decide +kernel
theorem dX10_endsRow_372 : decode cX10_endsRow 372 = .ok (.ifCond .ne 8, 3) := by decide +kernel
theorem dX10_endsRow_375 : decode cX10_endsRow 375 = .ok (.iload 11, 2) := by decide +kernel
theorem dX10_endsRow_377 : decode cX10_endsRow 377 = .ok (.goto 5, 3) := by decide +kernel
theorem dX10_endsRow_380 : decode cX10_endsRow 380 = .ok (.iload 14, 2) := by decide +kernel
theorem dX10_endsRow_382 : decode cX10_endsRow 382 = .ok (.iload_n 2, 1) := by decide +kernel
theorem dX10_endsRow_383 : decode cX10_endsRow 383 = .ok (.ifCond .ne 8, 3) := by decide +kernel
theorem dX10_endsRow_386 : decode cX10_endsRow 386 = .ok (.iload 14, 2) := by decide +kernel
theorem dX10_endsRow_388 : decode cX10_endsRow 388 = .ok (.goto 5, 3) := by decide +kernel
theorem dX10_endsRow_391 : decode cX10_endsRow 391 = .ok (.iload 11, 2) := by decide +kernel
theorem dX10_endsRow_393 : decode cX10_endsRow 393 = .ok (.invokevirtual 240, 3) := by decide +kernel
theorem dX10_endsRow_396 : decode cX10_endsRow 396 = .ok (.iload 11, 2) := by decide +kernel
theorem dX10_endsRow_398 : decode cX10_endsRow 398 = .ok (.aload_n 0, 1) := by decide +kernel
theorem dX10_endsRow_399 : decode cX10_endsRow 399 = .ok (.iload 13, 2) := by decide +kernel
theorem dX10_endsRow_401 : decode cX10_endsRow 401 = .ok (.iload_n 2, 1) := by decide +kernel
theorem dX10_endsRow_402 : decode cX10_endsRow 402 = .ok (.invokevirtual 243, 3) := by decide +kernel
theorem dX10_endsRow_405 : decode cX10_endsRow 405 = .ok (.aload_n 0, 1) := by decide +kernel
theorem dX10_endsRow_406 : decode cX10_endsRow 406 = .ok (.iload_n 1, 1) := by decide +kernel
theorem dX10_endsRow_407 : decode cX10_endsRow 407 = .ok (.iconst 3, 1) := by decide +kernel
theorem dX10_endsRow_408 : decode cX10_endsRow 408 = .ok (.invokevirtual 91, 3) := by decide +kernel
theorem dX10_endsRow_411 : decode cX10_endsRow 411 = .ok (.iadd, 1) := by decide +kernel
theorem dX10_endsRow_412 : decode cX10_endsRow 412 = .ok (.iadd, 1) := by decide +kernel
theorem dX10_endsRow_413 : decode cX10_endsRow 413 = .ok (.istore 11, 2) := by decide +kernel
theorem dX10_endsRow_415 : decode cX10_endsRow 415 = .ok (.iinc 12 1, 3) := by decide +kernel
theorem dX10_endsRow_418 : decode cX10_endsRow 418 = .ok (.goto (-117), 3) := by decide +kernel
theorem dX10_endsRow_421 : decode cX10_endsRow 421 = .ok (.return_, 1) := by decide +kernel
theorem dX10_lineOf_0 : decode cX10_lineOf 0 = .ok (.iconst 0, 1) := by decide +kernel
theorem dX10_lineOf_1 : decode cX10_lineOf 1 = .ok (.istore_n 2, 1) := by decide +kernel
theorem dX10_lineOf_2 : decode cX10_lineOf 2 = .ok (.iconst 0, 1) := by decide +kernel
theorem dX10_lineOf_3 : decode cX10_lineOf 3 = .ok (.istore_n 3, 1) := by decide +kernel
theorem dX10_lineOf_4 : decode cX10_lineOf 4 = .ok (.iload_n 3, 1) := by decide +kernel
theorem dX10_lineOf_5 : decode cX10_lineOf 5 = .ok (.aload_n 0, 1) := by decide +kernel
theorem dX10_lineOf_6 : decode cX10_lineOf 6 = .ok (.iload_n 1, 1) := by decide +kernel
theorem dX10_lineOf_7 : decode cX10_lineOf 7 = .ok (.invokevirtual 117, 3) := by decide +kernel
theorem dX10_lineOf_10 : decode cX10_lineOf 10 = .ok (.if_icmp .ge 85, 3) := by decide +kernel
theorem dX10_lineOf_13 : decode cX10_lineOf 13 = .ok (.aload_n 0, 1) := by decide +kernel
theorem dX10_lineOf_14 : decode cX10_lineOf 14 = .ok (.iload_n 1, 1) := by decide +kernel
theorem dX10_lineOf_15 : decode cX10_lineOf 15 = .ok (.iload_n 3, 1) := by decide +kernel
theorem dX10_lineOf_16 : decode cX10_lineOf 16 = .ok (.invokevirtual 153, 3) := by decide +kernel
theorem dX10_lineOf_19 : decode cX10_lineOf 19 = .ok (.istore 4, 2) := by decide +kernel
theorem dX10_lineOf_21 : decode cX10_lineOf 21 = .ok (.aload_n 0, 1) := by decide +kernel
theorem dX10_lineOf_22 : decode cX10_lineOf 22 = .ok (.iload 4, 2) := by decide +kernel
theorem dX10_lineOf_24 : decode cX10_lineOf 24 = .ok (.iconst 1, 1) := by decide +kernel
theorem dX10_lineOf_25 : decode cX10_lineOf 25 = .ok (.invokevirtual 283, 3) := by decide +kernel
theorem dX10_lineOf_28 : decode cX10_lineOf 28 = .ok (.istore 5, 2) := by decide +kernel
theorem dX10_lineOf_30 : decode cX10_lineOf 30 = .ok (.aload_n 0, 1) := by decide +kernel
theorem dX10_lineOf_31 : decode cX10_lineOf 31 = .ok (.getfield 51, 3) := by decide +kernel
theorem dX10_lineOf_34 : decode cX10_lineOf 34 = .ok (.bipush 8, 2) := by decide +kernel
theorem dX10_lineOf_36 : decode cX10_lineOf 36 = .ok (.iload_n 1, 1) := by decide +kernel
theorem dX10_lineOf_37 : decode cX10_lineOf 37 = .ok (.imul, 1) := by decide +kernel
theorem dX10_lineOf_38 : decode cX10_lineOf 38 = .ok (.iload_n 3, 1) := by decide +kernel
theorem dX10_lineOf_39 : decode cX10_lineOf 39 = .ok (.iadd, 1) := by decide +kernel
theorem dX10_lineOf_40 : decode cX10_lineOf 40 = .ok (.iload 5, 2) := by decide +kernel
theorem dX10_lineOf_42 : decode cX10_lineOf 42 = .ok (.ifCond .ge 13, 3) := by decide +kernel
theorem dX10_lineOf_45 : decode cX10_lineOf 45 = .ok (.aload_n 0, 1) := by decide +kernel
theorem dX10_lineOf_46 : decode cX10_lineOf 46 = .ok (.iload 4, 2) := by decide +kernel
theorem dX10_lineOf_48 : decode cX10_lineOf 48 = .ok (.iconst 1, 1) := by decide +kernel
theorem dX10_lineOf_49 : decode cX10_lineOf 49 = .ok (.invokevirtual 243, 3) := by decide +kernel
theorem dX10_lineOf_52 : decode cX10_lineOf 52 = .ok (.goto 5, 3) := by decide +kernel
theorem dX10_lineOf_55 : decode cX10_lineOf 55 = .ok (.iload 5, 2) := by decide +kernel
theorem dX10_lineOf_57 : decode cX10_lineOf 57 = .ok (.iastore, 1) := by decide +kernel
theorem dX10_lineOf_58 : decode cX10_lineOf 58 = .ok (.aload_n 0, 1) := by decide +kernel
theorem dX10_lineOf_59 : decode cX10_lineOf 59 = .ok (.getfield 51, 3) := by decide +kernel
theorem dX10_lineOf_62 : decode cX10_lineOf 62 = .ok (.bipush 8, 2) := by decide +kernel
theorem dX10_lineOf_64 : decode cX10_lineOf 64 = .ok (.iload_n 1, 1) := by decide +kernel
theorem dX10_lineOf_65 : decode cX10_lineOf 65 = .ok (.imul, 1) := by decide +kernel
theorem dX10_lineOf_66 : decode cX10_lineOf 66 = .ok (.iload_n 3, 1) := by decide +kernel
theorem dX10_lineOf_67 : decode cX10_lineOf 67 = .ok (.iadd, 1) := by decide +kernel
theorem dX10_lineOf_68 : decode cX10_lineOf 68 = .ok (.iaload, 1) := by decide +kernel
theorem dX10_lineOf_69 : decode cX10_lineOf 69 = .ok (.iload_n 2, 1) := by decide +kernel
theorem dX10_lineOf_70 : decode cX10_lineOf 70 = .ok (.if_icmp .le 17, 3) := by decide +kernel
theorem dX10_lineOf_73 : decode cX10_lineOf 73 = .ok (.aload_n 0, 1) := by decide +kernel
theorem dX10_lineOf_74 : decode cX10_lineOf 74 = .ok (.getfield 51, 3) := by decide +kernel
theorem dX10_lineOf_77 : decode cX10_lineOf 77 = .ok (.bipush 8, 2) := by decide +kernel
theorem dX10_lineOf_79 : decode cX10_lineOf 79 = .ok (.iload_n 1, 1) := by decide +kernel
theorem dX10_lineOf_80 : decode cX10_lineOf 80 = .ok (.imul, 1) := by decide +kernel
theorem dX10_lineOf_81 : decode cX10_lineOf 81 = .ok (.iload_n 3, 1) := by decide +kernel
theorem dX10_lineOf_82 : decode cX10_lineOf 82 = .ok (.iadd, 1) := by decide +kernel
theorem dX10_lineOf_83 : decode cX10_lineOf 83 = .ok (.iaload, 1) := by decide +kernel
theorem dX10_lineOf_84 : decode cX10_lineOf 84 = .ok (.goto 4, 3) := by decide +kernel
theorem dX10_lineOf_87 : decode cX10_lineOf 87 = .ok (.iload_n 2, 1) := by decide +kernel
theorem dX10_lineOf_88 : decode cX10_lineOf 88 = .ok (.istore_n 2, 1) := by decide +kernel
theorem dX10_lineOf_89 : decode cX10_lineOf 89 = .ok (.iinc 3 1, 3) := by decide +kernel
theorem dX10_lineOf_92 : decode cX10_lineOf 92 = .ok (.goto (-88), 3) := by decide +kernel
theorem dX10_lineOf_95 : decode cX10_lineOf 95 = .ok (.iload_n 2, 1) := by decide +kernel
theorem dX10_lineOf_96 : decode cX10_lineOf 96 = .ok (.ireturn, 1) := by decide +kernel
theorem dX10_belowOf_0 : decode cX10_belowOf 0 = .ok (.iconst 0, 1) := by decide +kernel
theorem dX10_belowOf_1 : decode cX10_belowOf 1 = .ok (.istore_n 2, 1) := by decide +kernel
theorem dX10_belowOf_2 : decode cX10_belowOf 2 = .ok (.iconst 0, 1) := by decide +kernel
theorem dX10_belowOf_3 : decode cX10_belowOf 3 = .ok (.istore_n 3, 1) := by decide +kernel
theorem dX10_belowOf_4 : decode cX10_belowOf 4 = .ok (.iload_n 3, 1) := by decide +kernel
theorem dX10_belowOf_5 : decode cX10_belowOf 5 = .ok (.aload_n 0, 1) := by decide +kernel
theorem dX10_belowOf_6 : decode cX10_belowOf 6 = .ok (.iload_n 1, 1) := by decide +kernel
theorem dX10_belowOf_7 : decode cX10_belowOf 7 = .ok (.invokevirtual 117, 3) := by decide +kernel
theorem dX10_belowOf_10 : decode cX10_belowOf 10 = .ok (.if_icmp .ge 47, 3) := by decide +kernel
theorem dX10_belowOf_13 : decode cX10_belowOf 13 = .ok (.aload_n 0, 1) := by decide +kernel
theorem dX10_belowOf_14 : decode cX10_belowOf 14 = .ok (.aload_n 0, 1) := by decide +kernel
theorem dX10_belowOf_15 : decode cX10_belowOf 15 = .ok (.iload_n 1, 1) := by decide +kernel
theorem dX10_belowOf_16 : decode cX10_belowOf 16 = .ok (.iload_n 3, 1) := by decide +kernel
theorem dX10_belowOf_17 : decode cX10_belowOf 17 = .ok (.invokevirtual 153, 3) := by decide +kernel
theorem dX10_belowOf_20 : decode cX10_belowOf 20 = .ok (.iconst 1, 1) := by decide +kernel
theorem dX10_belowOf_21 : decode cX10_belowOf 21 = .ok (.invokevirtual 243, 3) := by decide +kernel
theorem dX10_belowOf_24 : decode cX10_belowOf 24 = .ok (.aload_n 0, 1) := by decide +kernel
theorem dX10_belowOf_25 : decode cX10_belowOf 25 = .ok (.getfield 51, 3) := by decide +kernel
theorem dX10_belowOf_28 : decode cX10_belowOf 28 = .ok (.bipush 8, 2) := by decide +kernel
theorem dX10_belowOf_30 : decode cX10_belowOf 30 = .ok (.iload_n 1, 1) := by decide +kernel
theorem dX10_belowOf_31 : decode cX10_belowOf 31 = .ok (.imul, 1) := by decide +kernel
theorem dX10_belowOf_32 : decode cX10_belowOf 32 = .ok (.iload_n 3, 1) := by decide +kernel
theorem dX10_belowOf_33 : decode cX10_belowOf 33 = .ok (.iadd, 1) := by decide +kernel
theorem dX10_belowOf_34 : decode cX10_belowOf 34 = .ok (.iaload, 1) := by decide +kernel
theorem dX10_belowOf_35 : decode cX10_belowOf 35 = .ok (.isub, 1) := by decide +kernel
theorem dX10_belowOf_36 : decode cX10_belowOf 36 = .ok (.istore 4, 2) := by decide +kernel
theorem dX10_belowOf_38 : decode cX10_belowOf 38 = .ok (.iload 4, 2) := by decide +kernel
theorem dX10_belowOf_40 : decode cX10_belowOf 40 = .ok (.iload_n 2, 1) := by decide +kernel
theorem dX10_belowOf_41 : decode cX10_belowOf 41 = .ok (.if_icmp .le 8, 3) := by decide +kernel
theorem dX10_belowOf_44 : decode cX10_belowOf 44 = .ok (.iload 4, 2) := by decide +kernel
theorem dX10_belowOf_46 : decode cX10_belowOf 46 = .ok (.goto 4, 3) := by decide +kernel
theorem dX10_belowOf_49 : decode cX10_belowOf 49 = .ok (.iload_n 2, 1) := by decide +kernel
theorem dX10_belowOf_50 : decode cX10_belowOf 50 = .ok (.istore_n 2, 1) := by decide +kernel
theorem dX10_belowOf_51 : decode cX10_belowOf 51 = .ok (.iinc 3 1, 3) := by decide +kernel
theorem dX10_belowOf_54 : decode cX10_belowOf 54 = .ok (.goto (-50), 3) := by decide +kernel
theorem dX10_belowOf_57 : decode cX10_belowOf 57 = .ok (.iload_n 2, 1) := by decide +kernel
theorem dX10_belowOf_58 : decode cX10_belowOf 58 = .ok (.ireturn, 1) := by decide +kernel
theorem dX10_stepsOn_0 : decode cX10_stepsOn 0 = .ok (.aload_n 0, 1) := by decide +kernel
theorem dX10_stepsOn_1 : decode cX10_stepsOn 1 = .ok (.iload_n 1, 1) := by decide +kernel
theorem dX10_stepsOn_2 : decode cX10_stepsOn 2 = .ok (.invokevirtual 117, 3) := by decide +kernel
theorem dX10_stepsOn_5 : decode cX10_stepsOn 5 = .ok (.ifCond .le 12, 3) := by decide +kernel
theorem dX10_stepsOn_8 : decode cX10_stepsOn 8 = .ok (.aload_n 0, 1) := by decide +kernel
theorem dX10_stepsOn_9 : decode cX10_stepsOn 9 = .ok (.iload_n 1, 1) := by decide +kernel
theorem dX10_stepsOn_10 : decode cX10_stepsOn 10 = .ok (.iconst 0, 1) := by decide +kernel
theorem dX10_stepsOn_11 : decode cX10_stepsOn 11 = .ok (.invokevirtual 153, 3) := by decide +kernel
theorem dX10_stepsOn_14 : decode cX10_stepsOn 14 = .ok (.goto 4, 3) := by decide +kernel
theorem dX10_stepsOn_17 : decode cX10_stepsOn 17 = .ok (.iconst (-1), 1) := by decide +kernel
theorem dX10_stepsOn_18 : decode cX10_stepsOn 18 = .ok (.istore_n 2, 1) := by decide +kernel
theorem dX10_stepsOn_19 : decode cX10_stepsOn 19 = .ok (.aload_n 0, 1) := by decide +kernel
theorem dX10_stepsOn_20 : decode cX10_stepsOn 20 = .ok (.iload_n 1, 1) := by decide +kernel
theorem dX10_stepsOn_21 : decode cX10_stepsOn 21 = .ok (.iconst 1, 1) := by decide +kernel
theorem dX10_stepsOn_22 : decode cX10_stepsOn 22 = .ok (.invokevirtual 91, 3) := by decide +kernel
theorem dX10_stepsOn_25 : decode cX10_stepsOn 25 = .ok (.tableswitch 128 0 7 #[47, 67, 75, 84, 93, 102, 111, 120], 47) := by decide +kernel
theorem dX10_stepsOn_72 : decode cX10_stepsOn 72 = .ok (.aload_n 0, 1) := by decide +kernel
theorem dX10_stepsOn_73 : decode cX10_stepsOn 73 = .ok (.iload_n 1, 1) := by decide +kernel
theorem dX10_stepsOn_74 : decode cX10_stepsOn 74 = .ok (.aload_n 0, 1) := by decide +kernel
theorem dX10_stepsOn_75 : decode cX10_stepsOn 75 = .ok (.iload_n 1, 1) := by decide +kernel
theorem dX10_stepsOn_76 : decode cX10_stepsOn 76 = .ok (.iconst 2, 1) := by decide +kernel
theorem dX10_stepsOn_77 : decode cX10_stepsOn 77 = .ok (.invokevirtual 91, 3) := by decide +kernel
theorem dX10_stepsOn_80 : decode cX10_stepsOn 80 = .ok (.aload_n 0, 1) := by decide +kernel
theorem dX10_stepsOn_81 : decode cX10_stepsOn 81 = .ok (.iload_n 1, 1) := by decide +kernel
theorem dX10_stepsOn_82 : decode cX10_stepsOn 82 = .ok (.iconst 3, 1) := by decide +kernel
theorem dX10_stepsOn_83 : decode cX10_stepsOn 83 = .ok (.invokevirtual 91, 3) := by decide +kernel
theorem dX10_stepsOn_86 : decode cX10_stepsOn 86 = .ok (.invokevirtual 230, 3) := by decide +kernel
theorem dX10_stepsOn_89 : decode cX10_stepsOn 89 = .ok (.goto 69, 3) := by decide +kernel
theorem dX10_stepsOn_92 : decode cX10_stepsOn 92 = .ok (.aload_n 0, 1) := by decide +kernel
theorem dX10_stepsOn_93 : decode cX10_stepsOn 93 = .ok (.iload_n 1, 1) := by decide +kernel
theorem dX10_stepsOn_94 : decode cX10_stepsOn 94 = .ok (.invokevirtual 287, 3) := by decide +kernel
theorem dX10_stepsOn_97 : decode cX10_stepsOn 97 = .ok (.goto 61, 3) := by decide +kernel
theorem dX10_stepsOn_100 : decode cX10_stepsOn 100 = .ok (.aload_n 0, 1) := by decide +kernel
theorem dX10_stepsOn_101 : decode cX10_stepsOn 101 = .ok (.iload_n 1, 1) := by decide +kernel
theorem dX10_stepsOn_102 : decode cX10_stepsOn 102 = .ok (.iload_n 2, 1) := by decide +kernel
theorem dX10_stepsOn_103 : decode cX10_stepsOn 103 = .ok (.invokevirtual 290, 3) := by decide +kernel
theorem dX10_stepsOn_106 : decode cX10_stepsOn 106 = .ok (.goto 52, 3) := by decide +kernel
theorem dX10_stepsOn_109 : decode cX10_stepsOn 109 = .ok (.aload_n 0, 1) := by decide +kernel
theorem dX10_stepsOn_110 : decode cX10_stepsOn 110 = .ok (.iload_n 1, 1) := by decide +kernel
theorem dX10_stepsOn_111 : decode cX10_stepsOn 111 = .ok (.iload_n 2, 1) := by decide +kernel
theorem dX10_stepsOn_112 : decode cX10_stepsOn 112 = .ok (.invokevirtual 293, 3) := by decide +kernel
theorem dX10_stepsOn_115 : decode cX10_stepsOn 115 = .ok (.goto 43, 3) := by decide +kernel
theorem dX10_stepsOn_118 : decode cX10_stepsOn 118 = .ok (.aload_n 0, 1) := by decide +kernel
theorem dX10_stepsOn_119 : decode cX10_stepsOn 119 = .ok (.iload_n 1, 1) := by decide +kernel
theorem dX10_stepsOn_120 : decode cX10_stepsOn 120 = .ok (.iload_n 2, 1) := by decide +kernel
theorem dX10_stepsOn_121 : decode cX10_stepsOn 121 = .ok (.invokevirtual 296, 3) := by decide +kernel
theorem dX10_stepsOn_124 : decode cX10_stepsOn 124 = .ok (.goto 34, 3) := by decide +kernel
theorem dX10_stepsOn_127 : decode cX10_stepsOn 127 = .ok (.aload_n 0, 1) := by decide +kernel
theorem dX10_stepsOn_128 : decode cX10_stepsOn 128 = .ok (.iload_n 1, 1) := by decide +kernel
theorem dX10_stepsOn_129 : decode cX10_stepsOn 129 = .ok (.iload_n 2, 1) := by decide +kernel
theorem dX10_stepsOn_130 : decode cX10_stepsOn 130 = .ok (.invokevirtual 299, 3) := by decide +kernel
theorem dX10_stepsOn_133 : decode cX10_stepsOn 133 = .ok (.goto 25, 3) := by decide +kernel
theorem dX10_stepsOn_136 : decode cX10_stepsOn 136 = .ok (.aload_n 0, 1) := by decide +kernel
theorem dX10_stepsOn_137 : decode cX10_stepsOn 137 = .ok (.iload_n 1, 1) := by decide +kernel
theorem dX10_stepsOn_138 : decode cX10_stepsOn 138 = .ok (.iload_n 2, 1) := by decide +kernel
theorem dX10_stepsOn_139 : decode cX10_stepsOn 139 = .ok (.invokevirtual 302, 3) := by decide +kernel
theorem dX10_stepsOn_142 : decode cX10_stepsOn 142 = .ok (.goto 16, 3) := by decide +kernel
theorem dX10_stepsOn_145 : decode cX10_stepsOn 145 = .ok (.aload_n 0, 1) := by decide +kernel
theorem dX10_stepsOn_146 : decode cX10_stepsOn 146 = .ok (.iload_n 1, 1) := by decide +kernel
theorem dX10_stepsOn_147 : decode cX10_stepsOn 147 = .ok (.invokevirtual 305, 3) := by decide +kernel
theorem dX10_stepsOn_150 : decode cX10_stepsOn 150 = .ok (.goto 8, 3) := by decide +kernel
theorem dX10_stepsOn_153 : decode cX10_stepsOn 153 = .ok (.aload_n 0, 1) := by decide +kernel
theorem dX10_stepsOn_154 : decode cX10_stepsOn 154 = .ok (.iload_n 1, 1) := by decide +kernel
theorem dX10_stepsOn_155 : decode cX10_stepsOn 155 = .ok (.invokevirtual 308, 3) := by decide +kernel
theorem dX10_stepsOn_158 : decode cX10_stepsOn 158 = .ok (.return_, 1) := by decide +kernel
theorem dX10_nextListed_0 : decode cX10_nextListed 0 = .ok (.iconst (-1), 1) := by decide +kernel
theorem dX10_nextListed_1 : decode cX10_nextListed 1 = .ok (.istore_n 1, 1) := by decide +kernel
theorem dX10_nextListed_2 : decode cX10_nextListed 2 = .ok (.bipush 99, 2) := by decide +kernel
theorem dX10_nextListed_4 : decode cX10_nextListed 4 = .ok (.istore_n 2, 1) := by decide +kernel
theorem dX10_nextListed_5 : decode cX10_nextListed 5 = .ok (.iconst 0, 1) := by decide +kernel
theorem dX10_nextListed_6 : decode cX10_nextListed 6 = .ok (.istore_n 3, 1) := by decide +kernel
theorem dX10_nextListed_7 : decode cX10_nextListed 7 = .ok (.iload_n 3, 1) := by decide +kernel
theorem dX10_nextListed_8 : decode cX10_nextListed 8 = .ok (.bipush 24, 2) := by decide +kernel
theorem dX10_nextListed_10 : decode cX10_nextListed 10 = .ok (.if_icmp .ge 45, 3) := by decide +kernel
theorem dX10_nextListed_13 : decode cX10_nextListed 13 = .ok (.aload_n 0, 1) := by decide +kernel
theorem dX10_nextListed_14 : decode cX10_nextListed 14 = .ok (.iload_n 3, 1) := by decide +kernel
theorem dX10_nextListed_15 : decode cX10_nextListed 15 = .ok (.invokevirtual 127, 3) := by decide +kernel
theorem dX10_nextListed_18 : decode cX10_nextListed 18 = .ok (.ifCond .eq 31, 3) := by decide +kernel
theorem dX10_nextListed_21 : decode cX10_nextListed 21 = .ok (.aload_n 0, 1) := by decide +kernel
theorem dX10_nextListed_22 : decode cX10_nextListed 22 = .ok (.iload_n 3, 1) := by decide +kernel
theorem dX10_nextListed_23 : decode cX10_nextListed 23 = .ok (.bipush 20, 2) := by decide +kernel
theorem dX10_nextListed_25 : decode cX10_nextListed 25 = .ok (.invokevirtual 91, 3) := by decide +kernel
theorem dX10_nextListed_28 : decode cX10_nextListed 28 = .ok (.iconst 1, 1) := by decide +kernel
theorem dX10_nextListed_29 : decode cX10_nextListed 29 = .ok (.if_icmp .ne 20, 3) := by decide +kernel
theorem dX10_nextListed_32 : decode cX10_nextListed 32 = .ok (.aload_n 0, 1) := by decide +kernel
theorem dX10_nextListed_33 : decode cX10_nextListed 33 = .ok (.iload_n 3, 1) := by decide +kernel
theorem dX10_nextListed_34 : decode cX10_nextListed 34 = .ok (.invokevirtual 171, 3) := by decide +kernel
theorem dX10_nextListed_37 : decode cX10_nextListed 37 = .ok (.iload_n 2, 1) := by decide +kernel
theorem dX10_nextListed_38 : decode cX10_nextListed 38 = .ok (.if_icmp .ge 11, 3) := by decide +kernel
theorem dX10_nextListed_41 : decode cX10_nextListed 41 = .ok (.iload_n 3, 1) := by decide +kernel
theorem dX10_nextListed_42 : decode cX10_nextListed 42 = .ok (.istore_n 1, 1) := by decide +kernel
theorem dX10_nextListed_43 : decode cX10_nextListed 43 = .ok (.aload_n 0, 1) := by decide +kernel
theorem dX10_nextListed_44 : decode cX10_nextListed 44 = .ok (.iload_n 3, 1) := by decide +kernel
theorem dX10_nextListed_45 : decode cX10_nextListed 45 = .ok (.invokevirtual 171, 3) := by decide +kernel
theorem dX10_nextListed_48 : decode cX10_nextListed 48 = .ok (.istore_n 2, 1) := by decide +kernel
theorem dX10_nextListed_49 : decode cX10_nextListed 49 = .ok (.iinc 3 1, 3) := by decide +kernel
theorem dX10_nextListed_52 : decode cX10_nextListed 52 = .ok (.goto (-45), 3) := by decide +kernel
theorem dX10_nextListed_55 : decode cX10_nextListed 55 = .ok (.iload_n 1, 1) := by decide +kernel
theorem dX10_nextListed_56 : decode cX10_nextListed 56 = .ok (.ireturn, 1) := by decide +kernel
theorem dX10_layOut_0 : decode cX10_layOut 0 = .ok (.aload_n 0, 1) := by decide +kernel
theorem dX10_layOut_1 : decode cX10_layOut 1 = .ok (.iconst 0, 1) := by decide +kernel
theorem dX10_layOut_2 : decode cX10_layOut 2 = .ok (.putfield 215, 3) := by decide +kernel
theorem dX10_layOut_5 : decode cX10_layOut 5 = .ok (.aload_n 0, 1) := by decide +kernel
theorem dX10_layOut_6 : decode cX10_layOut 6 = .ok (.iconst 0, 1) := by decide +kernel
theorem dX10_layOut_7 : decode cX10_layOut 7 = .ok (.putfield 212, 3) := by decide +kernel
theorem dX10_layOut_10 : decode cX10_layOut 10 = .ok (.aload_n 0, 1) := by decide +kernel
theorem dX10_layOut_11 : decode cX10_layOut 11 = .ok (.iconst 0, 1) := by decide +kernel
theorem dX10_layOut_12 : decode cX10_layOut 12 = .ok (.putfield 218, 3) := by decide +kernel
theorem dX10_layOut_15 : decode cX10_layOut 15 = .ok (.aload_n 0, 1) := by decide +kernel
theorem dX10_layOut_16 : decode cX10_layOut 16 = .ok (.invokevirtual 311, 3) := by decide +kernel
theorem dX10_layOut_19 : decode cX10_layOut 19 = .ok (.istore_n 1, 1) := by decide +kernel
theorem dX10_layOut_20 : decode cX10_layOut 20 = .ok (.iload_n 1, 1) := by decide +kernel
theorem dX10_layOut_21 : decode cX10_layOut 21 = .ok (.ifCond .lt 125, 3) := by decide +kernel
theorem dX10_layOut_24 : decode cX10_layOut 24 = .ok (.aload_n 0, 1) := by decide +kernel
theorem dX10_layOut_25 : decode cX10_layOut 25 = .ok (.iload_n 1, 1) := by decide +kernel
theorem dX10_layOut_26 : decode cX10_layOut 26 = .ok (.bipush 20, 2) := by decide +kernel
theorem dX10_layOut_28 : decode cX10_layOut 28 = .ok (.iconst 0, 1) := by decide +kernel
theorem dX10_layOut_29 : decode cX10_layOut 29 = .ok (.invokevirtual 102, 3) := by decide +kernel
theorem dX10_layOut_32 : decode cX10_layOut 32 = .ok (.aload_n 0, 1) := by decide +kernel
theorem dX10_layOut_33 : decode cX10_layOut 33 = .ok (.iload_n 1, 1) := by decide +kernel
theorem dX10_layOut_34 : decode cX10_layOut 34 = .ok (.bipush 19, 2) := by decide +kernel
theorem dX10_layOut_36 : decode cX10_layOut 36 = .ok (.invokevirtual 91, 3) := by decide +kernel
theorem dX10_layOut_39 : decode cX10_layOut 39 = .ok (.iconst 1, 1) := by decide +kernel
theorem dX10_layOut_40 : decode cX10_layOut 40 = .ok (.if_icmp .ne 98, 3) := by decide +kernel
theorem dX10_layOut_43 : decode cX10_layOut 43 = .ok (.aload_n 0, 1) := by decide +kernel
theorem dX10_layOut_44 : decode cX10_layOut 44 = .ok (.iconst 0, 1) := by decide +kernel
theorem dX10_layOut_45 : decode cX10_layOut 45 = .ok (.putfield 221, 3) := by decide +kernel
theorem dX10_layOut_48 : decode cX10_layOut 48 = .ok (.iload_n 1, 1) := by decide +kernel
theorem dX10_layOut_49 : decode cX10_layOut 49 = .ok (.aload_n 0, 1) := by decide +kernel
theorem dX10_layOut_50 : decode cX10_layOut 50 = .ok (.getfield 9, 3) := by decide +kernel
theorem dX10_layOut_53 : decode cX10_layOut 53 = .ok (.iconst 0, 1) := by decide +kernel
theorem dX10_layOut_54 : decode cX10_layOut 54 = .ok (.iaload, 1) := by decide +kernel
theorem dX10_layOut_55 : decode cX10_layOut 55 = .ok (.if_icmp .ne 25, 3) := by decide +kernel
theorem dX10_layOut_58 : decode cX10_layOut 58 = .ok (.aload_n 0, 1) := by decide +kernel
theorem dX10_layOut_59 : decode cX10_layOut 59 = .ok (.iload_n 1, 1) := by decide +kernel
theorem dX10_layOut_60 : decode cX10_layOut 60 = .ok (.iconst 0, 1) := by decide +kernel
theorem dX10_layOut_61 : decode cX10_layOut 61 = .ok (.aload_n 0, 1) := by decide +kernel
theorem dX10_layOut_62 : decode cX10_layOut 62 = .ok (.getfield 9, 3) := by decide +kernel
theorem dX10_layOut_65 : decode cX10_layOut 65 = .ok (.iconst 1, 1) := by decide +kernel
theorem dX10_layOut_66 : decode cX10_layOut 66 = .ok (.iaload, 1) := by decide +kernel
theorem dX10_layOut_67 : decode cX10_layOut 67 = .ok (.iconst 0, 1) := by decide +kernel
theorem dX10_layOut_68 : decode cX10_layOut 68 = .ok (.aload_n 0, 1) := by decide +kernel
theorem dX10_layOut_69 : decode cX10_layOut 69 = .ok (.getfield 9, 3) := by decide +kernel
theorem dX10_layOut_72 : decode cX10_layOut 72 = .ok (.iconst 2, 1) := by decide +kernel
theorem dX10_layOut_73 : decode cX10_layOut 73 = .ok (.iaload, 1) := by decide +kernel
theorem dX10_layOut_74 : decode cX10_layOut 74 = .ok (.invokevirtual 236, 3) := by decide +kernel
theorem dX10_layOut_77 : decode cX10_layOut 77 = .ok (.goto 36, 3) := by decide +kernel
theorem dX10_layOut_80 : decode cX10_layOut 80 = .ok (.aload_n 0, 1) := by decide +kernel
theorem dX10_layOut_81 : decode cX10_layOut 81 = .ok (.iload_n 1, 1) := by decide +kernel
theorem dX10_layOut_82 : decode cX10_layOut 82 = .ok (.aload_n 0, 1) := by decide +kernel
theorem dX10_layOut_83 : decode cX10_layOut 83 = .ok (.iload_n 1, 1) := by decide +kernel
theorem dX10_layOut_84 : decode cX10_layOut 84 = .ok (.bipush 26, 2) := by decide +kernel
theorem dX10_layOut_86 : decode cX10_layOut 86 = .ok (.invokevirtual 91, 3) := by decide +kernel
theorem dX10_layOut_89 : decode cX10_layOut 89 = .ok (.aload_n 0, 1) := by decide +kernel
theorem dX10_layOut_90 : decode cX10_layOut 90 = .ok (.iload_n 1, 1) := by decide +kernel
theorem dX10_layOut_91 : decode cX10_layOut 91 = .ok (.bipush 27, 2) := by decide +kernel
theorem dX10_layOut_93 : decode cX10_layOut 93 = .ok (.invokevirtual 91, 3) := by decide +kernel
theorem dX10_layOut_96 : decode cX10_layOut 96 = .ok (.aload_n 0, 1) := by decide +kernel
theorem dX10_layOut_97 : decode cX10_layOut 97 = .ok (.iload_n 1, 1) := by decide +kernel
theorem dX10_layOut_98 : decode cX10_layOut 98 = .ok (.bipush 28, 2) := by decide +kernel
theorem dX10_layOut_100 : decode cX10_layOut 100 = .ok (.invokevirtual 91, 3) := by decide +kernel
theorem dX10_layOut_103 : decode cX10_layOut 103 = .ok (.aload_n 0, 1) := by decide +kernel
theorem dX10_layOut_104 : decode cX10_layOut 104 = .ok (.iload_n 1, 1) := by decide +kernel
theorem dX10_layOut_105 : decode cX10_layOut 105 = .ok (.bipush 29, 2) := by decide +kernel
theorem dX10_layOut_107 : decode cX10_layOut 107 = .ok (.invokevirtual 91, 3) := by decide +kernel
theorem dX10_layOut_110 : decode cX10_layOut 110 = .ok (.invokevirtual 236, 3) := by decide +kernel
theorem dX10_layOut_113 : decode cX10_layOut 113 = .ok (.aload_n 0, 1) := by decide +kernel
theorem dX10_layOut_114 : decode cX10_layOut 114 = .ok (.getfield 221, 3) := by decide +kernel
theorem dX10_layOut_117 : decode cX10_layOut 117 = .ok (.ifCond .le 21, 3) := by decide +kernel
theorem dX10_layOut_120 : decode cX10_layOut 120 = .ok (.aload_n 0, 1) := by decide +kernel
theorem dX10_layOut_121 : decode cX10_layOut 121 = .ok (.aload_n 0, 1) := by decide +kernel
theorem dX10_layOut_122 : decode cX10_layOut 122 = .ok (.getfield 39, 3) := by decide +kernel
theorem dX10_layOut_125 : decode cX10_layOut 125 = .ok (.aload_n 0, 1) := by decide +kernel
theorem dX10_layOut_126 : decode cX10_layOut 126 = .ok (.getfield 221, 3) := by decide +kernel
theorem dX10_layOut_129 : decode cX10_layOut 129 = .ok (.iconst 1, 1) := by decide +kernel
theorem dX10_layOut_130 : decode cX10_layOut 130 = .ok (.isub, 1) := by decide +kernel
theorem dX10_layOut_131 : decode cX10_layOut 131 = .ok (.iaload, 1) := by decide +kernel
theorem dX10_layOut_132 : decode cX10_layOut 132 = .ok (.invokevirtual 315, 3) := by decide +kernel
theorem dX10_layOut_135 : decode cX10_layOut 135 = .ok (.goto (-22), 3) := by decide +kernel
theorem dX10_layOut_138 : decode cX10_layOut 138 = .ok (.aload_n 0, 1) := by decide +kernel
theorem dX10_layOut_139 : decode cX10_layOut 139 = .ok (.invokevirtual 311, 3) := by decide +kernel
theorem dX10_layOut_142 : decode cX10_layOut 142 = .ok (.istore_n 1, 1) := by decide +kernel
theorem dX10_layOut_143 : decode cX10_layOut 143 = .ok (.goto (-123), 3) := by decide +kernel
theorem dX10_layOut_146 : decode cX10_layOut 146 = .ok (.return_, 1) := by decide +kernel
theorem dX10_lays_0 : decode cX10_lays 0 = .ok (.aload_n 0, 1) := by decide +kernel
theorem dX10_lays_1 : decode cX10_lays 1 = .ok (.invokevirtual 318, 3) := by decide +kernel
theorem dX10_lays_4 : decode cX10_lays 4 = .ok (.aload_n 0, 1) := by decide +kernel
theorem dX10_lays_5 : decode cX10_lays 5 = .ok (.aload_n 0, 1) := by decide +kernel
theorem dX10_lays_6 : decode cX10_lays 6 = .ok (.getfield 215, 3) := by decide +kernel
theorem dX10_lays_9 : decode cX10_lays 9 = .ok (.putfield 321, 3) := by decide +kernel
theorem dX10_lays_12 : decode cX10_lays 12 = .ok (.aload_n 0, 1) := by decide +kernel
theorem dX10_lays_13 : decode cX10_lays 13 = .ok (.aload_n 0, 1) := by decide +kernel
theorem dX10_lays_14 : decode cX10_lays 14 = .ok (.getfield 212, 3) := by decide +kernel
theorem dX10_lays_17 : decode cX10_lays 17 = .ok (.putfield 324, 3) := by decide +kernel
theorem dX10_lays_20 : decode cX10_lays 20 = .ok (.aload_n 0, 1) := by decide +kernel
theorem dX10_lays_21 : decode cX10_lays 21 = .ok (.getfield 215, 3) := by decide +kernel
theorem dX10_lays_24 : decode cX10_lays 24 = .ok (.ireturn, 1) := by decide +kernel
theorem dX10_inTop_0 : decode cX10_inTop 0 = .ok (.iconst 0, 1) := by decide +kernel
theorem dX10_inTop_1 : decode cX10_inTop 1 = .ok (.istore_n 3, 1) := by decide +kernel
theorem dX10_inTop_2 : decode cX10_inTop 2 = .ok (.iload_n 1, 1) := by decide +kernel
theorem dX10_inTop_3 : decode cX10_inTop 3 = .ok (.istore 4, 2) := by decide +kernel
theorem dX10_inTop_5 : decode cX10_inTop 5 = .ok (.iload 4, 2) := by decide +kernel
theorem dX10_inTop_7 : decode cX10_inTop 7 = .ok (.ifCond .lt 26, 3) := by decide +kernel
theorem dX10_inTop_10 : decode cX10_inTop 10 = .ok (.iload_n 3, 1) := by decide +kernel
theorem dX10_inTop_11 : decode cX10_inTop 11 = .ok (.aload_n 0, 1) := by decide +kernel
theorem dX10_inTop_12 : decode cX10_inTop 12 = .ok (.iload 4, 2) := by decide +kernel
theorem dX10_inTop_14 : decode cX10_inTop 14 = .ok (.iload_n 2, 1) := by decide +kernel
theorem dX10_inTop_15 : decode cX10_inTop 15 = .ok (.invokevirtual 91, 3) := by decide +kernel
theorem dX10_inTop_18 : decode cX10_inTop 18 = .ok (.iadd, 1) := by decide +kernel
theorem dX10_inTop_19 : decode cX10_inTop 19 = .ok (.istore_n 3, 1) := by decide +kernel
theorem dX10_inTop_20 : decode cX10_inTop 20 = .ok (.aload_n 0, 1) := by decide +kernel
theorem dX10_inTop_21 : decode cX10_inTop 21 = .ok (.iload 4, 2) := by decide +kernel
theorem dX10_inTop_23 : decode cX10_inTop 23 = .ok (.bipush 9, 2) := by decide +kernel
theorem dX10_inTop_25 : decode cX10_inTop 25 = .ok (.invokevirtual 91, 3) := by decide +kernel
theorem dX10_inTop_28 : decode cX10_inTop 28 = .ok (.istore 4, 2) := by decide +kernel
theorem dX10_inTop_30 : decode cX10_inTop 30 = .ok (.goto (-25), 3) := by decide +kernel
theorem dX10_inTop_33 : decode cX10_inTop 33 = .ok (.iload_n 3, 1) := by decide +kernel
theorem dX10_inTop_34 : decode cX10_inTop 34 = .ok (.ireturn, 1) := by decide +kernel
theorem dX10_at_0 : decode cX10_at 0 = .ok (.aload_n 0, 1) := by decide +kernel
theorem dX10_at_1 : decode cX10_at 1 = .ok (.iload_n 1, 1) := by decide +kernel
theorem dX10_at_2 : decode cX10_at 2 = .ok (.invokevirtual 127, 3) := by decide +kernel
theorem dX10_at_5 : decode cX10_at 5 = .ok (.ifCond .eq 15, 3) := by decide +kernel
theorem dX10_at_8 : decode cX10_at 8 = .ok (.iload_n 2, 1) := by decide +kernel
theorem dX10_at_9 : decode cX10_at 9 = .ok (.i2l, 1) := by decide +kernel
theorem dX10_at_10 : decode cX10_at 10 = .ok (.lconst 0, 1) := by decide +kernel
theorem dX10_at_11 : decode cX10_at 11 = .ok (.ldc2_w 327, 3) := by decide +kernel
theorem dX10_at_14 : decode cX10_at 14 = .ok (.invokestatic 87, 3) := by decide +kernel
theorem dX10_at_17 : decode cX10_at 17 = .ok (.ifCond .ne 5, 3) := by decide +kernel
theorem dX10_at_20 : decode cX10_at 20 = .ok (.iconst (-1), 1) := by decide +kernel
theorem dX10_at_21 : decode cX10_at 21 = .ok (.ireturn, 1) := by decide +kernel
theorem dX10_at_22 : decode cX10_at 22 = .ok (.iload_n 2, 1) := by decide +kernel
theorem dX10_at_23 : decode cX10_at 23 = .ok (.bipush 8, 2) := by decide +kernel
theorem dX10_at_25 : decode cX10_at 25 = .ok (.if_icmp .ne 10, 3) := by decide +kernel
theorem dX10_at_28 : decode cX10_at 28 = .ok (.aload_n 0, 1) := by decide +kernel
theorem dX10_at_29 : decode cX10_at 29 = .ok (.iload_n 1, 1) := by decide +kernel
theorem dX10_at_30 : decode cX10_at 30 = .ok (.iconst 0, 1) := by decide +kernel
theorem dX10_at_31 : decode cX10_at 31 = .ok (.invokevirtual 283, 3) := by decide +kernel
theorem dX10_at_34 : decode cX10_at 34 = .ok (.ireturn, 1) := by decide +kernel
theorem dX10_at_35 : decode cX10_at 35 = .ok (.aload_n 0, 1) := by decide +kernel
theorem dX10_at_36 : decode cX10_at 36 = .ok (.iload_n 1, 1) := by decide +kernel
theorem dX10_at_37 : decode cX10_at 37 = .ok (.bipush 25, 2) := by decide +kernel
theorem dX10_at_39 : decode cX10_at 39 = .ok (.invokevirtual 91, 3) := by decide +kernel
theorem dX10_at_42 : decode cX10_at 42 = .ok (.ifCond .ne 5, 3) := by decide +kernel
theorem dX10_at_45 : decode cX10_at 45 = .ok (.iconst 0, 1) := by decide +kernel
theorem dX10_at_46 : decode cX10_at 46 = .ok (.ireturn, 1) := by decide +kernel
theorem dX10_at_47 : decode cX10_at 47 = .ok (.iload_n 2, 1) := by decide +kernel
theorem dX10_at_48 : decode cX10_at 48 = .ok (.tableswitch 86 0 6 #[44, 44, 54, 54, 66, 66, 78], 44) := by decide +kernel
theorem dX10_at_92 : decode cX10_at 92 = .ok (.aload_n 0, 1) := by decide +kernel
theorem dX10_at_93 : decode cX10_at 93 = .ok (.iload_n 1, 1) := by decide +kernel
theorem dX10_at_94 : decode cX10_at 94 = .ok (.bipush 30, 2) := by decide +kernel
theorem dX10_at_96 : decode cX10_at 96 = .ok (.iload_n 2, 1) := by decide +kernel
theorem dX10_at_97 : decode cX10_at 97 = .ok (.iadd, 1) := by decide +kernel
theorem dX10_at_98 : decode cX10_at 98 = .ok (.invokevirtual 91, 3) := by decide +kernel
theorem dX10_at_101 : decode cX10_at 101 = .ok (.ireturn, 1) := by decide +kernel
theorem dX10_at_102 : decode cX10_at 102 = .ok (.aload_n 0, 1) := by decide +kernel
theorem dX10_at_103 : decode cX10_at 103 = .ok (.iload_n 1, 1) := by decide +kernel
theorem dX10_at_104 : decode cX10_at 104 = .ok (.bipush 30, 2) := by decide +kernel
theorem dX10_at_106 : decode cX10_at 106 = .ok (.iload_n 2, 1) := by decide +kernel
theorem dX10_at_107 : decode cX10_at 107 = .ok (.iadd, 1) := by decide +kernel
theorem dX10_at_108 : decode cX10_at 108 = .ok (.iconst 2, 1) := by decide +kernel
theorem dX10_at_109 : decode cX10_at 109 = .ok (.isub, 1) := by decide +kernel
theorem dX10_at_110 : decode cX10_at 110 = .ok (.invokevirtual 329, 3) := by decide +kernel
theorem dX10_at_113 : decode cX10_at 113 = .ok (.ireturn, 1) := by decide +kernel
theorem dX10_at_114 : decode cX10_at 114 = .ok (.aload_n 0, 1) := by decide +kernel
theorem dX10_at_115 : decode cX10_at 115 = .ok (.iload_n 1, 1) := by decide +kernel
theorem dX10_at_116 : decode cX10_at 116 = .ok (.bipush 32, 2) := by decide +kernel
theorem dX10_at_118 : decode cX10_at 118 = .ok (.iload_n 2, 1) := by decide +kernel
theorem dX10_at_119 : decode cX10_at 119 = .ok (.iadd, 1) := by decide +kernel
theorem dX10_at_120 : decode cX10_at 120 = .ok (.iconst 4, 1) := by decide +kernel
theorem dX10_at_121 : decode cX10_at 121 = .ok (.isub, 1) := by decide +kernel
theorem dX10_at_122 : decode cX10_at 122 = .ok (.invokevirtual 91, 3) := by decide +kernel
theorem dX10_at_125 : decode cX10_at 125 = .ok (.ireturn, 1) := by decide +kernel
theorem dX10_at_126 : decode cX10_at 126 = .ok (.aload_n 0, 1) := by decide +kernel
theorem dX10_at_127 : decode cX10_at 127 = .ok (.iload_n 1, 1) := by decide +kernel
theorem dX10_at_128 : decode cX10_at 128 = .ok (.bipush 34, 2) := by decide +kernel
theorem dX10_at_130 : decode cX10_at 130 = .ok (.invokevirtual 91, 3) := by decide +kernel
theorem dX10_at_133 : decode cX10_at 133 = .ok (.ireturn, 1) := by decide +kernel
theorem dX10_at_134 : decode cX10_at 134 = .ok (.aload_n 0, 1) := by decide +kernel
theorem dX10_at_135 : decode cX10_at 135 = .ok (.iload_n 1, 1) := by decide +kernel
theorem dX10_at_136 : decode cX10_at 136 = .ok (.bipush 35, 2) := by decide +kernel
theorem dX10_at_138 : decode cX10_at 138 = .ok (.invokevirtual 91, 3) := by decide +kernel
theorem dX10_at_141 : decode cX10_at 141 = .ok (.ireturn, 1) := by decide +kernel
theorem dX10_bounds_0 : decode cX10_bounds 0 = .ok (.aload_n 0, 1) := by decide +kernel
theorem dX10_bounds_1 : decode cX10_bounds 1 = .ok (.iload_n 1, 1) := by decide +kernel
theorem dX10_bounds_2 : decode cX10_bounds 2 = .ok (.invokevirtual 127, 3) := by decide +kernel
theorem dX10_bounds_5 : decode cX10_bounds 5 = .ok (.ifCond .eq 15, 3) := by decide +kernel
theorem dX10_bounds_8 : decode cX10_bounds 8 = .ok (.iload_n 2, 1) := by decide +kernel
theorem dX10_bounds_9 : decode cX10_bounds 9 = .ok (.i2l, 1) := by decide +kernel
theorem dX10_bounds_10 : decode cX10_bounds 10 = .ok (.lconst 0, 1) := by decide +kernel
theorem dX10_bounds_11 : decode cX10_bounds 11 = .ok (.ldc2_w 332, 3) := by decide +kernel
theorem dX10_bounds_14 : decode cX10_bounds 14 = .ok (.invokestatic 87, 3) := by decide +kernel
theorem dX10_bounds_17 : decode cX10_bounds 17 = .ok (.ifCond .ne 5, 3) := by decide +kernel
theorem dX10_bounds_20 : decode cX10_bounds 20 = .ok (.iconst (-1), 1) := by decide +kernel
theorem dX10_bounds_21 : decode cX10_bounds 21 = .ok (.ireturn, 1) := by decide +kernel
theorem dX10_bounds_22 : decode cX10_bounds 22 = .ok (.aload_n 0, 1) := by decide +kernel
theorem dX10_bounds_23 : decode cX10_bounds 23 = .ok (.iload_n 1, 1) := by decide +kernel
theorem dX10_bounds_24 : decode cX10_bounds 24 = .ok (.bipush 25, 2) := by decide +kernel
theorem dX10_bounds_26 : decode cX10_bounds 26 = .ok (.invokevirtual 91, 3) := by decide +kernel
theorem dX10_bounds_29 : decode cX10_bounds 29 = .ok (.ifCond .ne 8, 3) := by decide +kernel
theorem dX10_bounds_32 : decode cX10_bounds 32 = .ok (.bipush (-5), 2) := by decide +kernel
theorem dX10_bounds_34 : decode cX10_bounds 34 = .ok (.goto 12, 3) := by decide +kernel
theorem dX10_bounds_37 : decode cX10_bounds 37 = .ok (.aload_n 0, 1) := by decide +kernel
theorem dX10_bounds_38 : decode cX10_bounds 38 = .ok (.iload_n 1, 1) := by decide +kernel
theorem dX10_bounds_39 : decode cX10_bounds 39 = .ok (.bipush 26, 2) := by decide +kernel
theorem dX10_bounds_41 : decode cX10_bounds 41 = .ok (.iload_n 2, 1) := by decide +kernel
theorem dX10_bounds_42 : decode cX10_bounds 42 = .ok (.iadd, 1) := by decide +kernel
theorem dX10_bounds_43 : decode cX10_bounds 43 = .ok (.invokevirtual 91, 3) := by decide +kernel
theorem dX10_bounds_46 : decode cX10_bounds 46 = .ok (.ireturn, 1) := by decide +kernel
theorem dX10_isAt_0 : decode cX10_isAt 0 = .ok (.aload_n 0, 1) := by decide +kernel
theorem dX10_isAt_1 : decode cX10_isAt 1 = .ok (.iload_n 1, 1) := by decide +kernel
theorem dX10_isAt_2 : decode cX10_isAt 2 = .ok (.bipush 25, 2) := by decide +kernel
theorem dX10_isAt_4 : decode cX10_isAt 4 = .ok (.invokevirtual 91, 3) := by decide +kernel
theorem dX10_isAt_7 : decode cX10_isAt 7 = .ok (.iconst 1, 1) := by decide +kernel
theorem dX10_isAt_8 : decode cX10_isAt 8 = .ok (.if_icmp .ne 45, 3) := by decide +kernel
theorem dX10_isAt_11 : decode cX10_isAt 11 = .ok (.iload_n 2, 1) := by decide +kernel
theorem dX10_isAt_12 : decode cX10_isAt 12 = .ok (.i2l, 1) := by decide +kernel
theorem dX10_isAt_13 : decode cX10_isAt 13 = .ok (.lconst 0, 1) := by decide +kernel
theorem dX10_isAt_14 : decode cX10_isAt 14 = .ok (.aload_n 0, 1) := by decide +kernel
theorem dX10_isAt_15 : decode cX10_isAt 15 = .ok (.iload_n 1, 1) := by decide +kernel
theorem dX10_isAt_16 : decode cX10_isAt 16 = .ok (.bipush 32, 2) := by decide +kernel
theorem dX10_isAt_18 : decode cX10_isAt 18 = .ok (.invokevirtual 91, 3) := by decide +kernel
theorem dX10_isAt_21 : decode cX10_isAt 21 = .ok (.iconst 1, 1) := by decide +kernel
theorem dX10_isAt_22 : decode cX10_isAt 22 = .ok (.isub, 1) := by decide +kernel
theorem dX10_isAt_23 : decode cX10_isAt 23 = .ok (.i2l, 1) := by decide +kernel
theorem dX10_isAt_24 : decode cX10_isAt 24 = .ok (.invokestatic 87, 3) := by decide +kernel
theorem dX10_isAt_27 : decode cX10_isAt 27 = .ok (.ifCond .eq 26, 3) := by decide +kernel
theorem dX10_isAt_30 : decode cX10_isAt 30 = .ok (.iload_n 3, 1) := by decide +kernel
theorem dX10_isAt_31 : decode cX10_isAt 31 = .ok (.i2l, 1) := by decide +kernel
theorem dX10_isAt_32 : decode cX10_isAt 32 = .ok (.lconst 0, 1) := by decide +kernel
theorem dX10_isAt_33 : decode cX10_isAt 33 = .ok (.aload_n 0, 1) := by decide +kernel
theorem dX10_isAt_34 : decode cX10_isAt 34 = .ok (.iload_n 1, 1) := by decide +kernel
theorem dX10_isAt_35 : decode cX10_isAt 35 = .ok (.bipush 33, 2) := by decide +kernel
theorem dX10_isAt_37 : decode cX10_isAt 37 = .ok (.invokevirtual 91, 3) := by decide +kernel
theorem dX10_isAt_40 : decode cX10_isAt 40 = .ok (.iconst 1, 1) := by decide +kernel
theorem dX10_isAt_41 : decode cX10_isAt 41 = .ok (.isub, 1) := by decide +kernel
theorem dX10_isAt_42 : decode cX10_isAt 42 = .ok (.i2l, 1) := by decide +kernel
theorem dX10_isAt_43 : decode cX10_isAt 43 = .ok (.invokestatic 87, 3) := by decide +kernel
theorem dX10_isAt_46 : decode cX10_isAt 46 = .ok (.ifCond .eq 7, 3) := by decide +kernel
theorem dX10_isAt_49 : decode cX10_isAt 49 = .ok (.iconst 1, 1) := by decide +kernel
theorem dX10_isAt_50 : decode cX10_isAt 50 = .ok (.goto 4, 3) := by decide +kernel
theorem dX10_isAt_53 : decode cX10_isAt 53 = .ok (.iconst 0, 1) := by decide +kernel
theorem dX10_isAt_54 : decode cX10_isAt 54 = .ok (.ireturn, 1) := by decide +kernel
theorem dX10_hit_0 : decode cX10_hit 0 = .ok (.aload_n 0, 1) := by decide +kernel
theorem dX10_hit_1 : decode cX10_hit 1 = .ok (.getfield 9, 3) := by decide +kernel
theorem dX10_hit_4 : decode cX10_hit 4 = .ok (.iconst 0, 1) := by decide +kernel
theorem dX10_hit_5 : decode cX10_hit 5 = .ok (.iaload, 1) := by decide +kernel
theorem dX10_hit_6 : decode cX10_hit 6 = .ok (.istore_n 3, 1) := by decide +kernel
theorem dX10_hit_7 : decode cX10_hit 7 = .ok (.iload_n 3, 1) := by decide +kernel
theorem dX10_hit_8 : decode cX10_hit 8 = .ok (.ifCond .lt 13, 3) := by decide +kernel
theorem dX10_hit_11 : decode cX10_hit 11 = .ok (.aload_n 0, 1) := by decide +kernel
theorem dX10_hit_12 : decode cX10_hit 12 = .ok (.iload_n 3, 1) := by decide +kernel
theorem dX10_hit_13 : decode cX10_hit 13 = .ok (.iload_n 1, 1) := by decide +kernel
theorem dX10_hit_14 : decode cX10_hit 14 = .ok (.iload_n 2, 1) := by decide +kernel
theorem dX10_hit_15 : decode cX10_hit 15 = .ok (.invokevirtual 334, 3) := by decide +kernel
theorem dX10_hit_18 : decode cX10_hit 18 = .ok (.ifCond .ne 6, 3) := by decide +kernel
theorem dX10_hit_21 : decode cX10_hit 21 = .ok (.bipush (-5), 2) := by decide +kernel
theorem dX10_hit_23 : decode cX10_hit 23 = .ok (.ireturn, 1) := by decide +kernel
theorem dX10_hit_24 : decode cX10_hit 24 = .ok (.iload_n 1, 1) := by decide +kernel
theorem dX10_hit_25 : decode cX10_hit 25 = .ok (.istore 4, 2) := by decide +kernel
theorem dX10_hit_27 : decode cX10_hit 27 = .ok (.iload_n 2, 1) := by decide +kernel
theorem dX10_hit_28 : decode cX10_hit 28 = .ok (.istore 5, 2) := by decide +kernel
theorem dX10_hit_30 : decode cX10_hit 30 = .ok (.aload_n 0, 1) := by decide +kernel
theorem dX10_hit_31 : decode cX10_hit 31 = .ok (.iload_n 3, 1) := by decide +kernel
theorem dX10_hit_32 : decode cX10_hit 32 = .ok (.invokevirtual 117, 3) := by decide +kernel
theorem dX10_hit_35 : decode cX10_hit 35 = .ok (.iconst 1, 1) := by decide +kernel
theorem dX10_hit_36 : decode cX10_hit 36 = .ok (.isub, 1) := by decide +kernel
theorem dX10_hit_37 : decode cX10_hit 37 = .ok (.istore 6, 2) := by decide +kernel
theorem dX10_hit_39 : decode cX10_hit 39 = .ok (.iload 6, 2) := by decide +kernel
theorem dX10_hit_41 : decode cX10_hit 41 = .ok (.ifCond .lt 90, 3) := by decide +kernel
theorem dX10_hit_44 : decode cX10_hit 44 = .ok (.aload_n 0, 1) := by decide +kernel
theorem dX10_hit_45 : decode cX10_hit 45 = .ok (.iload_n 3, 1) := by decide +kernel
theorem dX10_hit_46 : decode cX10_hit 46 = .ok (.iload 6, 2) := by decide +kernel
theorem dX10_hit_48 : decode cX10_hit 48 = .ok (.invokevirtual 153, 3) := by decide +kernel
theorem dX10_hit_51 : decode cX10_hit 51 = .ok (.istore 7, 2) := by decide +kernel
theorem dX10_hit_53 : decode cX10_hit 53 = .ok (.aload_n 0, 1) := by decide +kernel
theorem dX10_hit_54 : decode cX10_hit 54 = .ok (.iload 7, 2) := by decide +kernel
theorem dX10_hit_56 : decode cX10_hit 56 = .ok (.iload 4, 2) := by decide +kernel
theorem dX10_hit_58 : decode cX10_hit 58 = .ok (.aload_n 0, 1) := by decide +kernel
theorem dX10_hit_59 : decode cX10_hit 59 = .ok (.iload 7, 2) := by decide +kernel
theorem dX10_hit_61 : decode cX10_hit 61 = .ok (.bipush 30, 2) := by decide +kernel
theorem dX10_hit_63 : decode cX10_hit 63 = .ok (.invokevirtual 91, 3) := by decide +kernel
theorem dX10_hit_66 : decode cX10_hit 66 = .ok (.isub, 1) := by decide +kernel
theorem dX10_hit_67 : decode cX10_hit 67 = .ok (.iload 5, 2) := by decide +kernel
theorem dX10_hit_69 : decode cX10_hit 69 = .ok (.aload_n 0, 1) := by decide +kernel
theorem dX10_hit_70 : decode cX10_hit 70 = .ok (.iload 7, 2) := by decide +kernel
theorem dX10_hit_72 : decode cX10_hit 72 = .ok (.bipush 31, 2) := by decide +kernel
theorem dX10_hit_74 : decode cX10_hit 74 = .ok (.invokevirtual 91, 3) := by decide +kernel
theorem dX10_hit_77 : decode cX10_hit 77 = .ok (.isub, 1) := by decide +kernel
theorem dX10_hit_78 : decode cX10_hit 78 = .ok (.invokevirtual 334, 3) := by decide +kernel
theorem dX10_hit_81 : decode cX10_hit 81 = .ok (.ifCond .eq 44, 3) := by decide +kernel
theorem dX10_hit_84 : decode cX10_hit 84 = .ok (.iload 4, 2) := by decide +kernel
theorem dX10_hit_86 : decode cX10_hit 86 = .ok (.aload_n 0, 1) := by decide +kernel
theorem dX10_hit_87 : decode cX10_hit 87 = .ok (.iload 7, 2) := by decide +kernel
theorem dX10_hit_89 : decode cX10_hit 89 = .ok (.bipush 30, 2) := by decide +kernel
theorem dX10_hit_91 : decode cX10_hit 91 = .ok (.invokevirtual 91, 3) := by decide +kernel
theorem dX10_hit_94 : decode cX10_hit 94 = .ok (.isub, 1) := by decide +kernel
theorem dX10_hit_95 : decode cX10_hit 95 = .ok (.istore 4, 2) := by decide +kernel
theorem dX10_hit_97 : decode cX10_hit 97 = .ok (.iload 5, 2) := by decide +kernel
theorem dX10_hit_99 : decode cX10_hit 99 = .ok (.aload_n 0, 1) := by decide +kernel
theorem dX10_hit_100 : decode cX10_hit 100 = .ok (.iload 7, 2) := by decide +kernel
theorem dX10_hit_102 : decode cX10_hit 102 = .ok (.bipush 31, 2) := by decide +kernel
theorem dX10_hit_104 : decode cX10_hit 104 = .ok (.invokevirtual 91, 3) := by decide +kernel
theorem dX10_hit_107 : decode cX10_hit 107 = .ok (.isub, 1) := by decide +kernel
theorem dX10_hit_108 : decode cX10_hit 108 = .ok (.istore 5, 2) := by decide +kernel
theorem dX10_hit_110 : decode cX10_hit 110 = .ok (.iload 7, 2) := by decide +kernel
theorem dX10_hit_112 : decode cX10_hit 112 = .ok (.istore_n 3, 1) := by decide +kernel
theorem dX10_hit_113 : decode cX10_hit 113 = .ok (.aload_n 0, 1) := by decide +kernel
theorem dX10_hit_114 : decode cX10_hit 114 = .ok (.iload_n 3, 1) := by decide +kernel
theorem dX10_hit_115 : decode cX10_hit 115 = .ok (.invokevirtual 117, 3) := by decide +kernel
theorem dX10_hit_118 : decode cX10_hit 118 = .ok (.iconst 1, 1) := by decide +kernel
theorem dX10_hit_119 : decode cX10_hit 119 = .ok (.isub, 1) := by decide +kernel
theorem dX10_hit_120 : decode cX10_hit 120 = .ok (.istore 6, 2) := by decide +kernel
theorem dX10_hit_122 : decode cX10_hit 122 = .ok (.goto 6, 3) := by decide +kernel
theorem dX10_hit_125 : decode cX10_hit 125 = .ok (.iinc 6 (-1), 3) := by decide +kernel
theorem dX10_hit_128 : decode cX10_hit 128 = .ok (.goto (-89), 3) := by decide +kernel
theorem dX10_hit_131 : decode cX10_hit 131 = .ok (.iload_n 3, 1) := by decide +kernel
theorem dX10_hit_132 : decode cX10_hit 132 = .ok (.ireturn, 1) := by decide +kernel
theorem dX10_bitsOf_0 : decode cX10_bitsOf 0 = .ok (.iconst 0, 1) := by decide +kernel
theorem dX10_bitsOf_1 : decode cX10_bitsOf 1 = .ok (.istore_n 2, 1) := by decide +kernel
theorem dX10_bitsOf_2 : decode cX10_bitsOf 2 = .ok (.iconst 0, 1) := by decide +kernel
theorem dX10_bitsOf_3 : decode cX10_bitsOf 3 = .ok (.istore_n 3, 1) := by decide +kernel
theorem dX10_bitsOf_4 : decode cX10_bitsOf 4 = .ok (.iload_n 3, 1) := by decide +kernel
theorem dX10_bitsOf_5 : decode cX10_bitsOf 5 = .ok (.bipush 24, 2) := by decide +kernel
theorem dX10_bitsOf_7 : decode cX10_bitsOf 7 = .ok (.if_icmp .ge 36, 3) := by decide +kernel
theorem dX10_bitsOf_10 : decode cX10_bitsOf 10 = .ok (.iload_n 2, 1) := by decide +kernel
theorem dX10_bitsOf_11 : decode cX10_bitsOf 11 = .ok (.aload_n 0, 1) := by decide +kernel
theorem dX10_bitsOf_12 : decode cX10_bitsOf 12 = .ok (.iload_n 3, 1) := by decide +kernel
theorem dX10_bitsOf_13 : decode cX10_bitsOf 13 = .ok (.invokevirtual 127, 3) := by decide +kernel
theorem dX10_bitsOf_16 : decode cX10_bitsOf 16 = .ok (.ifCond .eq 18, 3) := by decide +kernel
theorem dX10_bitsOf_19 : decode cX10_bitsOf 19 = .ok (.aload_n 0, 1) := by decide +kernel
theorem dX10_bitsOf_20 : decode cX10_bitsOf 20 = .ok (.iload_n 3, 1) := by decide +kernel
theorem dX10_bitsOf_21 : decode cX10_bitsOf 21 = .ok (.iload_n 1, 1) := by decide +kernel
theorem dX10_bitsOf_22 : decode cX10_bitsOf 22 = .ok (.invokevirtual 91, 3) := by decide +kernel
theorem dX10_bitsOf_25 : decode cX10_bitsOf 25 = .ok (.ifCond .le 9, 3) := by decide +kernel
theorem dX10_bitsOf_28 : decode cX10_bitsOf 28 = .ok (.iconst 1, 1) := by decide +kernel
theorem dX10_bitsOf_29 : decode cX10_bitsOf 29 = .ok (.iload_n 3, 1) := by decide +kernel
theorem dX10_bitsOf_30 : decode cX10_bitsOf 30 = .ok (.ishl, 1) := by decide +kernel
theorem dX10_bitsOf_31 : decode cX10_bitsOf 31 = .ok (.goto 4, 3) := by decide +kernel
theorem dX10_bitsOf_34 : decode cX10_bitsOf 34 = .ok (.iconst 0, 1) := by decide +kernel
theorem dX10_bitsOf_35 : decode cX10_bitsOf 35 = .ok (.ior, 1) := by decide +kernel
theorem dX10_bitsOf_36 : decode cX10_bitsOf 36 = .ok (.istore_n 2, 1) := by decide +kernel
theorem dX10_bitsOf_37 : decode cX10_bitsOf 37 = .ok (.iinc 3 1, 3) := by decide +kernel
theorem dX10_bitsOf_40 : decode cX10_bitsOf 40 = .ok (.goto (-36), 3) := by decide +kernel
theorem dX10_bitsOf_43 : decode cX10_bitsOf 43 = .ok (.iload_n 2, 1) := by decide +kernel
theorem dX10_bitsOf_44 : decode cX10_bitsOf 44 = .ok (.ireturn, 1) := by decide +kernel
theorem dX10_many_0 : decode cX10_many 0 = .ok (.iconst 0, 1) := by decide +kernel
theorem dX10_many_1 : decode cX10_many 1 = .ok (.istore_n 1, 1) := by decide +kernel
theorem dX10_many_2 : decode cX10_many 2 = .ok (.iconst 0, 1) := by decide +kernel
theorem dX10_many_3 : decode cX10_many 3 = .ok (.istore_n 2, 1) := by decide +kernel
theorem dX10_many_4 : decode cX10_many 4 = .ok (.iload_n 2, 1) := by decide +kernel
theorem dX10_many_5 : decode cX10_many 5 = .ok (.bipush 24, 2) := by decide +kernel
theorem dX10_many_7 : decode cX10_many 7 = .ok (.if_icmp .ge 25, 3) := by decide +kernel
theorem dX10_many_10 : decode cX10_many 10 = .ok (.iload_n 1, 1) := by decide +kernel
theorem dX10_many_11 : decode cX10_many 11 = .ok (.aload_n 0, 1) := by decide +kernel
theorem dX10_many_12 : decode cX10_many 12 = .ok (.iload_n 2, 1) := by decide +kernel
theorem dX10_many_13 : decode cX10_many 13 = .ok (.invokevirtual 127, 3) := by decide +kernel
theorem dX10_many_16 : decode cX10_many 16 = .ok (.ifCond .eq 7, 3) := by decide +kernel
theorem dX10_many_19 : decode cX10_many 19 = .ok (.iconst 1, 1) := by decide +kernel
theorem dX10_many_20 : decode cX10_many 20 = .ok (.goto 4, 3) := by decide +kernel
theorem dX10_many_23 : decode cX10_many 23 = .ok (.iconst 0, 1) := by decide +kernel
theorem dX10_many_24 : decode cX10_many 24 = .ok (.iadd, 1) := by decide +kernel
theorem dX10_many_25 : decode cX10_many 25 = .ok (.istore_n 1, 1) := by decide +kernel
theorem dX10_many_26 : decode cX10_many 26 = .ok (.iinc 2 1, 3) := by decide +kernel
theorem dX10_many_29 : decode cX10_many 29 = .ok (.goto (-25), 3) := by decide +kernel
theorem dX10_many_32 : decode cX10_many 32 = .ok (.iload_n 1, 1) := by decide +kernel
theorem dX10_many_33 : decode cX10_many 33 = .ok (.ireturn, 1) := by decide +kernel
theorem dX10_told_0 : decode cX10_told 0 = .ok (.iload_n 1, 1) := by decide +kernel
theorem dX10_told_1 : decode cX10_told 1 = .ok (.tableswitch 172 0 13 #[71, 78, 85, 106, 112, 119, 126, 133, 138, 143, 150, 155, 162, 167], 71) := by decide +kernel
theorem dX10_told_72 : decode cX10_told 72 = .ok (.aload_n 0, 1) := by decide +kernel
theorem dX10_told_73 : decode cX10_told 73 = .ok (.getfield 9, 3) := by decide +kernel
theorem dX10_told_76 : decode cX10_told 76 = .ok (.iconst 1, 1) := by decide +kernel
theorem dX10_told_77 : decode cX10_told 77 = .ok (.iaload, 1) := by decide +kernel
theorem dX10_told_78 : decode cX10_told 78 = .ok (.ireturn, 1) := by decide +kernel
theorem dX10_told_79 : decode cX10_told 79 = .ok (.aload_n 0, 1) := by decide +kernel
theorem dX10_told_80 : decode cX10_told 80 = .ok (.getfield 9, 3) := by decide +kernel
theorem dX10_told_83 : decode cX10_told 83 = .ok (.iconst 2, 1) := by decide +kernel
theorem dX10_told_84 : decode cX10_told 84 = .ok (.iaload, 1) := by decide +kernel
theorem dX10_told_85 : decode cX10_told 85 = .ok (.ireturn, 1) := by decide +kernel
theorem dX10_told_86 : decode cX10_told 86 = .ok (.aload_n 0, 1) := by decide +kernel
theorem dX10_told_87 : decode cX10_told 87 = .ok (.getfield 9, 3) := by decide +kernel
theorem dX10_told_90 : decode cX10_told 90 = .ok (.iconst 0, 1) := by decide +kernel
theorem dX10_told_91 : decode cX10_told 91 = .ok (.iaload, 1) := by decide +kernel
theorem dX10_told_92 : decode cX10_told 92 = .ok (.ifCond .ge 8, 3) := by decide +kernel
theorem dX10_told_95 : decode cX10_told 95 = .ok (.bipush (-5), 2) := by decide +kernel
theorem dX10_told_97 : decode cX10_told 97 = .ok (.goto 9, 3) := by decide +kernel
theorem dX10_told_100 : decode cX10_told 100 = .ok (.aload_n 0, 1) := by decide +kernel
theorem dX10_told_101 : decode cX10_told 101 = .ok (.getfield 9, 3) := by decide +kernel
theorem dX10_told_104 : decode cX10_told 104 = .ok (.iconst 0, 1) := by decide +kernel
theorem dX10_told_105 : decode cX10_told 105 = .ok (.iaload, 1) := by decide +kernel
theorem dX10_told_106 : decode cX10_told 106 = .ok (.ireturn, 1) := by decide +kernel
theorem dX10_told_107 : decode cX10_told 107 = .ok (.aload_n 0, 1) := by decide +kernel
theorem dX10_told_108 : decode cX10_told 108 = .ok (.iconst 0, 1) := by decide +kernel
theorem dX10_told_109 : decode cX10_told 109 = .ok (.invokevirtual 337, 3) := by decide +kernel
theorem dX10_told_112 : decode cX10_told 112 = .ok (.ireturn, 1) := by decide +kernel
theorem dX10_told_113 : decode cX10_told 113 = .ok (.aload_n 0, 1) := by decide +kernel
theorem dX10_told_114 : decode cX10_told 114 = .ok (.bipush 19, 2) := by decide +kernel
theorem dX10_told_116 : decode cX10_told 116 = .ok (.invokevirtual 337, 3) := by decide +kernel
theorem dX10_told_119 : decode cX10_told 119 = .ok (.ireturn, 1) := by decide +kernel
theorem dX10_told_120 : decode cX10_told 120 = .ok (.aload_n 0, 1) := by decide +kernel
theorem dX10_told_121 : decode cX10_told 121 = .ok (.bipush 20, 2) := by decide +kernel
theorem dX10_told_123 : decode cX10_told 123 = .ok (.invokevirtual 337, 3) := by decide +kernel
theorem dX10_told_126 : decode cX10_told 126 = .ok (.ireturn, 1) := by decide +kernel
theorem dX10_told_127 : decode cX10_told 127 = .ok (.aload_n 0, 1) := by decide +kernel
theorem dX10_told_128 : decode cX10_told 128 = .ok (.bipush 34, 2) := by decide +kernel
theorem dX10_told_130 : decode cX10_told 130 = .ok (.invokevirtual 337, 3) := by decide +kernel
theorem dX10_told_133 : decode cX10_told 133 = .ok (.ireturn, 1) := by decide +kernel
theorem dX10_told_134 : decode cX10_told 134 = .ok (.aload_n 0, 1) := by decide +kernel
theorem dX10_told_135 : decode cX10_told 135 = .ok (.getfield 321, 3) := by decide +kernel
theorem dX10_told_138 : decode cX10_told 138 = .ok (.ireturn, 1) := by decide +kernel
theorem dX10_told_139 : decode cX10_told 139 = .ok (.aload_n 0, 1) := by decide +kernel
theorem dX10_told_140 : decode cX10_told 140 = .ok (.getfield 324, 3) := by decide +kernel
theorem dX10_told_143 : decode cX10_told 143 = .ok (.ireturn, 1) := by decide +kernel
theorem dX10_told_144 : decode cX10_told 144 = .ok (.aload_n 0, 1) := by decide +kernel
theorem dX10_told_145 : decode cX10_told 145 = .ok (.getfield 9, 3) := by decide +kernel
theorem dX10_told_148 : decode cX10_told 148 = .ok (.iconst 3, 1) := by decide +kernel
theorem dX10_told_149 : decode cX10_told 149 = .ok (.iaload, 1) := by decide +kernel
theorem dX10_told_150 : decode cX10_told 150 = .ok (.ireturn, 1) := by decide +kernel
theorem dX10_told_151 : decode cX10_told 151 = .ok (.aload_n 0, 1) := by decide +kernel
theorem dX10_told_152 : decode cX10_told 152 = .ok (.getfield 340, 3) := by decide +kernel
theorem dX10_told_155 : decode cX10_told 155 = .ok (.ireturn, 1) := by decide +kernel
theorem dX10_told_156 : decode cX10_told 156 = .ok (.aload_n 0, 1) := by decide +kernel
theorem dX10_told_157 : decode cX10_told 157 = .ok (.getfield 9, 3) := by decide +kernel
theorem dX10_told_160 : decode cX10_told 160 = .ok (.iconst 5, 1) := by decide +kernel
theorem dX10_told_161 : decode cX10_told 161 = .ok (.iaload, 1) := by decide +kernel
theorem dX10_told_162 : decode cX10_told 162 = .ok (.ireturn, 1) := by decide +kernel
theorem dX10_told_163 : decode cX10_told 163 = .ok (.aload_n 0, 1) := by decide +kernel
theorem dX10_told_164 : decode cX10_told 164 = .ok (.getfield 343, 3) := by decide +kernel
theorem dX10_told_167 : decode cX10_told 167 = .ok (.ireturn, 1) := by decide +kernel
theorem dX10_told_168 : decode cX10_told 168 = .ok (.aload_n 0, 1) := by decide +kernel
theorem dX10_told_169 : decode cX10_told 169 = .ok (.getfield 202, 3) := by decide +kernel
theorem dX10_told_172 : decode cX10_told 172 = .ok (.ireturn, 1) := by decide +kernel
theorem dX10_told_173 : decode cX10_told 173 = .ok (.iconst (-1), 1) := by decide +kernel
theorem dX10_told_174 : decode cX10_told 174 = .ok (.ireturn, 1) := by decide +kernel
theorem dX10_letter_0 : decode cX10_letter 0 = .ok (.iload_n 1, 1) := by decide +kernel
theorem dX10_letter_1 : decode cX10_letter 1 = .ok (.i2l, 1) := by decide +kernel
theorem dX10_letter_2 : decode cX10_letter 2 = .ok (.ldc2_w 346, 3) := by decide +kernel
theorem dX10_letter_5 : decode cX10_letter 5 = .ok (.ldc2_w 348, 3) := by decide +kernel
theorem dX10_letter_8 : decode cX10_letter 8 = .ok (.invokestatic 87, 3) := by decide +kernel
theorem dX10_letter_11 : decode cX10_letter 11 = .ok (.ifCond .ne 6, 3) := by decide +kernel
theorem dX10_letter_14 : decode cX10_letter 14 = .ok (.bipush (-2), 2) := by decide +kernel
theorem dX10_letter_16 : decode cX10_letter 16 = .ok (.ireturn, 1) := by decide +kernel
theorem dX10_letter_17 : decode cX10_letter 17 = .ok (.aload_n 0, 1) := by decide +kernel
theorem dX10_letter_18 : decode cX10_letter 18 = .ok (.getfield 340, 3) := by decide +kernel
theorem dX10_letter_21 : decode cX10_letter 21 = .ok (.bipush 120, 2) := by decide +kernel
theorem dX10_letter_23 : decode cX10_letter 23 = .ok (.if_icmp .ne 6, 3) := by decide +kernel
theorem dX10_letter_26 : decode cX10_letter 26 = .ok (.bipush (-4), 2) := by decide +kernel
theorem dX10_letter_28 : decode cX10_letter 28 = .ok (.ireturn, 1) := by decide +kernel
theorem dX10_letter_29 : decode cX10_letter 29 = .ok (.aload_n 0, 1) := by decide +kernel
theorem dX10_letter_30 : decode cX10_letter 30 = .ok (.getfield 54, 3) := by decide +kernel
theorem dX10_letter_33 : decode cX10_letter 33 = .ok (.aload_n 0, 1) := by decide +kernel
theorem dX10_letter_34 : decode cX10_letter 34 = .ok (.getfield 340, 3) := by decide +kernel
theorem dX10_letter_37 : decode cX10_letter 37 = .ok (.iload_n 1, 1) := by decide +kernel
theorem dX10_letter_38 : decode cX10_letter 38 = .ok (.iastore, 1) := by decide +kernel
theorem dX10_letter_39 : decode cX10_letter 39 = .ok (.aload_n 0, 1) := by decide +kernel
theorem dX10_letter_40 : decode cX10_letter 40 = .ok (.dup, 1) := by decide +kernel
theorem dX10_letter_41 : decode cX10_letter 41 = .ok (.getfield 340, 3) := by decide +kernel
theorem dX10_letter_44 : decode cX10_letter 44 = .ok (.iconst 1, 1) := by decide +kernel
theorem dX10_letter_45 : decode cX10_letter 45 = .ok (.iadd, 1) := by decide +kernel
theorem dX10_letter_46 : decode cX10_letter 46 = .ok (.putfield 340, 3) := by decide +kernel
theorem dX10_letter_49 : decode cX10_letter 49 = .ok (.aload_n 0, 1) := by decide +kernel
theorem dX10_letter_50 : decode cX10_letter 50 = .ok (.getfield 340, 3) := by decide +kernel
theorem dX10_letter_53 : decode cX10_letter 53 = .ok (.ireturn, 1) := by decide +kernel
theorem dX10_here_0 : decode cX10_here 0 = .ok (.aload_n 0, 1) := by decide +kernel
theorem dX10_here_1 : decode cX10_here 1 = .ok (.getfield 350, 3) := by decide +kernel
theorem dX10_here_4 : decode cX10_here 4 = .ok (.aload_n 0, 1) := by decide +kernel
theorem dX10_here_5 : decode cX10_here 5 = .ok (.getfield 340, 3) := by decide +kernel
theorem dX10_here_8 : decode cX10_here 8 = .ok (.if_icmp .ge 15, 3) := by decide +kernel
theorem dX10_here_11 : decode cX10_here 11 = .ok (.aload_n 0, 1) := by decide +kernel
theorem dX10_here_12 : decode cX10_here 12 = .ok (.getfield 54, 3) := by decide +kernel
theorem dX10_here_15 : decode cX10_here 15 = .ok (.aload_n 0, 1) := by decide +kernel
theorem dX10_here_16 : decode cX10_here 16 = .ok (.getfield 350, 3) := by decide +kernel
theorem dX10_here_19 : decode cX10_here 19 = .ok (.iaload, 1) := by decide +kernel
theorem dX10_here_20 : decode cX10_here 20 = .ok (.goto 4, 3) := by decide +kernel
theorem dX10_here_23 : decode cX10_here 23 = .ok (.iconst (-1), 1) := by decide +kernel
theorem dX10_here_24 : decode cX10_here 24 = .ok (.ireturn, 1) := by decide +kernel
theorem dX10_nameLetter_0 : decode cX10_nameLetter 0 = .ok (.iload_n 2, 1) := by decide +kernel
theorem dX10_nameLetter_1 : decode cX10_nameLetter 1 = .ok (.bipush 6, 2) := by decide +kernel
theorem dX10_nameLetter_3 : decode cX10_nameLetter 3 = .ok (.if_icmp .ge 17, 3) := by decide +kernel
theorem dX10_nameLetter_6 : decode cX10_nameLetter 6 = .ok (.aload_n 0, 1) := by decide +kernel
theorem dX10_nameLetter_7 : decode cX10_nameLetter 7 = .ok (.getfield 57, 3) := by decide +kernel
theorem dX10_nameLetter_10 : decode cX10_nameLetter 10 = .ok (.bipush 6, 2) := by decide +kernel
theorem dX10_nameLetter_12 : decode cX10_nameLetter 12 = .ok (.iload_n 1, 1) := by decide +kernel
theorem dX10_nameLetter_13 : decode cX10_nameLetter 13 = .ok (.imul, 1) := by decide +kernel
theorem dX10_nameLetter_14 : decode cX10_nameLetter 14 = .ok (.iload_n 2, 1) := by decide +kernel
theorem dX10_nameLetter_15 : decode cX10_nameLetter 15 = .ok (.iadd, 1) := by decide +kernel
theorem dX10_nameLetter_16 : decode cX10_nameLetter 16 = .ok (.iaload, 1) := by decide +kernel
theorem dX10_nameLetter_17 : decode cX10_nameLetter 17 = .ok (.goto 4, 3) := by decide +kernel
theorem dX10_nameLetter_20 : decode cX10_nameLetter 20 = .ok (.iconst 0, 1) := by decide +kernel
theorem dX10_nameLetter_21 : decode cX10_nameLetter 21 = .ok (.ireturn, 1) := by decide +kernel
theorem dX10_readName_0 : decode cX10_readName 0 = .ok (.sipush 1023, 3) := by decide +kernel
theorem dX10_readName_3 : decode cX10_readName 3 = .ok (.istore_n 1, 1) := by decide +kernel
theorem dX10_readName_4 : decode cX10_readName 4 = .ok (.iconst 0, 1) := by decide +kernel
theorem dX10_readName_5 : decode cX10_readName 5 = .ok (.istore_n 2, 1) := by decide +kernel
theorem dX10_readName_6 : decode cX10_readName 6 = .ok (.iload_n 2, 1) := by decide +kernel
theorem dX10_readName_7 : decode cX10_readName 7 = .ok (.bipush 7, 2) := by decide +kernel
theorem dX10_readName_9 : decode cX10_readName 9 = .ok (.if_icmp .ge 115, 3) := by decide +kernel
theorem dX10_readName_12 : decode cX10_readName 12 = .ok (.iconst 0, 1) := by decide +kernel
theorem dX10_readName_13 : decode cX10_readName 13 = .ok (.istore_n 3, 1) := by decide +kernel
theorem dX10_readName_14 : decode cX10_readName 14 = .ok (.iconst 0, 1) := by decide +kernel
theorem dX10_readName_15 : decode cX10_readName 15 = .ok (.istore 4, 2) := by decide +kernel
theorem dX10_readName_17 : decode cX10_readName 17 = .ok (.iload 4, 2) := by decide +kernel
theorem dX10_readName_19 : decode cX10_readName 19 = .ok (.bipush 10, 2) := by decide +kernel
theorem dX10_readName_21 : decode cX10_readName 21 = .ok (.if_icmp .ge 74, 3) := by decide +kernel
theorem dX10_readName_24 : decode cX10_readName 24 = .ok (.iload_n 1, 1) := by decide +kernel
theorem dX10_readName_25 : decode cX10_readName 25 = .ok (.iload 4, 2) := by decide +kernel
theorem dX10_readName_27 : decode cX10_readName 27 = .ok (.ishr, 1) := by decide +kernel
theorem dX10_readName_28 : decode cX10_readName 28 = .ok (.iconst 1, 1) := by decide +kernel
theorem dX10_readName_29 : decode cX10_readName 29 = .ok (.iand, 1) := by decide +kernel
theorem dX10_readName_30 : decode cX10_readName 30 = .ok (.iconst 1, 1) := by decide +kernel
theorem dX10_readName_31 : decode cX10_readName 31 = .ok (.if_icmp .ne 7, 3) := by decide +kernel
theorem dX10_readName_34 : decode cX10_readName 34 = .ok (.iconst 1, 1) := by decide +kernel
theorem dX10_readName_35 : decode cX10_readName 35 = .ok (.goto 4, 3) := by decide +kernel
theorem dX10_readName_38 : decode cX10_readName 38 = .ok (.iconst 0, 1) := by decide +kernel
theorem dX10_readName_39 : decode cX10_readName 39 = .ok (.istore 5, 2) := by decide +kernel
theorem dX10_readName_41 : decode cX10_readName 41 = .ok (.iload 5, 2) := by decide +kernel
theorem dX10_readName_43 : decode cX10_readName 43 = .ok (.ifCond .eq 16, 3) := by decide +kernel
theorem dX10_readName_46 : decode cX10_readName 46 = .ok (.aload_n 0, 1) := by decide +kernel
theorem dX10_readName_47 : decode cX10_readName 47 = .ok (.iload 4, 2) := by decide +kernel
theorem dX10_readName_49 : decode cX10_readName 49 = .ok (.iload_n 2, 1) := by decide +kernel
theorem dX10_readName_50 : decode cX10_readName 50 = .ok (.invokevirtual 353, 3) := by decide +kernel
theorem dX10_readName_53 : decode cX10_readName 53 = .ok (.ifCond .ne 6, 3) := by decide +kernel
theorem dX10_readName_56 : decode cX10_readName 56 = .ok (.iload 4, 2) := by decide +kernel
theorem dX10_readName_58 : decode cX10_readName 58 = .ok (.ireturn, 1) := by decide +kernel
theorem dX10_readName_59 : decode cX10_readName 59 = .ok (.iload_n 3, 1) := by decide +kernel
theorem dX10_readName_60 : decode cX10_readName 60 = .ok (.iload 5, 2) := by decide +kernel
theorem dX10_readName_62 : decode cX10_readName 62 = .ok (.ifCond .eq 24, 3) := by decide +kernel
theorem dX10_readName_65 : decode cX10_readName 65 = .ok (.aload_n 0, 1) := by decide +kernel
theorem dX10_readName_66 : decode cX10_readName 66 = .ok (.iload 4, 2) := by decide +kernel
theorem dX10_readName_68 : decode cX10_readName 68 = .ok (.iload_n 2, 1) := by decide +kernel
theorem dX10_readName_69 : decode cX10_readName 69 = .ok (.invokevirtual 353, 3) := by decide +kernel
theorem dX10_readName_72 : decode cX10_readName 72 = .ok (.aload_n 0, 1) := by decide +kernel
theorem dX10_readName_73 : decode cX10_readName 73 = .ok (.invokevirtual 356, 3) := by decide +kernel
theorem dX10_readName_76 : decode cX10_readName 76 = .ok (.if_icmp .ne 10, 3) := by decide +kernel
theorem dX10_readName_79 : decode cX10_readName 79 = .ok (.iconst 1, 1) := by decide +kernel
theorem dX10_readName_80 : decode cX10_readName 80 = .ok (.iload 4, 2) := by decide +kernel
theorem dX10_readName_82 : decode cX10_readName 82 = .ok (.ishl, 1) := by decide +kernel
theorem dX10_readName_83 : decode cX10_readName 83 = .ok (.goto 4, 3) := by decide +kernel
theorem dX10_readName_86 : decode cX10_readName 86 = .ok (.iconst 0, 1) := by decide +kernel
theorem dX10_readName_87 : decode cX10_readName 87 = .ok (.ior, 1) := by decide +kernel
theorem dX10_readName_88 : decode cX10_readName 88 = .ok (.istore_n 3, 1) := by decide +kernel
theorem dX10_readName_89 : decode cX10_readName 89 = .ok (.iinc 4 1, 3) := by decide +kernel
theorem dX10_readName_92 : decode cX10_readName 92 = .ok (.goto (-75), 3) := by decide +kernel
theorem dX10_readName_95 : decode cX10_readName 95 = .ok (.iload_n 3, 1) := by decide +kernel
theorem dX10_readName_96 : decode cX10_readName 96 = .ok (.ifCond .ne 10, 3) := by decide +kernel
theorem dX10_readName_99 : decode cX10_readName 99 = .ok (.aload_n 0, 1) := by decide +kernel
theorem dX10_readName_100 : decode cX10_readName 100 = .ok (.iconst 1, 1) := by decide +kernel
theorem dX10_readName_101 : decode cX10_readName 101 = .ok (.putfield 359, 3) := by decide +kernel
theorem dX10_readName_104 : decode cX10_readName 104 = .ok (.iconst 0, 1) := by decide +kernel
theorem dX10_readName_105 : decode cX10_readName 105 = .ok (.ireturn, 1) := by decide +kernel
theorem dX10_readName_106 : decode cX10_readName 106 = .ok (.iload_n 3, 1) := by decide +kernel
theorem dX10_readName_107 : decode cX10_readName 107 = .ok (.istore_n 1, 1) := by decide +kernel
theorem dX10_readName_108 : decode cX10_readName 108 = .ok (.aload_n 0, 1) := by decide +kernel
theorem dX10_readName_109 : decode cX10_readName 109 = .ok (.dup, 1) := by decide +kernel
theorem dX10_readName_110 : decode cX10_readName 110 = .ok (.getfield 350, 3) := by decide +kernel
theorem dX10_readName_113 : decode cX10_readName 113 = .ok (.iconst 1, 1) := by decide +kernel
theorem dX10_readName_114 : decode cX10_readName 114 = .ok (.iadd, 1) := by decide +kernel
theorem dX10_readName_115 : decode cX10_readName 115 = .ok (.putfield 350, 3) := by decide +kernel
theorem dX10_readName_118 : decode cX10_readName 118 = .ok (.iinc 2 1, 3) := by decide +kernel
theorem dX10_readName_121 : decode cX10_readName 121 = .ok (.goto (-115), 3) := by decide +kernel
theorem dX10_readName_124 : decode cX10_readName 124 = .ok (.iconst 0, 1) := by decide +kernel
theorem dX10_readName_125 : decode cX10_readName 125 = .ok (.ireturn, 1) := by decide +kernel
theorem dX10_readNumber_0 : decode cX10_readNumber 0 = .ok (.aload_n 0, 1) := by decide +kernel
theorem dX10_readNumber_1 : decode cX10_readNumber 1 = .ok (.invokevirtual 356, 3) := by decide +kernel
theorem dX10_readNumber_4 : decode cX10_readNumber 4 = .ok (.bipush 32, 2) := by decide +kernel
theorem dX10_readNumber_6 : decode cX10_readNumber 6 = .ok (.if_icmp .eq 10, 3) := by decide +kernel
theorem dX10_readNumber_9 : decode cX10_readNumber 9 = .ok (.aload_n 0, 1) := by decide +kernel
theorem dX10_readNumber_10 : decode cX10_readNumber 10 = .ok (.iconst 1, 1) := by decide +kernel
theorem dX10_readNumber_11 : decode cX10_readNumber 11 = .ok (.putfield 359, 3) := by decide +kernel
theorem dX10_readNumber_14 : decode cX10_readNumber 14 = .ok (.iconst 0, 1) := by decide +kernel
theorem dX10_readNumber_15 : decode cX10_readNumber 15 = .ok (.ireturn, 1) := by decide +kernel
theorem dX10_readNumber_16 : decode cX10_readNumber 16 = .ok (.aload_n 0, 1) := by decide +kernel
theorem dX10_readNumber_17 : decode cX10_readNumber 17 = .ok (.dup, 1) := by decide +kernel
theorem dX10_readNumber_18 : decode cX10_readNumber 18 = .ok (.getfield 350, 3) := by decide +kernel
theorem dX10_readNumber_21 : decode cX10_readNumber 21 = .ok (.iconst 1, 1) := by decide +kernel
theorem dX10_readNumber_22 : decode cX10_readNumber 22 = .ok (.iadd, 1) := by decide +kernel
theorem dX10_readNumber_23 : decode cX10_readNumber 23 = .ok (.putfield 350, 3) := by decide +kernel
theorem dX10_readNumber_26 : decode cX10_readNumber 26 = .ok (.aload_n 0, 1) := by decide +kernel
theorem dX10_readNumber_27 : decode cX10_readNumber 27 = .ok (.getfield 350, 3) := by decide +kernel
theorem dX10_readNumber_30 : decode cX10_readNumber 30 = .ok (.istore 4, 2) := by decide +kernel
theorem dX10_readNumber_32 : decode cX10_readNumber 32 = .ok (.iconst 0, 1) := by decide +kernel
theorem dX10_readNumber_33 : decode cX10_readNumber 33 = .ok (.istore 5, 2) := by decide +kernel
theorem dX10_readNumber_35 : decode cX10_readNumber 35 = .ok (.iconst 0, 1) := by decide +kernel
theorem dX10_readNumber_36 : decode cX10_readNumber 36 = .ok (.istore 6, 2) := by decide +kernel
theorem dX10_readNumber_38 : decode cX10_readNumber 38 = .ok (.iload 6, 2) := by decide +kernel
theorem dX10_readNumber_40 : decode cX10_readNumber 40 = .ok (.iconst 2, 1) := by decide +kernel
theorem dX10_readNumber_41 : decode cX10_readNumber 41 = .ok (.if_icmp .ge 51, 3) := by decide +kernel
theorem dX10_readNumber_44 : decode cX10_readNumber 44 = .ok (.aload_n 0, 1) := by decide +kernel
theorem dX10_readNumber_45 : decode cX10_readNumber 45 = .ok (.invokevirtual 356, 3) := by decide +kernel
theorem dX10_readNumber_48 : decode cX10_readNumber 48 = .ok (.i2l, 1) := by decide +kernel
theorem dX10_readNumber_49 : decode cX10_readNumber 49 = .ok (.ldc2_w 363, 3) := by decide +kernel
theorem dX10_readNumber_52 : decode cX10_readNumber 52 = .ok (.ldc2_w 365, 3) := by decide +kernel
theorem dX10_readNumber_55 : decode cX10_readNumber 55 = .ok (.invokestatic 87, 3) := by decide +kernel
theorem dX10_readNumber_58 : decode cX10_readNumber 58 = .ok (.ifCond .eq 34, 3) := by decide +kernel
theorem dX10_readNumber_61 : decode cX10_readNumber 61 = .ok (.bipush 10, 2) := by decide +kernel
theorem dX10_readNumber_63 : decode cX10_readNumber 63 = .ok (.iload 5, 2) := by decide +kernel
theorem dX10_readNumber_65 : decode cX10_readNumber 65 = .ok (.imul, 1) := by decide +kernel
theorem dX10_readNumber_66 : decode cX10_readNumber 66 = .ok (.aload_n 0, 1) := by decide +kernel
theorem dX10_readNumber_67 : decode cX10_readNumber 67 = .ok (.invokevirtual 356, 3) := by decide +kernel
theorem dX10_readNumber_70 : decode cX10_readNumber 70 = .ok (.iadd, 1) := by decide +kernel
theorem dX10_readNumber_71 : decode cX10_readNumber 71 = .ok (.bipush 48, 2) := by decide +kernel
theorem dX10_readNumber_73 : decode cX10_readNumber 73 = .ok (.isub, 1) := by decide +kernel
theorem dX10_readNumber_74 : decode cX10_readNumber 74 = .ok (.istore 5, 2) := by decide +kernel
theorem dX10_readNumber_76 : decode cX10_readNumber 76 = .ok (.aload_n 0, 1) := by decide +kernel
theorem dX10_readNumber_77 : decode cX10_readNumber 77 = .ok (.dup, 1) := by decide +kernel
theorem dX10_readNumber_78 : decode cX10_readNumber 78 = .ok (.getfield 350, 3) := by decide +kernel
theorem dX10_readNumber_81 : decode cX10_readNumber 81 = .ok (.iconst 1, 1) := by decide +kernel
theorem dX10_readNumber_82 : decode cX10_readNumber 82 = .ok (.iadd, 1) := by decide +kernel
theorem dX10_readNumber_83 : decode cX10_readNumber 83 = .ok (.putfield 350, 3) := by decide +kernel
theorem dX10_readNumber_86 : decode cX10_readNumber 86 = .ok (.iinc 6 1, 3) := by decide +kernel
theorem dX10_readNumber_89 : decode cX10_readNumber 89 = .ok (.goto (-51), 3) := by decide +kernel
theorem dX10_readNumber_92 : decode cX10_readNumber 92 = .ok (.aload_n 0, 1) := by decide +kernel
theorem dX10_readNumber_93 : decode cX10_readNumber 93 = .ok (.aload_n 0, 1) := by decide +kernel
theorem dX10_readNumber_94 : decode cX10_readNumber 94 = .ok (.getfield 350, 3) := by decide +kernel
theorem dX10_readNumber_97 : decode cX10_readNumber 97 = .ok (.iload 4, 2) := by decide +kernel
theorem dX10_readNumber_99 : decode cX10_readNumber 99 = .ok (.if_icmp .ne 7, 3) := by decide +kernel
theorem dX10_readNumber_102 : decode cX10_readNumber 102 = .ok (.iconst 1, 1) := by decide +kernel
theorem dX10_readNumber_103 : decode cX10_readNumber 103 = .ok (.goto 4, 3) := by decide +kernel
theorem dX10_readNumber_106 : decode cX10_readNumber 106 = .ok (.iconst 0, 1) := by decide +kernel
theorem dX10_readNumber_107 : decode cX10_readNumber 107 = .ok (.putfield 359, 3) := by decide +kernel
theorem dX10_readNumber_110 : decode cX10_readNumber 110 = .ok (.aload_n 0, 1) := by decide +kernel
theorem dX10_readNumber_111 : decode cX10_readNumber 111 = .ok (.getfield 359, 3) := by decide +kernel
theorem dX10_readNumber_114 : decode cX10_readNumber 114 = .ok (.ifCond .ne 42, 3) := by decide +kernel
theorem dX10_readNumber_117 : decode cX10_readNumber 117 = .ok (.iload_n 1, 1) := by decide +kernel
theorem dX10_readNumber_118 : decode cX10_readNumber 118 = .ok (.iload_n 2, 1) := by decide +kernel
theorem dX10_readNumber_119 : decode cX10_readNumber 119 = .ok (.iload 5, 2) := by decide +kernel
theorem dX10_readNumber_121 : decode cX10_readNumber 121 = .ok (.invokestatic 120, 3) := by decide +kernel
theorem dX10_readNumber_124 : decode cX10_readNumber 124 = .ok (.ifCond .eq 21, 3) := by decide +kernel
theorem dX10_readNumber_127 : decode cX10_readNumber 127 = .ok (.iload_n 1, 1) := by decide +kernel
theorem dX10_readNumber_128 : decode cX10_readNumber 128 = .ok (.iconst 3, 1) := by decide +kernel
theorem dX10_readNumber_129 : decode cX10_readNumber 129 = .ok (.if_icmp .ne 27, 3) := by decide +kernel
theorem dX10_readNumber_132 : decode cX10_readNumber 132 = .ok (.iload_n 2, 1) := by decide +kernel
theorem dX10_readNumber_133 : decode cX10_readNumber 133 = .ok (.iconst 2, 1) := by decide +kernel
theorem dX10_readNumber_134 : decode cX10_readNumber 134 = .ok (.irem, 1) := by decide +kernel
theorem dX10_readNumber_135 : decode cX10_readNumber 135 = .ok (.iconst 1, 1) := by decide +kernel
theorem dX10_readNumber_136 : decode cX10_readNumber 136 = .ok (.if_icmp .ne 20, 3) := by decide +kernel
theorem dX10_readNumber_139 : decode cX10_readNumber 139 = .ok (.iload 5, 2) := by decide +kernel
theorem dX10_readNumber_141 : decode cX10_readNumber 141 = .ok (.iload_n 3, 1) := by decide +kernel
theorem dX10_readNumber_142 : decode cX10_readNumber 142 = .ok (.if_icmp .ge 14, 3) := by decide +kernel
theorem dX10_readNumber_145 : decode cX10_readNumber 145 = .ok (.aload_n 0, 1) := by decide +kernel
theorem dX10_readNumber_146 : decode cX10_readNumber 146 = .ok (.iconst 1, 1) := by decide +kernel
theorem dX10_readNumber_147 : decode cX10_readNumber 147 = .ok (.putfield 359, 3) := by decide +kernel
theorem dX10_readNumber_150 : decode cX10_readNumber 150 = .ok (.aload_n 0, 1) := by decide +kernel
theorem dX10_readNumber_151 : decode cX10_readNumber 151 = .ok (.iload 4, 2) := by decide +kernel
theorem dX10_readNumber_153 : decode cX10_readNumber 153 = .ok (.putfield 350, 3) := by decide +kernel
theorem dX10_readNumber_156 : decode cX10_readNumber 156 = .ok (.iload 5, 2) := by decide +kernel
theorem dX10_readNumber_158 : decode cX10_readNumber 158 = .ok (.ireturn, 1) := by decide +kernel
theorem dX10_readShare_0 : decode cX10_readShare 0 = .ok (.aload_n 0, 1) := by decide +kernel
theorem dX10_readShare_1 : decode cX10_readShare 1 = .ok (.invokevirtual 356, 3) := by decide +kernel
theorem dX10_readShare_4 : decode cX10_readShare 4 = .ok (.bipush 42, 2) := by decide +kernel
theorem dX10_readShare_6 : decode cX10_readShare 6 = .ok (.if_icmp .eq 4, 3) := by decide +kernel
theorem dX10_readShare_9 : decode cX10_readShare 9 = .ok (.return_, 1) := by decide +kernel
theorem dX10_readShare_10 : decode cX10_readShare 10 = .ok (.aload_n 0, 1) := by decide +kernel
theorem dX10_readShare_11 : decode cX10_readShare 11 = .ok (.dup, 1) := by decide +kernel
theorem dX10_readShare_12 : decode cX10_readShare 12 = .ok (.getfield 350, 3) := by decide +kernel
theorem dX10_readShare_15 : decode cX10_readShare 15 = .ok (.iconst 1, 1) := by decide +kernel
theorem dX10_readShare_16 : decode cX10_readShare 16 = .ok (.iadd, 1) := by decide +kernel
theorem dX10_readShare_17 : decode cX10_readShare 17 = .ok (.putfield 350, 3) := by decide +kernel
theorem dX10_readShare_20 : decode cX10_readShare 20 = .ok (.aload_n 0, 1) := by decide +kernel
theorem dX10_readShare_21 : decode cX10_readShare 21 = .ok (.invokevirtual 356, 3) := by decide +kernel
theorem dX10_readShare_24 : decode cX10_readShare 24 = .ok (.i2l, 1) := by decide +kernel
theorem dX10_readShare_25 : decode cX10_readShare 25 = .ok (.ldc2_w 363, 3) := by decide +kernel
theorem dX10_readShare_28 : decode cX10_readShare 28 = .ok (.ldc2_w 365, 3) := by decide +kernel
theorem dX10_readShare_31 : decode cX10_readShare 31 = .ok (.invokestatic 87, 3) := by decide +kernel
theorem dX10_readShare_34 : decode cX10_readShare 34 = .ok (.ifCond .ne 9, 3) := by decide +kernel
theorem dX10_readShare_37 : decode cX10_readShare 37 = .ok (.aload_n 0, 1) := by decide +kernel
theorem dX10_readShare_38 : decode cX10_readShare 38 = .ok (.iconst 1, 1) := by decide +kernel
theorem dX10_readShare_39 : decode cX10_readShare 39 = .ok (.putfield 359, 3) := by decide +kernel
theorem dX10_readShare_42 : decode cX10_readShare 42 = .ok (.return_, 1) := by decide +kernel
theorem dX10_readShare_43 : decode cX10_readShare 43 = .ok (.aload_n 0, 1) := by decide +kernel
theorem dX10_readShare_44 : decode cX10_readShare 44 = .ok (.getfield 60, 3) := by decide +kernel
theorem dX10_readShare_47 : decode cX10_readShare 47 = .ok (.iload_n 1, 1) := by decide +kernel
theorem dX10_readShare_48 : decode cX10_readShare 48 = .ok (.iconst 5, 1) := by decide +kernel
theorem dX10_readShare_49 : decode cX10_readShare 49 = .ok (.iadd, 1) := by decide +kernel
theorem dX10_readShare_50 : decode cX10_readShare 50 = .ok (.aload_n 0, 1) := by decide +kernel
theorem dX10_readShare_51 : decode cX10_readShare 51 = .ok (.invokevirtual 356, 3) := by decide +kernel
theorem dX10_readShare_54 : decode cX10_readShare 54 = .ok (.bipush 48, 2) := by decide +kernel
theorem dX10_readShare_56 : decode cX10_readShare 56 = .ok (.isub, 1) := by decide +kernel
theorem dX10_readShare_57 : decode cX10_readShare 57 = .ok (.iastore, 1) := by decide +kernel
theorem dX10_readShare_58 : decode cX10_readShare 58 = .ok (.aload_n 0, 1) := by decide +kernel
theorem dX10_readShare_59 : decode cX10_readShare 59 = .ok (.dup, 1) := by decide +kernel
theorem dX10_readShare_60 : decode cX10_readShare 60 = .ok (.getfield 350, 3) := by decide +kernel
theorem dX10_readShare_63 : decode cX10_readShare 63 = .ok (.iconst 1, 1) := by decide +kernel
theorem dX10_readShare_64 : decode cX10_readShare 64 = .ok (.iadd, 1) := by decide +kernel
theorem dX10_readShare_65 : decode cX10_readShare 65 = .ok (.putfield 350, 3) := by decide +kernel
theorem dX10_readShare_68 : decode cX10_readShare 68 = .ok (.return_, 1) := by decide +kernel
theorem dX10_readBox_0 : decode cX10_readBox 0 = .ok (.aload_n 0, 1) := by decide +kernel
theorem dX10_readBox_1 : decode cX10_readBox 1 = .ok (.getfield 367, 3) := by decide +kernel
theorem dX10_readBox_4 : decode cX10_readBox 4 = .ok (.ifCond .le 17, 3) := by decide +kernel
theorem dX10_readBox_7 : decode cX10_readBox 7 = .ok (.aload_n 0, 1) := by decide +kernel
theorem dX10_readBox_8 : decode cX10_readBox 8 = .ok (.getfield 63, 3) := by decide +kernel
theorem dX10_readBox_11 : decode cX10_readBox 11 = .ok (.aload_n 0, 1) := by decide +kernel
theorem dX10_readBox_12 : decode cX10_readBox 12 = .ok (.getfield 367, 3) := by decide +kernel
theorem dX10_readBox_15 : decode cX10_readBox 15 = .ok (.iconst 1, 1) := by decide +kernel
theorem dX10_readBox_16 : decode cX10_readBox 16 = .ok (.isub, 1) := by decide +kernel
theorem dX10_readBox_17 : decode cX10_readBox 17 = .ok (.iaload, 1) := by decide +kernel
theorem dX10_readBox_18 : decode cX10_readBox 18 = .ok (.goto 4, 3) := by decide +kernel
theorem dX10_readBox_21 : decode cX10_readBox 21 = .ok (.iconst (-1), 1) := by decide +kernel
theorem dX10_readBox_22 : decode cX10_readBox 22 = .ok (.istore_n 1, 1) := by decide +kernel
theorem dX10_readBox_23 : decode cX10_readBox 23 = .ok (.aload_n 0, 1) := by decide +kernel
theorem dX10_readBox_24 : decode cX10_readBox 24 = .ok (.aload_n 0, 1) := by decide +kernel
theorem dX10_readBox_25 : decode cX10_readBox 25 = .ok (.getfield 9, 3) := by decide +kernel
theorem dX10_readBox_28 : decode cX10_readBox 28 = .ok (.iconst 3, 1) := by decide +kernel
theorem dX10_readBox_29 : decode cX10_readBox 29 = .ok (.iaload, 1) := by decide +kernel
theorem dX10_readBox_30 : decode cX10_readBox 30 = .ok (.aload_n 0, 1) := by decide +kernel
theorem dX10_readBox_31 : decode cX10_readBox 31 = .ok (.getfield 370, 3) := by decide +kernel
theorem dX10_readBox_34 : decode cX10_readBox 34 = .ok (.iadd, 1) := by decide +kernel
theorem dX10_readBox_35 : decode cX10_readBox 35 = .ok (.bipush 24, 2) := by decide +kernel
theorem dX10_readBox_37 : decode cX10_readBox 37 = .ok (.if_icmp .ge 34, 3) := by decide +kernel
theorem dX10_readBox_40 : decode cX10_readBox 40 = .ok (.iload_n 1, 1) := by decide +kernel
theorem dX10_readBox_41 : decode cX10_readBox 41 = .ok (.ifCond .lt 34, 3) := by decide +kernel
theorem dX10_readBox_44 : decode cX10_readBox 44 = .ok (.aload_n 0, 1) := by decide +kernel
theorem dX10_readBox_45 : decode cX10_readBox 45 = .ok (.getfield 60, 3) := by decide +kernel
theorem dX10_readBox_48 : decode cX10_readBox 48 = .ok (.bipush 8, 2) := by decide +kernel
theorem dX10_readBox_50 : decode cX10_readBox 50 = .ok (.iload_n 1, 1) := by decide +kernel
theorem dX10_readBox_51 : decode cX10_readBox 51 = .ok (.imul, 1) := by decide +kernel
theorem dX10_readBox_52 : decode cX10_readBox 52 = .ok (.bipush 7, 2) := by decide +kernel
theorem dX10_readBox_54 : decode cX10_readBox 54 = .ok (.iadd, 1) := by decide +kernel
theorem dX10_readBox_55 : decode cX10_readBox 55 = .ok (.iaload, 1) := by decide +kernel
theorem dX10_readBox_56 : decode cX10_readBox 56 = .ok (.aload_n 0, 1) := by decide +kernel
theorem dX10_readBox_57 : decode cX10_readBox 57 = .ok (.getfield 60, 3) := by decide +kernel
theorem dX10_readBox_60 : decode cX10_readBox 60 = .ok (.bipush 8, 2) := by decide +kernel
theorem dX10_readBox_62 : decode cX10_readBox 62 = .ok (.iload_n 1, 1) := by decide +kernel
theorem dX10_readBox_63 : decode cX10_readBox 63 = .ok (.imul, 1) := by decide +kernel
theorem dX10_readBox_64 : decode cX10_readBox 64 = .ok (.iaload, 1) := by decide +kernel
theorem dX10_readBox_65 : decode cX10_readBox 65 = .ok (.invokestatic 124, 3) := by decide +kernel
theorem dX10_readBox_68 : decode cX10_readBox 68 = .ok (.if_icmp .lt 7, 3) := by decide +kernel
theorem dX10_readBox_71 : decode cX10_readBox 71 = .ok (.iconst 1, 1) := by decide +kernel
theorem dX10_readBox_72 : decode cX10_readBox 72 = .ok (.goto 4, 3) := by decide +kernel
theorem dX10_readBox_75 : decode cX10_readBox 75 = .ok (.iconst 0, 1) := by decide +kernel
theorem dX10_readBox_76 : decode cX10_readBox 76 = .ok (.putfield 359, 3) := by decide +kernel
theorem dX10_readBox_79 : decode cX10_readBox 79 = .ok (.aload_n 0, 1) := by decide +kernel
theorem dX10_readBox_80 : decode cX10_readBox 80 = .ok (.getfield 359, 3) := by decide +kernel
theorem dX10_readBox_83 : decode cX10_readBox 83 = .ok (.ifCond .eq 4, 3) := by decide +kernel
theorem dX10_readBox_86 : decode cX10_readBox 86 = .ok (.return_, 1) := by decide +kernel
theorem dX10_readBox_87 : decode cX10_readBox 87 = .ok (.bipush 8, 2) := by decide +kernel
theorem dX10_readBox_89 : decode cX10_readBox 89 = .ok (.aload_n 0, 1) := by decide +kernel
theorem dX10_readBox_90 : decode cX10_readBox 90 = .ok (.getfield 370, 3) := by decide +kernel
theorem dX10_readBox_93 : decode cX10_readBox 93 = .ok (.imul, 1) := by decide +kernel
theorem dX10_readBox_94 : decode cX10_readBox 94 = .ok (.istore_n 2, 1) := by decide +kernel
theorem dX10_readBox_95 : decode cX10_readBox 95 = .ok (.aload_n 0, 1) := by decide +kernel
theorem dX10_readBox_96 : decode cX10_readBox 96 = .ok (.invokevirtual 373, 3) := by decide +kernel
theorem dX10_readBox_99 : decode cX10_readBox 99 = .ok (.istore_n 3, 1) := by decide +kernel
theorem dX10_readBox_100 : decode cX10_readBox 100 = .ok (.iconst 1, 1) := by decide +kernel
theorem dX10_readBox_101 : decode cX10_readBox 101 = .ok (.istore 4, 2) := by decide +kernel
theorem dX10_readBox_103 : decode cX10_readBox 103 = .ok (.iload 4, 2) := by decide +kernel
theorem dX10_readBox_105 : decode cX10_readBox 105 = .ok (.bipush 8, 2) := by decide +kernel
theorem dX10_readBox_107 : decode cX10_readBox 107 = .ok (.if_icmp .ge 19, 3) := by decide +kernel
theorem dX10_readBox_110 : decode cX10_readBox 110 = .ok (.aload_n 0, 1) := by decide +kernel
theorem dX10_readBox_111 : decode cX10_readBox 111 = .ok (.getfield 60, 3) := by decide +kernel
theorem dX10_readBox_114 : decode cX10_readBox 114 = .ok (.iload_n 2, 1) := by decide +kernel
theorem dX10_readBox_115 : decode cX10_readBox 115 = .ok (.iload 4, 2) := by decide +kernel
theorem dX10_readBox_117 : decode cX10_readBox 117 = .ok (.iadd, 1) := by decide +kernel
theorem dX10_readBox_118 : decode cX10_readBox 118 = .ok (.iconst 0, 1) := by decide +kernel
theorem dX10_readBox_119 : decode cX10_readBox 119 = .ok (.iastore, 1) := by decide +kernel
theorem dX10_readBox_120 : decode cX10_readBox 120 = .ok (.iinc 4 1, 3) := by decide +kernel
theorem dX10_readBox_123 : decode cX10_readBox 123 = .ok (.goto (-20), 3) := by decide +kernel
theorem dX10_readBox_126 : decode cX10_readBox 126 = .ok (.aload_n 0, 1) := by decide +kernel
theorem dX10_readBox_127 : decode cX10_readBox 127 = .ok (.getfield 60, 3) := by decide +kernel
theorem dX10_readBox_130 : decode cX10_readBox 130 = .ok (.iload_n 2, 1) := by decide +kernel
theorem dX10_readBox_131 : decode cX10_readBox 131 = .ok (.iload_n 3, 1) := by decide +kernel
theorem dX10_readBox_132 : decode cX10_readBox 132 = .ok (.iastore, 1) := by decide +kernel
theorem dX10_readBox_133 : decode cX10_readBox 133 = .ok (.iconst 0, 1) := by decide +kernel
theorem dX10_readBox_134 : decode cX10_readBox 134 = .ok (.istore 4, 2) := by decide +kernel
theorem dX10_readBox_136 : decode cX10_readBox 136 = .ok (.iload 4, 2) := by decide +kernel
theorem dX10_readBox_138 : decode cX10_readBox 138 = .ok (.iload_n 3, 1) := by decide +kernel
theorem dX10_readBox_139 : decode cX10_readBox 139 = .ok (.invokestatic 110, 3) := by decide +kernel
theorem dX10_readBox_142 : decode cX10_readBox 142 = .ok (.if_icmp .ge 52, 3) := by decide +kernel
theorem dX10_readBox_145 : decode cX10_readBox 145 = .ok (.aload_n 0, 1) := by decide +kernel
theorem dX10_readBox_146 : decode cX10_readBox 146 = .ok (.getfield 359, 3) := by decide +kernel
theorem dX10_readBox_149 : decode cX10_readBox 149 = .ok (.ifCond .ne 45, 3) := by decide +kernel
theorem dX10_readBox_152 : decode cX10_readBox 152 = .ok (.aload_n 0, 1) := by decide +kernel
theorem dX10_readBox_153 : decode cX10_readBox 153 = .ok (.getfield 60, 3) := by decide +kernel
theorem dX10_readBox_156 : decode cX10_readBox 156 = .ok (.iload_n 2, 1) := by decide +kernel
theorem dX10_readBox_157 : decode cX10_readBox 157 = .ok (.iconst 1, 1) := by decide +kernel
theorem dX10_readBox_158 : decode cX10_readBox 158 = .ok (.iadd, 1) := by decide +kernel
theorem dX10_readBox_159 : decode cX10_readBox 159 = .ok (.iload 4, 2) := by decide +kernel
theorem dX10_readBox_161 : decode cX10_readBox 161 = .ok (.iadd, 1) := by decide +kernel
theorem dX10_readBox_162 : decode cX10_readBox 162 = .ok (.aload_n 0, 1) := by decide +kernel
theorem dX10_readBox_163 : decode cX10_readBox 163 = .ok (.iload_n 3, 1) := by decide +kernel
theorem dX10_readBox_164 : decode cX10_readBox 164 = .ok (.iload 4, 2) := by decide +kernel
theorem dX10_readBox_166 : decode cX10_readBox 166 = .ok (.iload 4, 2) := by decide +kernel
theorem dX10_readBox_168 : decode cX10_readBox 168 = .ok (.ifCond .le 15, 3) := by decide +kernel
theorem dX10_readBox_171 : decode cX10_readBox 171 = .ok (.aload_n 0, 1) := by decide +kernel
theorem dX10_readBox_172 : decode cX10_readBox 172 = .ok (.getfield 60, 3) := by decide +kernel
theorem dX10_readBox_175 : decode cX10_readBox 175 = .ok (.iload_n 2, 1) := by decide +kernel
theorem dX10_readBox_176 : decode cX10_readBox 176 = .ok (.iload 4, 2) := by decide +kernel
theorem dX10_readBox_178 : decode cX10_readBox 178 = .ok (.iadd, 1) := by decide +kernel
theorem dX10_readBox_179 : decode cX10_readBox 179 = .ok (.iaload, 1) := by decide +kernel
theorem dX10_readBox_180 : decode cX10_readBox 180 = .ok (.goto 4, 3) := by decide +kernel
theorem dX10_readBox_183 : decode cX10_readBox 183 = .ok (.iconst 0, 1) := by decide +kernel
theorem dX10_readBox_184 : decode cX10_readBox 184 = .ok (.invokevirtual 376, 3) := by decide +kernel
theorem dX10_readBox_187 : decode cX10_readBox 187 = .ok (.iastore, 1) := by decide +kernel
theorem dX10_readBox_188 : decode cX10_readBox 188 = .ok (.iinc 4 1, 3) := by decide +kernel
theorem dX10_readBox_191 : decode cX10_readBox 191 = .ok (.goto (-55), 3) := by decide +kernel
theorem dX10_readBox_194 : decode cX10_readBox 194 = .ok (.aload_n 0, 1) := by decide +kernel
theorem dX10_readBox_195 : decode cX10_readBox 195 = .ok (.getfield 359, 3) := by decide +kernel
theorem dX10_readBox_198 : decode cX10_readBox 198 = .ok (.ifCond .ne 8, 3) := by decide +kernel
theorem dX10_readBox_201 : decode cX10_readBox 201 = .ok (.aload_n 0, 1) := by decide +kernel
theorem dX10_readBox_202 : decode cX10_readBox 202 = .ok (.iload_n 2, 1) := by decide +kernel
theorem dX10_readBox_203 : decode cX10_readBox 203 = .ok (.invokevirtual 379, 3) := by decide +kernel
theorem dX10_readBox_206 : decode cX10_readBox 206 = .ok (.iload_n 1, 1) := by decide +kernel
theorem dX10_readBox_207 : decode cX10_readBox 207 = .ok (.ifCond .lt 19, 3) := by decide +kernel
theorem dX10_readBox_210 : decode cX10_readBox 210 = .ok (.aload_n 0, 1) := by decide +kernel
theorem dX10_readBox_211 : decode cX10_readBox 211 = .ok (.getfield 60, 3) := by decide +kernel
theorem dX10_readBox_214 : decode cX10_readBox 214 = .ok (.bipush 8, 2) := by decide +kernel
theorem dX10_readBox_216 : decode cX10_readBox 216 = .ok (.iload_n 1, 1) := by decide +kernel
theorem dX10_readBox_217 : decode cX10_readBox 217 = .ok (.imul, 1) := by decide +kernel
theorem dX10_readBox_218 : decode cX10_readBox 218 = .ok (.bipush 7, 2) := by decide +kernel
theorem dX10_readBox_220 : decode cX10_readBox 220 = .ok (.iadd, 1) := by decide +kernel
theorem dX10_readBox_221 : decode cX10_readBox 221 = .ok (.dup2, 1) := by decide +kernel
theorem dX10_readBox_222 : decode cX10_readBox 222 = .ok (.iaload, 1) := by decide +kernel
theorem dX10_readBox_223 : decode cX10_readBox 223 = .ok (.iconst 1, 1) := by decide +kernel
theorem dX10_readBox_224 : decode cX10_readBox 224 = .ok (.iadd, 1) := by decide +kernel
theorem dX10_readBox_225 : decode cX10_readBox 225 = .ok (.iastore, 1) := by decide +kernel
theorem dX10_readBox_226 : decode cX10_readBox 226 = .ok (.aload_n 0, 1) := by decide +kernel
theorem dX10_readBox_227 : decode cX10_readBox 227 = .ok (.getfield 60, 3) := by decide +kernel
theorem dX10_readBox_230 : decode cX10_readBox 230 = .ok (.iload_n 2, 1) := by decide +kernel
theorem dX10_readBox_231 : decode cX10_readBox 231 = .ok (.bipush 6, 2) := by decide +kernel
theorem dX10_readBox_233 : decode cX10_readBox 233 = .ok (.iadd, 1) := by decide +kernel
theorem dX10_readBox_234 : decode cX10_readBox 234 = .ok (.iload_n 1, 1) := by decide +kernel
theorem dX10_readBox_235 : decode cX10_readBox 235 = .ok (.iastore, 1) := by decide +kernel
theorem dX10_readBox_236 : decode cX10_readBox 236 = .ok (.aload_n 0, 1) := by decide +kernel
theorem dX10_readBox_237 : decode cX10_readBox 237 = .ok (.dup, 1) := by decide +kernel
theorem dX10_readBox_238 : decode cX10_readBox 238 = .ok (.getfield 370, 3) := by decide +kernel
theorem dX10_readBox_241 : decode cX10_readBox 241 = .ok (.iconst 1, 1) := by decide +kernel
theorem dX10_readBox_242 : decode cX10_readBox 242 = .ok (.iadd, 1) := by decide +kernel
theorem dX10_readBox_243 : decode cX10_readBox 243 = .ok (.putfield 370, 3) := by decide +kernel
theorem dX10_readBox_246 : decode cX10_readBox 246 = .ok (.return_, 1) := by decide +kernel
theorem dX10_goesOn_0 : decode cX10_goesOn 0 = .ok (.aload_n 0, 1) := by decide +kernel
theorem dX10_goesOn_1 : decode cX10_goesOn 1 = .ok (.invokevirtual 356, 3) := by decide +kernel
theorem dX10_goesOn_4 : decode cX10_goesOn 4 = .ok (.bipush 40, 2) := by decide +kernel
theorem dX10_goesOn_6 : decode cX10_goesOn 6 = .ok (.if_icmp .ne 40, 3) := by decide +kernel
theorem dX10_goesOn_9 : decode cX10_goesOn 9 = .ok (.aload_n 0, 1) := by decide +kernel
theorem dX10_goesOn_10 : decode cX10_goesOn 10 = .ok (.dup, 1) := by decide +kernel
theorem dX10_goesOn_11 : decode cX10_goesOn 11 = .ok (.getfield 350, 3) := by decide +kernel
theorem dX10_goesOn_14 : decode cX10_goesOn 14 = .ok (.iconst 1, 1) := by decide +kernel
theorem dX10_goesOn_15 : decode cX10_goesOn 15 = .ok (.iadd, 1) := by decide +kernel
theorem dX10_goesOn_16 : decode cX10_goesOn 16 = .ok (.putfield 350, 3) := by decide +kernel
theorem dX10_goesOn_19 : decode cX10_goesOn 19 = .ok (.aload_n 0, 1) := by decide +kernel
theorem dX10_goesOn_20 : decode cX10_goesOn 20 = .ok (.getfield 63, 3) := by decide +kernel
theorem dX10_goesOn_23 : decode cX10_goesOn 23 = .ok (.aload_n 0, 1) := by decide +kernel
theorem dX10_goesOn_24 : decode cX10_goesOn 24 = .ok (.getfield 367, 3) := by decide +kernel
theorem dX10_goesOn_27 : decode cX10_goesOn 27 = .ok (.aload_n 0, 1) := by decide +kernel
theorem dX10_goesOn_28 : decode cX10_goesOn 28 = .ok (.getfield 370, 3) := by decide +kernel
theorem dX10_goesOn_31 : decode cX10_goesOn 31 = .ok (.iconst 1, 1) := by decide +kernel
theorem dX10_goesOn_32 : decode cX10_goesOn 32 = .ok (.isub, 1) := by decide +kernel
theorem dX10_goesOn_33 : decode cX10_goesOn 33 = .ok (.iastore, 1) := by decide +kernel
theorem dX10_goesOn_34 : decode cX10_goesOn 34 = .ok (.aload_n 0, 1) := by decide +kernel
theorem dX10_goesOn_35 : decode cX10_goesOn 35 = .ok (.dup, 1) := by decide +kernel
theorem dX10_goesOn_36 : decode cX10_goesOn 36 = .ok (.getfield 367, 3) := by decide +kernel
theorem dX10_goesOn_39 : decode cX10_goesOn 39 = .ok (.iconst 1, 1) := by decide +kernel
theorem dX10_goesOn_40 : decode cX10_goesOn 40 = .ok (.iadd, 1) := by decide +kernel
theorem dX10_goesOn_41 : decode cX10_goesOn 41 = .ok (.putfield 367, 3) := by decide +kernel
theorem dX10_goesOn_44 : decode cX10_goesOn 44 = .ok (.iconst 1, 1) := by decide +kernel
theorem dX10_goesOn_45 : decode cX10_goesOn 45 = .ok (.ireturn, 1) := by decide +kernel
theorem dX10_goesOn_46 : decode cX10_goesOn 46 = .ok (.aload_n 0, 1) := by decide +kernel
theorem dX10_goesOn_47 : decode cX10_goesOn 47 = .ok (.getfield 367, 3) := by decide +kernel
theorem dX10_goesOn_50 : decode cX10_goesOn 50 = .ok (.ifCond .le 35, 3) := by decide +kernel
theorem dX10_goesOn_53 : decode cX10_goesOn 53 = .ok (.aload_n 0, 1) := by decide +kernel
theorem dX10_goesOn_54 : decode cX10_goesOn 54 = .ok (.invokevirtual 356, 3) := by decide +kernel
theorem dX10_goesOn_57 : decode cX10_goesOn 57 = .ok (.bipush 41, 2) := by decide +kernel
theorem dX10_goesOn_59 : decode cX10_goesOn 59 = .ok (.if_icmp .ne 26, 3) := by decide +kernel
theorem dX10_goesOn_62 : decode cX10_goesOn 62 = .ok (.aload_n 0, 1) := by decide +kernel
theorem dX10_goesOn_63 : decode cX10_goesOn 63 = .ok (.dup, 1) := by decide +kernel
theorem dX10_goesOn_64 : decode cX10_goesOn 64 = .ok (.getfield 350, 3) := by decide +kernel
theorem dX10_goesOn_67 : decode cX10_goesOn 67 = .ok (.iconst 1, 1) := by decide +kernel
theorem dX10_goesOn_68 : decode cX10_goesOn 68 = .ok (.iadd, 1) := by decide +kernel
theorem dX10_goesOn_69 : decode cX10_goesOn 69 = .ok (.putfield 350, 3) := by decide +kernel
theorem dX10_goesOn_72 : decode cX10_goesOn 72 = .ok (.aload_n 0, 1) := by decide +kernel
theorem dX10_goesOn_73 : decode cX10_goesOn 73 = .ok (.dup, 1) := by decide +kernel
theorem dX10_goesOn_74 : decode cX10_goesOn 74 = .ok (.getfield 367, 3) := by decide +kernel
theorem dX10_goesOn_77 : decode cX10_goesOn 77 = .ok (.iconst 1, 1) := by decide +kernel
theorem dX10_goesOn_78 : decode cX10_goesOn 78 = .ok (.isub, 1) := by decide +kernel
theorem dX10_goesOn_79 : decode cX10_goesOn 79 = .ok (.putfield 367, 3) := by decide +kernel
theorem dX10_goesOn_82 : decode cX10_goesOn 82 = .ok (.goto (-36), 3) := by decide +kernel
theorem dX10_goesOn_85 : decode cX10_goesOn 85 = .ok (.aload_n 0, 1) := by decide +kernel
theorem dX10_goesOn_86 : decode cX10_goesOn 86 = .ok (.getfield 367, 3) := by decide +kernel
theorem dX10_goesOn_89 : decode cX10_goesOn 89 = .ok (.ifCond .le 24, 3) := by decide +kernel
theorem dX10_goesOn_92 : decode cX10_goesOn 92 = .ok (.aload_n 0, 1) := by decide +kernel
theorem dX10_goesOn_93 : decode cX10_goesOn 93 = .ok (.invokevirtual 356, 3) := by decide +kernel
theorem dX10_goesOn_96 : decode cX10_goesOn 96 = .ok (.bipush 44, 2) := by decide +kernel
theorem dX10_goesOn_98 : decode cX10_goesOn 98 = .ok (.if_icmp .ne 15, 3) := by decide +kernel
theorem dX10_goesOn_101 : decode cX10_goesOn 101 = .ok (.aload_n 0, 1) := by decide +kernel
theorem dX10_goesOn_102 : decode cX10_goesOn 102 = .ok (.dup, 1) := by decide +kernel
theorem dX10_goesOn_103 : decode cX10_goesOn 103 = .ok (.getfield 350, 3) := by decide +kernel
theorem dX10_goesOn_106 : decode cX10_goesOn 106 = .ok (.iconst 1, 1) := by decide +kernel
theorem dX10_goesOn_107 : decode cX10_goesOn 107 = .ok (.iadd, 1) := by decide +kernel
theorem dX10_goesOn_108 : decode cX10_goesOn 108 = .ok (.putfield 350, 3) := by decide +kernel
theorem dX10_goesOn_111 : decode cX10_goesOn 111 = .ok (.iconst 1, 1) := by decide +kernel
theorem dX10_goesOn_112 : decode cX10_goesOn 112 = .ok (.ireturn, 1) := by decide +kernel
theorem dX10_goesOn_113 : decode cX10_goesOn 113 = .ok (.aload_n 0, 1) := by decide +kernel
theorem dX10_goesOn_114 : decode cX10_goesOn 114 = .ok (.aload_n 0, 1) := by decide +kernel
theorem dX10_goesOn_115 : decode cX10_goesOn 115 = .ok (.getfield 367, 3) := by decide +kernel
theorem dX10_goesOn_118 : decode cX10_goesOn 118 = .ok (.ifCond .gt 14, 3) := by decide +kernel
theorem dX10_goesOn_121 : decode cX10_goesOn 121 = .ok (.aload_n 0, 1) := by decide +kernel
theorem dX10_goesOn_122 : decode cX10_goesOn 122 = .ok (.getfield 350, 3) := by decide +kernel
theorem dX10_goesOn_125 : decode cX10_goesOn 125 = .ok (.aload_n 0, 1) := by decide +kernel
theorem dX10_goesOn_126 : decode cX10_goesOn 126 = .ok (.getfield 340, 3) := by decide +kernel
theorem dX10_goesOn_129 : decode cX10_goesOn 129 = .ok (.if_icmp .ge 7, 3) := by decide +kernel
theorem dX10_goesOn_132 : decode cX10_goesOn 132 = .ok (.iconst 1, 1) := by decide +kernel
theorem dX10_goesOn_133 : decode cX10_goesOn 133 = .ok (.goto 4, 3) := by decide +kernel
theorem dX10_goesOn_136 : decode cX10_goesOn 136 = .ok (.iconst 0, 1) := by decide +kernel
theorem dX10_goesOn_137 : decode cX10_goesOn 137 = .ok (.putfield 359, 3) := by decide +kernel
theorem dX10_goesOn_140 : decode cX10_goesOn 140 = .ok (.iconst 0, 1) := by decide +kernel
theorem dX10_goesOn_141 : decode cX10_goesOn 141 = .ok (.ireturn, 1) := by decide +kernel
theorem dX10_reads_0 : decode cX10_reads 0 = .ok (.iload_n 1, 1) := by decide +kernel
theorem dX10_reads_1 : decode cX10_reads 1 = .ok (.iconst (-1), 1) := by decide +kernel
theorem dX10_reads_2 : decode cX10_reads 2 = .ok (.if_icmp .eq 13, 3) := by decide +kernel
theorem dX10_reads_5 : decode cX10_reads 5 = .ok (.aload_n 0, 1) := by decide +kernel
theorem dX10_reads_6 : decode cX10_reads 6 = .ok (.iload_n 1, 1) := by decide +kernel
theorem dX10_reads_7 : decode cX10_reads 7 = .ok (.invokevirtual 127, 3) := by decide +kernel
theorem dX10_reads_10 : decode cX10_reads 10 = .ok (.ifCond .ne 5, 3) := by decide +kernel
theorem dX10_reads_13 : decode cX10_reads 13 = .ok (.iconst (-1), 1) := by decide +kernel
theorem dX10_reads_14 : decode cX10_reads 14 = .ok (.ireturn, 1) := by decide +kernel
theorem dX10_reads_15 : decode cX10_reads 15 = .ok (.aload_n 0, 1) := by decide +kernel
theorem dX10_reads_16 : decode cX10_reads 16 = .ok (.iload_n 1, 1) := by decide +kernel
theorem dX10_reads_17 : decode cX10_reads 17 = .ok (.invokevirtual 136, 3) := by decide +kernel
theorem dX10_reads_20 : decode cX10_reads 20 = .ok (.ifCond .ne 6, 3) := by decide +kernel
theorem dX10_reads_23 : decode cX10_reads 23 = .ok (.bipush (-3), 2) := by decide +kernel
theorem dX10_reads_25 : decode cX10_reads 25 = .ok (.ireturn, 1) := by decide +kernel
theorem dX10_reads_26 : decode cX10_reads 26 = .ok (.aload_n 0, 1) := by decide +kernel
theorem dX10_reads_27 : decode cX10_reads 27 = .ok (.iconst 0, 1) := by decide +kernel
theorem dX10_reads_28 : decode cX10_reads 28 = .ok (.putfield 350, 3) := by decide +kernel
theorem dX10_reads_31 : decode cX10_reads 31 = .ok (.aload_n 0, 1) := by decide +kernel
theorem dX10_reads_32 : decode cX10_reads 32 = .ok (.iconst 0, 1) := by decide +kernel
theorem dX10_reads_33 : decode cX10_reads 33 = .ok (.putfield 370, 3) := by decide +kernel
theorem dX10_reads_36 : decode cX10_reads 36 = .ok (.aload_n 0, 1) := by decide +kernel
theorem dX10_reads_37 : decode cX10_reads 37 = .ok (.iconst 0, 1) := by decide +kernel
theorem dX10_reads_38 : decode cX10_reads 38 = .ok (.putfield 367, 3) := by decide +kernel
theorem dX10_reads_41 : decode cX10_reads 41 = .ok (.aload_n 0, 1) := by decide +kernel
theorem dX10_reads_42 : decode cX10_reads 42 = .ok (.iconst 0, 1) := by decide +kernel
theorem dX10_reads_43 : decode cX10_reads 43 = .ok (.putfield 359, 3) := by decide +kernel
theorem dX10_reads_46 : decode cX10_reads 46 = .ok (.iconst 1, 1) := by decide +kernel
theorem dX10_reads_47 : decode cX10_reads 47 = .ok (.istore_n 2, 1) := by decide +kernel
theorem dX10_reads_48 : decode cX10_reads 48 = .ok (.iload_n 2, 1) := by decide +kernel
theorem dX10_reads_49 : decode cX10_reads 49 = .ok (.ifCond .eq 30, 3) := by decide +kernel
theorem dX10_reads_52 : decode cX10_reads 52 = .ok (.aload_n 0, 1) := by decide +kernel
theorem dX10_reads_53 : decode cX10_reads 53 = .ok (.invokevirtual 382, 3) := by decide +kernel
theorem dX10_reads_56 : decode cX10_reads 56 = .ok (.aload_n 0, 1) := by decide +kernel
theorem dX10_reads_57 : decode cX10_reads 57 = .ok (.getfield 359, 3) := by decide +kernel
theorem dX10_reads_60 : decode cX10_reads 60 = .ok (.ifCond .ne 14, 3) := by decide +kernel
theorem dX10_reads_63 : decode cX10_reads 63 = .ok (.aload_n 0, 1) := by decide +kernel
theorem dX10_reads_64 : decode cX10_reads 64 = .ok (.invokevirtual 385, 3) := by decide +kernel
theorem dX10_reads_67 : decode cX10_reads 67 = .ok (.ifCond .eq 7, 3) := by decide +kernel
theorem dX10_reads_70 : decode cX10_reads 70 = .ok (.iconst 1, 1) := by decide +kernel
theorem dX10_reads_71 : decode cX10_reads 71 = .ok (.goto 4, 3) := by decide +kernel
theorem dX10_reads_74 : decode cX10_reads 74 = .ok (.iconst 0, 1) := by decide +kernel
theorem dX10_reads_75 : decode cX10_reads 75 = .ok (.istore_n 2, 1) := by decide +kernel
theorem dX10_reads_76 : decode cX10_reads 76 = .ok (.goto (-28), 3) := by decide +kernel
theorem dX10_reads_79 : decode cX10_reads 79 = .ok (.aload_n 0, 1) := by decide +kernel
theorem dX10_reads_80 : decode cX10_reads 80 = .ok (.iconst 0, 1) := by decide +kernel
theorem dX10_reads_81 : decode cX10_reads 81 = .ok (.putfield 340, 3) := by decide +kernel
theorem dX10_reads_84 : decode cX10_reads 84 = .ok (.aload_n 0, 1) := by decide +kernel
theorem dX10_reads_85 : decode cX10_reads 85 = .ok (.getfield 359, 3) := by decide +kernel
theorem dX10_reads_88 : decode cX10_reads 88 = .ok (.ifCond .eq 11, 3) := by decide +kernel
theorem dX10_reads_91 : decode cX10_reads 91 = .ok (.bipush (-100), 2) := by decide +kernel
theorem dX10_reads_93 : decode cX10_reads 93 = .ok (.aload_n 0, 1) := by decide +kernel
theorem dX10_reads_94 : decode cX10_reads 94 = .ok (.getfield 350, 3) := by decide +kernel
theorem dX10_reads_97 : decode cX10_reads 97 = .ok (.isub, 1) := by decide +kernel
theorem dX10_reads_98 : decode cX10_reads 98 = .ok (.ireturn, 1) := by decide +kernel
theorem dX10_reads_99 : decode cX10_reads 99 = .ok (.aload_n 0, 1) := by decide +kernel
theorem dX10_reads_100 : decode cX10_reads 100 = .ok (.getfield 9, 3) := by decide +kernel
theorem dX10_reads_103 : decode cX10_reads 103 = .ok (.iconst 3, 1) := by decide +kernel
theorem dX10_reads_104 : decode cX10_reads 104 = .ok (.iaload, 1) := by decide +kernel
theorem dX10_reads_105 : decode cX10_reads 105 = .ok (.istore_n 3, 1) := by decide +kernel
theorem dX10_reads_106 : decode cX10_reads 106 = .ok (.iconst 0, 1) := by decide +kernel
theorem dX10_reads_107 : decode cX10_reads 107 = .ok (.istore 4, 2) := by decide +kernel
theorem dX10_reads_109 : decode cX10_reads 109 = .ok (.iload 4, 2) := by decide +kernel
theorem dX10_reads_111 : decode cX10_reads 111 = .ok (.aload_n 0, 1) := by decide +kernel
theorem dX10_reads_112 : decode cX10_reads 112 = .ok (.getfield 370, 3) := by decide +kernel
theorem dX10_reads_115 : decode cX10_reads 115 = .ok (.if_icmp .ge 106, 3) := by decide +kernel
theorem dX10_reads_118 : decode cX10_reads 118 = .ok (.bipush 8, 2) := by decide +kernel
theorem dX10_reads_120 : decode cX10_reads 120 = .ok (.iload 4, 2) := by decide +kernel
theorem dX10_reads_122 : decode cX10_reads 122 = .ok (.imul, 1) := by decide +kernel
theorem dX10_reads_123 : decode cX10_reads 123 = .ok (.istore 5, 2) := by decide +kernel
theorem dX10_reads_125 : decode cX10_reads 125 = .ok (.aload_n 0, 1) := by decide +kernel
theorem dX10_reads_126 : decode cX10_reads 126 = .ok (.getfield 60, 3) := by decide +kernel
theorem dX10_reads_129 : decode cX10_reads 129 = .ok (.iload 5, 2) := by decide +kernel
theorem dX10_reads_131 : decode cX10_reads 131 = .ok (.bipush 6, 2) := by decide +kernel
theorem dX10_reads_133 : decode cX10_reads 133 = .ok (.iadd, 1) := by decide +kernel
theorem dX10_reads_134 : decode cX10_reads 134 = .ok (.iaload, 1) := by decide +kernel
theorem dX10_reads_135 : decode cX10_reads 135 = .ok (.ifCond .ge 7, 3) := by decide +kernel
theorem dX10_reads_138 : decode cX10_reads 138 = .ok (.iload_n 1, 1) := by decide +kernel
theorem dX10_reads_139 : decode cX10_reads 139 = .ok (.goto 15, 3) := by decide +kernel
theorem dX10_reads_142 : decode cX10_reads 142 = .ok (.iload_n 3, 1) := by decide +kernel
theorem dX10_reads_143 : decode cX10_reads 143 = .ok (.aload_n 0, 1) := by decide +kernel
theorem dX10_reads_144 : decode cX10_reads 144 = .ok (.getfield 60, 3) := by decide +kernel
theorem dX10_reads_147 : decode cX10_reads 147 = .ok (.iload 5, 2) := by decide +kernel
theorem dX10_reads_149 : decode cX10_reads 149 = .ok (.bipush 6, 2) := by decide +kernel
theorem dX10_reads_151 : decode cX10_reads 151 = .ok (.iadd, 1) := by decide +kernel
theorem dX10_reads_152 : decode cX10_reads 152 = .ok (.iaload, 1) := by decide +kernel
theorem dX10_reads_153 : decode cX10_reads 153 = .ok (.iadd, 1) := by decide +kernel
theorem dX10_reads_154 : decode cX10_reads 154 = .ok (.istore 6, 2) := by decide +kernel
theorem dX10_reads_156 : decode cX10_reads 156 = .ok (.aload_n 0, 1) := by decide +kernel
theorem dX10_reads_157 : decode cX10_reads 157 = .ok (.aload_n 0, 1) := by decide +kernel
theorem dX10_reads_158 : decode cX10_reads 158 = .ok (.getfield 60, 3) := by decide +kernel
theorem dX10_reads_161 : decode cX10_reads 161 = .ok (.iload 5, 2) := by decide +kernel
theorem dX10_reads_163 : decode cX10_reads 163 = .ok (.iaload, 1) := by decide +kernel
theorem dX10_reads_164 : decode cX10_reads 164 = .ok (.iload 6, 2) := by decide +kernel
theorem dX10_reads_166 : decode cX10_reads 166 = .ok (.aload_n 0, 1) := by decide +kernel
theorem dX10_reads_167 : decode cX10_reads 167 = .ok (.getfield 60, 3) := by decide +kernel
theorem dX10_reads_170 : decode cX10_reads 170 = .ok (.iload 5, 2) := by decide +kernel
theorem dX10_reads_172 : decode cX10_reads 172 = .ok (.iconst 1, 1) := by decide +kernel
theorem dX10_reads_173 : decode cX10_reads 173 = .ok (.iadd, 1) := by decide +kernel
theorem dX10_reads_174 : decode cX10_reads 174 = .ok (.iaload, 1) := by decide +kernel
theorem dX10_reads_175 : decode cX10_reads 175 = .ok (.aload_n 0, 1) := by decide +kernel
theorem dX10_reads_176 : decode cX10_reads 176 = .ok (.getfield 60, 3) := by decide +kernel
theorem dX10_reads_179 : decode cX10_reads 179 = .ok (.iload 5, 2) := by decide +kernel
theorem dX10_reads_181 : decode cX10_reads 181 = .ok (.iconst 2, 1) := by decide +kernel
theorem dX10_reads_182 : decode cX10_reads 182 = .ok (.iadd, 1) := by decide +kernel
theorem dX10_reads_183 : decode cX10_reads 183 = .ok (.iaload, 1) := by decide +kernel
theorem dX10_reads_184 : decode cX10_reads 184 = .ok (.aload_n 0, 1) := by decide +kernel
theorem dX10_reads_185 : decode cX10_reads 185 = .ok (.getfield 60, 3) := by decide +kernel
theorem dX10_reads_188 : decode cX10_reads 188 = .ok (.iload 5, 2) := by decide +kernel
theorem dX10_reads_190 : decode cX10_reads 190 = .ok (.iconst 3, 1) := by decide +kernel
theorem dX10_reads_191 : decode cX10_reads 191 = .ok (.iadd, 1) := by decide +kernel
theorem dX10_reads_192 : decode cX10_reads 192 = .ok (.iaload, 1) := by decide +kernel
theorem dX10_reads_193 : decode cX10_reads 193 = .ok (.aload_n 0, 1) := by decide +kernel
theorem dX10_reads_194 : decode cX10_reads 194 = .ok (.getfield 60, 3) := by decide +kernel
theorem dX10_reads_197 : decode cX10_reads 197 = .ok (.iload 5, 2) := by decide +kernel
theorem dX10_reads_199 : decode cX10_reads 199 = .ok (.iconst 4, 1) := by decide +kernel
theorem dX10_reads_200 : decode cX10_reads 200 = .ok (.iadd, 1) := by decide +kernel
theorem dX10_reads_201 : decode cX10_reads 201 = .ok (.iaload, 1) := by decide +kernel
theorem dX10_reads_202 : decode cX10_reads 202 = .ok (.aload_n 0, 1) := by decide +kernel
theorem dX10_reads_203 : decode cX10_reads 203 = .ok (.getfield 60, 3) := by decide +kernel
theorem dX10_reads_206 : decode cX10_reads 206 = .ok (.iload 5, 2) := by decide +kernel
theorem dX10_reads_208 : decode cX10_reads 208 = .ok (.iconst 5, 1) := by decide +kernel
theorem dX10_reads_209 : decode cX10_reads 209 = .ok (.iadd, 1) := by decide +kernel
theorem dX10_reads_210 : decode cX10_reads 210 = .ok (.iaload, 1) := by decide +kernel
theorem dX10_reads_211 : decode cX10_reads 211 = .ok (.invokevirtual 139, 3) := by decide +kernel
theorem dX10_reads_214 : decode cX10_reads 214 = .ok (.pop, 1) := by decide +kernel
theorem dX10_reads_215 : decode cX10_reads 215 = .ok (.iinc 4 1, 3) := by decide +kernel
theorem dX10_reads_218 : decode cX10_reads 218 = .ok (.goto (-109), 3) := by decide +kernel
theorem dX10_reads_221 : decode cX10_reads 221 = .ok (.aload_n 0, 1) := by decide +kernel
theorem dX10_reads_222 : decode cX10_reads 222 = .ok (.getfield 370, 3) := by decide +kernel
theorem dX10_reads_225 : decode cX10_reads 225 = .ok (.ireturn, 1) := by decide +kernel
theorem dX10_prints_0 : decode cX10_prints 0 = .ok (.aload_n 0, 1) := by decide +kernel
theorem dX10_prints_1 : decode cX10_prints 1 = .ok (.getfield 66, 3) := by decide +kernel
theorem dX10_prints_4 : decode cX10_prints 4 = .ok (.aload_n 0, 1) := by decide +kernel
theorem dX10_prints_5 : decode cX10_prints 5 = .ok (.getfield 389, 3) := by decide +kernel
theorem dX10_prints_8 : decode cX10_prints 8 = .ok (.iload_n 1, 1) := by decide +kernel
theorem dX10_prints_9 : decode cX10_prints 9 = .ok (.iastore, 1) := by decide +kernel
theorem dX10_prints_10 : decode cX10_prints 10 = .ok (.aload_n 0, 1) := by decide +kernel
theorem dX10_prints_11 : decode cX10_prints 11 = .ok (.dup, 1) := by decide +kernel
theorem dX10_prints_12 : decode cX10_prints 12 = .ok (.getfield 389, 3) := by decide +kernel
theorem dX10_prints_15 : decode cX10_prints 15 = .ok (.iconst 1, 1) := by decide +kernel
theorem dX10_prints_16 : decode cX10_prints 16 = .ok (.iadd, 1) := by decide +kernel
theorem dX10_prints_17 : decode cX10_prints 17 = .ok (.putfield 389, 3) := by decide +kernel
theorem dX10_prints_20 : decode cX10_prints 20 = .ok (.return_, 1) := by decide +kernel
theorem dX10_printsBox_0 : decode cX10_printsBox 0 = .ok (.aload_n 0, 1) := by decide +kernel
theorem dX10_printsBox_1 : decode cX10_printsBox 1 = .ok (.iload_n 1, 1) := by decide +kernel
theorem dX10_printsBox_2 : decode cX10_printsBox 2 = .ok (.iconst 1, 1) := by decide +kernel
theorem dX10_printsBox_3 : decode cX10_printsBox 3 = .ok (.invokevirtual 91, 3) := by decide +kernel
theorem dX10_printsBox_6 : decode cX10_printsBox 6 = .ok (.istore_n 2, 1) := by decide +kernel
theorem dX10_printsBox_7 : decode cX10_printsBox 7 = .ok (.iconst 0, 1) := by decide +kernel
theorem dX10_printsBox_8 : decode cX10_printsBox 8 = .ok (.istore_n 3, 1) := by decide +kernel
theorem dX10_printsBox_9 : decode cX10_printsBox 9 = .ok (.iload_n 3, 1) := by decide +kernel
theorem dX10_printsBox_10 : decode cX10_printsBox 10 = .ok (.bipush 6, 2) := by decide +kernel
theorem dX10_printsBox_12 : decode cX10_printsBox 12 = .ok (.if_icmp .ge 28, 3) := by decide +kernel
theorem dX10_printsBox_15 : decode cX10_printsBox 15 = .ok (.aload_n 0, 1) := by decide +kernel
theorem dX10_printsBox_16 : decode cX10_printsBox 16 = .ok (.iload_n 2, 1) := by decide +kernel
theorem dX10_printsBox_17 : decode cX10_printsBox 17 = .ok (.iload_n 3, 1) := by decide +kernel
theorem dX10_printsBox_18 : decode cX10_printsBox 18 = .ok (.invokevirtual 353, 3) := by decide +kernel
theorem dX10_printsBox_21 : decode cX10_printsBox 21 = .ok (.ifCond .eq 19, 3) := by decide +kernel
theorem dX10_printsBox_24 : decode cX10_printsBox 24 = .ok (.aload_n 0, 1) := by decide +kernel
theorem dX10_printsBox_25 : decode cX10_printsBox 25 = .ok (.aload_n 0, 1) := by decide +kernel
theorem dX10_printsBox_26 : decode cX10_printsBox 26 = .ok (.iload_n 2, 1) := by decide +kernel
theorem dX10_printsBox_27 : decode cX10_printsBox 27 = .ok (.iload_n 3, 1) := by decide +kernel
theorem dX10_printsBox_28 : decode cX10_printsBox 28 = .ok (.invokevirtual 353, 3) := by decide +kernel
theorem dX10_printsBox_31 : decode cX10_printsBox 31 = .ok (.invokevirtual 392, 3) := by decide +kernel
theorem dX10_printsBox_34 : decode cX10_printsBox 34 = .ok (.iinc 3 1, 3) := by decide +kernel
theorem dX10_printsBox_37 : decode cX10_printsBox 37 = .ok (.goto (-28), 3) := by decide +kernel
theorem dX10_printsBox_40 : decode cX10_printsBox 40 = .ok (.iconst 0, 1) := by decide +kernel
theorem dX10_printsBox_41 : decode cX10_printsBox 41 = .ok (.istore_n 3, 1) := by decide +kernel
theorem dX10_printsBox_42 : decode cX10_printsBox 42 = .ok (.iload_n 3, 1) := by decide +kernel
theorem dX10_printsBox_43 : decode cX10_printsBox 43 = .ok (.iload_n 2, 1) := by decide +kernel
theorem dX10_printsBox_44 : decode cX10_printsBox 44 = .ok (.invokestatic 110, 3) := by decide +kernel
theorem dX10_printsBox_47 : decode cX10_printsBox 47 = .ok (.if_icmp .ge 56, 3) := by decide +kernel
theorem dX10_printsBox_50 : decode cX10_printsBox 50 = .ok (.aload_n 0, 1) := by decide +kernel
theorem dX10_printsBox_51 : decode cX10_printsBox 51 = .ok (.iload_n 1, 1) := by decide +kernel
theorem dX10_printsBox_52 : decode cX10_printsBox 52 = .ok (.iconst 2, 1) := by decide +kernel
theorem dX10_printsBox_53 : decode cX10_printsBox 53 = .ok (.iload_n 3, 1) := by decide +kernel
theorem dX10_printsBox_54 : decode cX10_printsBox 54 = .ok (.iadd, 1) := by decide +kernel
theorem dX10_printsBox_55 : decode cX10_printsBox 55 = .ok (.invokevirtual 91, 3) := by decide +kernel
theorem dX10_printsBox_58 : decode cX10_printsBox 58 = .ok (.istore 4, 2) := by decide +kernel
theorem dX10_printsBox_60 : decode cX10_printsBox 60 = .ok (.aload_n 0, 1) := by decide +kernel
theorem dX10_printsBox_61 : decode cX10_printsBox 61 = .ok (.bipush 32, 2) := by decide +kernel
theorem dX10_printsBox_63 : decode cX10_printsBox 63 = .ok (.invokevirtual 392, 3) := by decide +kernel
theorem dX10_printsBox_66 : decode cX10_printsBox 66 = .ok (.iload 4, 2) := by decide +kernel
theorem dX10_printsBox_68 : decode cX10_printsBox 68 = .ok (.bipush 9, 2) := by decide +kernel
theorem dX10_printsBox_70 : decode cX10_printsBox 70 = .ok (.if_icmp .le 15, 3) := by decide +kernel
theorem dX10_printsBox_73 : decode cX10_printsBox 73 = .ok (.aload_n 0, 1) := by decide +kernel
theorem dX10_printsBox_74 : decode cX10_printsBox 74 = .ok (.bipush 48, 2) := by decide +kernel
theorem dX10_printsBox_76 : decode cX10_printsBox 76 = .ok (.iload 4, 2) := by decide +kernel
theorem dX10_printsBox_78 : decode cX10_printsBox 78 = .ok (.bipush 10, 2) := by decide +kernel
theorem dX10_printsBox_80 : decode cX10_printsBox 80 = .ok (.idiv, 1) := by decide +kernel
theorem dX10_printsBox_81 : decode cX10_printsBox 81 = .ok (.iadd, 1) := by decide +kernel
theorem dX10_printsBox_82 : decode cX10_printsBox 82 = .ok (.invokevirtual 392, 3) := by decide +kernel
theorem dX10_printsBox_85 : decode cX10_printsBox 85 = .ok (.aload_n 0, 1) := by decide +kernel
theorem dX10_printsBox_86 : decode cX10_printsBox 86 = .ok (.bipush 48, 2) := by decide +kernel
theorem dX10_printsBox_88 : decode cX10_printsBox 88 = .ok (.iload 4, 2) := by decide +kernel
theorem dX10_printsBox_90 : decode cX10_printsBox 90 = .ok (.bipush 10, 2) := by decide +kernel
theorem dX10_printsBox_92 : decode cX10_printsBox 92 = .ok (.irem, 1) := by decide +kernel
theorem dX10_printsBox_93 : decode cX10_printsBox 93 = .ok (.iadd, 1) := by decide +kernel
theorem dX10_printsBox_94 : decode cX10_printsBox 94 = .ok (.invokevirtual 392, 3) := by decide +kernel
theorem dX10_printsBox_97 : decode cX10_printsBox 97 = .ok (.iinc 3 1, 3) := by decide +kernel
theorem dX10_printsBox_100 : decode cX10_printsBox 100 = .ok (.goto (-58), 3) := by decide +kernel
theorem dX10_printsBox_103 : decode cX10_printsBox 103 = .ok (.aload_n 0, 1) := by decide +kernel
theorem dX10_printsBox_104 : decode cX10_printsBox 104 = .ok (.iload_n 1, 1) := by decide +kernel
theorem dX10_printsBox_105 : decode cX10_printsBox 105 = .ok (.bipush 6, 2) := by decide +kernel
theorem dX10_printsBox_107 : decode cX10_printsBox 107 = .ok (.invokevirtual 91, 3) := by decide +kernel
theorem dX10_printsBox_110 : decode cX10_printsBox 110 = .ok (.ifCond .le 23, 3) := by decide +kernel
theorem dX10_printsBox_113 : decode cX10_printsBox 113 = .ok (.aload_n 0, 1) := by decide +kernel
theorem dX10_printsBox_114 : decode cX10_printsBox 114 = .ok (.bipush 42, 2) := by decide +kernel
theorem dX10_printsBox_116 : decode cX10_printsBox 116 = .ok (.invokevirtual 392, 3) := by decide +kernel
theorem dX10_printsBox_119 : decode cX10_printsBox 119 = .ok (.aload_n 0, 1) := by decide +kernel
theorem dX10_printsBox_120 : decode cX10_printsBox 120 = .ok (.bipush 48, 2) := by decide +kernel
theorem dX10_printsBox_122 : decode cX10_printsBox 122 = .ok (.aload_n 0, 1) := by decide +kernel
theorem dX10_printsBox_123 : decode cX10_printsBox 123 = .ok (.iload_n 1, 1) := by decide +kernel
theorem dX10_printsBox_124 : decode cX10_printsBox 124 = .ok (.bipush 6, 2) := by decide +kernel
theorem dX10_printsBox_126 : decode cX10_printsBox 126 = .ok (.invokevirtual 91, 3) := by decide +kernel
theorem dX10_printsBox_129 : decode cX10_printsBox 129 = .ok (.iadd, 1) := by decide +kernel
theorem dX10_printsBox_130 : decode cX10_printsBox 130 = .ok (.invokevirtual 392, 3) := by decide +kernel
theorem dX10_printsBox_133 : decode cX10_printsBox 133 = .ok (.return_, 1) := by decide +kernel
theorem dX10_printsAll_0 : decode cX10_printsAll 0 = .ok (.aload_n 0, 1) := by decide +kernel
theorem dX10_printsAll_1 : decode cX10_printsAll 1 = .ok (.iconst 0, 1) := by decide +kernel
theorem dX10_printsAll_2 : decode cX10_printsAll 2 = .ok (.putfield 389, 3) := by decide +kernel
theorem dX10_printsAll_5 : decode cX10_printsAll 5 = .ok (.aload_n 0, 1) := by decide +kernel
theorem dX10_printsAll_6 : decode cX10_printsAll 6 = .ok (.iconst 1, 1) := by decide +kernel
theorem dX10_printsAll_7 : decode cX10_printsAll 7 = .ok (.putfield 221, 3) := by decide +kernel
theorem dX10_printsAll_10 : decode cX10_printsAll 10 = .ok (.aload_n 0, 1) := by decide +kernel
theorem dX10_printsAll_11 : decode cX10_printsAll 11 = .ok (.getfield 39, 3) := by decide +kernel
theorem dX10_printsAll_14 : decode cX10_printsAll 14 = .ok (.iconst 0, 1) := by decide +kernel
theorem dX10_printsAll_15 : decode cX10_printsAll 15 = .ok (.iload_n 1, 1) := by decide +kernel
theorem dX10_printsAll_16 : decode cX10_printsAll 16 = .ok (.iastore, 1) := by decide +kernel
theorem dX10_printsAll_17 : decode cX10_printsAll 17 = .ok (.aload_n 0, 1) := by decide +kernel
theorem dX10_printsAll_18 : decode cX10_printsAll 18 = .ok (.getfield 42, 3) := by decide +kernel
theorem dX10_printsAll_21 : decode cX10_printsAll 21 = .ok (.iload_n 1, 1) := by decide +kernel
theorem dX10_printsAll_22 : decode cX10_printsAll 22 = .ok (.iconst 0, 1) := by decide +kernel
theorem dX10_printsAll_23 : decode cX10_printsAll 23 = .ok (.iastore, 1) := by decide +kernel
theorem dX10_printsAll_24 : decode cX10_printsAll 24 = .ok (.aload_n 0, 1) := by decide +kernel
theorem dX10_printsAll_25 : decode cX10_printsAll 25 = .ok (.getfield 221, 3) := by decide +kernel
theorem dX10_printsAll_28 : decode cX10_printsAll 28 = .ok (.ifCond .le 135, 3) := by decide +kernel
theorem dX10_printsAll_31 : decode cX10_printsAll 31 = .ok (.aload_n 0, 1) := by decide +kernel
theorem dX10_printsAll_32 : decode cX10_printsAll 32 = .ok (.getfield 39, 3) := by decide +kernel
theorem dX10_printsAll_35 : decode cX10_printsAll 35 = .ok (.aload_n 0, 1) := by decide +kernel
theorem dX10_printsAll_36 : decode cX10_printsAll 36 = .ok (.getfield 221, 3) := by decide +kernel
theorem dX10_printsAll_39 : decode cX10_printsAll 39 = .ok (.iconst 1, 1) := by decide +kernel
theorem dX10_printsAll_40 : decode cX10_printsAll 40 = .ok (.isub, 1) := by decide +kernel
theorem dX10_printsAll_41 : decode cX10_printsAll 41 = .ok (.iaload, 1) := by decide +kernel
theorem dX10_printsAll_42 : decode cX10_printsAll 42 = .ok (.istore_n 2, 1) := by decide +kernel
theorem dX10_printsAll_43 : decode cX10_printsAll 43 = .ok (.aload_n 0, 1) := by decide +kernel
theorem dX10_printsAll_44 : decode cX10_printsAll 44 = .ok (.getfield 42, 3) := by decide +kernel
theorem dX10_printsAll_47 : decode cX10_printsAll 47 = .ok (.iload_n 2, 1) := by decide +kernel
theorem dX10_printsAll_48 : decode cX10_printsAll 48 = .ok (.iaload, 1) := by decide +kernel
theorem dX10_printsAll_49 : decode cX10_printsAll 49 = .ok (.istore_n 3, 1) := by decide +kernel
theorem dX10_printsAll_50 : decode cX10_printsAll 50 = .ok (.iload_n 3, 1) := by decide +kernel
theorem dX10_printsAll_51 : decode cX10_printsAll 51 = .ok (.ifCond .ne 8, 3) := by decide +kernel
theorem dX10_printsAll_54 : decode cX10_printsAll 54 = .ok (.aload_n 0, 1) := by decide +kernel
theorem dX10_printsAll_55 : decode cX10_printsAll 55 = .ok (.iload_n 2, 1) := by decide +kernel
theorem dX10_printsAll_56 : decode cX10_printsAll 56 = .ok (.invokevirtual 395, 3) := by decide +kernel
theorem dX10_printsAll_59 : decode cX10_printsAll 59 = .ok (.iload_n 3, 1) := by decide +kernel
theorem dX10_printsAll_60 : decode cX10_printsAll 60 = .ok (.aload_n 0, 1) := by decide +kernel
theorem dX10_printsAll_61 : decode cX10_printsAll 61 = .ok (.iload_n 2, 1) := by decide +kernel
theorem dX10_printsAll_62 : decode cX10_printsAll 62 = .ok (.invokevirtual 117, 3) := by decide +kernel
theorem dX10_printsAll_65 : decode cX10_printsAll 65 = .ok (.if_icmp .ge 71, 3) := by decide +kernel
theorem dX10_printsAll_68 : decode cX10_printsAll 68 = .ok (.aload_n 0, 1) := by decide +kernel
theorem dX10_printsAll_69 : decode cX10_printsAll 69 = .ok (.iload_n 3, 1) := by decide +kernel
theorem dX10_printsAll_70 : decode cX10_printsAll 70 = .ok (.ifCond .ne 8, 3) := by decide +kernel
theorem dX10_printsAll_73 : decode cX10_printsAll 73 = .ok (.bipush 40, 2) := by decide +kernel
theorem dX10_printsAll_75 : decode cX10_printsAll 75 = .ok (.goto 5, 3) := by decide +kernel
theorem dX10_printsAll_78 : decode cX10_printsAll 78 = .ok (.bipush 44, 2) := by decide +kernel
theorem dX10_printsAll_80 : decode cX10_printsAll 80 = .ok (.invokevirtual 392, 3) := by decide +kernel
theorem dX10_printsAll_83 : decode cX10_printsAll 83 = .ok (.aload_n 0, 1) := by decide +kernel
theorem dX10_printsAll_84 : decode cX10_printsAll 84 = .ok (.getfield 42, 3) := by decide +kernel
theorem dX10_printsAll_87 : decode cX10_printsAll 87 = .ok (.iload_n 2, 1) := by decide +kernel
theorem dX10_printsAll_88 : decode cX10_printsAll 88 = .ok (.dup2, 1) := by decide +kernel
theorem dX10_printsAll_89 : decode cX10_printsAll 89 = .ok (.iaload, 1) := by decide +kernel
theorem dX10_printsAll_90 : decode cX10_printsAll 90 = .ok (.iconst 1, 1) := by decide +kernel
theorem dX10_printsAll_91 : decode cX10_printsAll 91 = .ok (.iadd, 1) := by decide +kernel
theorem dX10_printsAll_92 : decode cX10_printsAll 92 = .ok (.iastore, 1) := by decide +kernel
theorem dX10_printsAll_93 : decode cX10_printsAll 93 = .ok (.aload_n 0, 1) := by decide +kernel
theorem dX10_printsAll_94 : decode cX10_printsAll 94 = .ok (.getfield 39, 3) := by decide +kernel
theorem dX10_printsAll_97 : decode cX10_printsAll 97 = .ok (.aload_n 0, 1) := by decide +kernel
theorem dX10_printsAll_98 : decode cX10_printsAll 98 = .ok (.getfield 221, 3) := by decide +kernel
theorem dX10_printsAll_101 : decode cX10_printsAll 101 = .ok (.aload_n 0, 1) := by decide +kernel
theorem dX10_printsAll_102 : decode cX10_printsAll 102 = .ok (.iload_n 2, 1) := by decide +kernel
theorem dX10_printsAll_103 : decode cX10_printsAll 103 = .ok (.iload_n 3, 1) := by decide +kernel
theorem dX10_printsAll_104 : decode cX10_printsAll 104 = .ok (.invokevirtual 153, 3) := by decide +kernel
theorem dX10_printsAll_107 : decode cX10_printsAll 107 = .ok (.iastore, 1) := by decide +kernel
theorem dX10_printsAll_108 : decode cX10_printsAll 108 = .ok (.aload_n 0, 1) := by decide +kernel
theorem dX10_printsAll_109 : decode cX10_printsAll 109 = .ok (.getfield 42, 3) := by decide +kernel
theorem dX10_printsAll_112 : decode cX10_printsAll 112 = .ok (.aload_n 0, 1) := by decide +kernel
theorem dX10_printsAll_113 : decode cX10_printsAll 113 = .ok (.getfield 39, 3) := by decide +kernel
theorem dX10_printsAll_116 : decode cX10_printsAll 116 = .ok (.aload_n 0, 1) := by decide +kernel
theorem dX10_printsAll_117 : decode cX10_printsAll 117 = .ok (.getfield 221, 3) := by decide +kernel
theorem dX10_printsAll_120 : decode cX10_printsAll 120 = .ok (.iaload, 1) := by decide +kernel
theorem dX10_printsAll_121 : decode cX10_printsAll 121 = .ok (.iconst 0, 1) := by decide +kernel
theorem dX10_printsAll_122 : decode cX10_printsAll 122 = .ok (.iastore, 1) := by decide +kernel
theorem dX10_printsAll_123 : decode cX10_printsAll 123 = .ok (.aload_n 0, 1) := by decide +kernel
theorem dX10_printsAll_124 : decode cX10_printsAll 124 = .ok (.dup, 1) := by decide +kernel
theorem dX10_printsAll_125 : decode cX10_printsAll 125 = .ok (.getfield 221, 3) := by decide +kernel
theorem dX10_printsAll_128 : decode cX10_printsAll 128 = .ok (.iconst 1, 1) := by decide +kernel
theorem dX10_printsAll_129 : decode cX10_printsAll 129 = .ok (.iadd, 1) := by decide +kernel
theorem dX10_printsAll_130 : decode cX10_printsAll 130 = .ok (.putfield 221, 3) := by decide +kernel
theorem dX10_printsAll_133 : decode cX10_printsAll 133 = .ok (.goto 27, 3) := by decide +kernel
theorem dX10_printsAll_136 : decode cX10_printsAll 136 = .ok (.aload_n 0, 1) := by decide +kernel
theorem dX10_printsAll_137 : decode cX10_printsAll 137 = .ok (.iload_n 2, 1) := by decide +kernel
theorem dX10_printsAll_138 : decode cX10_printsAll 138 = .ok (.invokevirtual 117, 3) := by decide +kernel
theorem dX10_printsAll_141 : decode cX10_printsAll 141 = .ok (.ifCond .le 9, 3) := by decide +kernel
theorem dX10_printsAll_144 : decode cX10_printsAll 144 = .ok (.aload_n 0, 1) := by decide +kernel
theorem dX10_printsAll_145 : decode cX10_printsAll 145 = .ok (.bipush 41, 2) := by decide +kernel
theorem dX10_printsAll_147 : decode cX10_printsAll 147 = .ok (.invokevirtual 392, 3) := by decide +kernel
theorem dX10_printsAll_150 : decode cX10_printsAll 150 = .ok (.aload_n 0, 1) := by decide +kernel
theorem dX10_printsAll_151 : decode cX10_printsAll 151 = .ok (.dup, 1) := by decide +kernel
theorem dX10_printsAll_152 : decode cX10_printsAll 152 = .ok (.getfield 221, 3) := by decide +kernel
theorem dX10_printsAll_155 : decode cX10_printsAll 155 = .ok (.iconst 1, 1) := by decide +kernel
theorem dX10_printsAll_156 : decode cX10_printsAll 156 = .ok (.isub, 1) := by decide +kernel
theorem dX10_printsAll_157 : decode cX10_printsAll 157 = .ok (.putfield 221, 3) := by decide +kernel
theorem dX10_printsAll_160 : decode cX10_printsAll 160 = .ok (.goto (-136), 3) := by decide +kernel
theorem dX10_printsAll_163 : decode cX10_printsAll 163 = .ok (.return_, 1) := by decide +kernel
theorem dX10_printed_0 : decode cX10_printed 0 = .ok (.aload_n 0, 1) := by decide +kernel
theorem dX10_printed_1 : decode cX10_printed 1 = .ok (.iload_n 1, 1) := by decide +kernel
theorem dX10_printed_2 : decode cX10_printed 2 = .ok (.invokevirtual 127, 3) := by decide +kernel
theorem dX10_printed_5 : decode cX10_printed 5 = .ok (.ifCond .eq 8, 3) := by decide +kernel
theorem dX10_printed_8 : decode cX10_printed 8 = .ok (.iload_n 2, 1) := by decide +kernel
theorem dX10_printed_9 : decode cX10_printed 9 = .ok (.iconst (-1), 1) := by decide +kernel
theorem dX10_printed_10 : decode cX10_printed 10 = .ok (.if_icmp .ge 5, 3) := by decide +kernel
theorem dX10_printed_13 : decode cX10_printed 13 = .ok (.iconst (-1), 1) := by decide +kernel
theorem dX10_printed_14 : decode cX10_printed 14 = .ok (.ireturn, 1) := by decide +kernel
theorem dX10_printed_15 : decode cX10_printed 15 = .ok (.aload_n 0, 1) := by decide +kernel
theorem dX10_printed_16 : decode cX10_printed 16 = .ok (.iload_n 1, 1) := by decide +kernel
theorem dX10_printed_17 : decode cX10_printed 17 = .ok (.invokevirtual 398, 3) := by decide +kernel
theorem dX10_printed_20 : decode cX10_printed 20 = .ok (.iload_n 2, 1) := by decide +kernel
theorem dX10_printed_21 : decode cX10_printed 21 = .ok (.iconst (-1), 1) := by decide +kernel
theorem dX10_printed_22 : decode cX10_printed 22 = .ok (.if_icmp .ne 10, 3) := by decide +kernel
theorem dX10_printed_25 : decode cX10_printed 25 = .ok (.aload_n 0, 1) := by decide +kernel
theorem dX10_printed_26 : decode cX10_printed 26 = .ok (.getfield 389, 3) := by decide +kernel
theorem dX10_printed_29 : decode cX10_printed 29 = .ok (.goto 21, 3) := by decide +kernel
theorem dX10_printed_32 : decode cX10_printed 32 = .ok (.iload_n 2, 1) := by decide +kernel
theorem dX10_printed_33 : decode cX10_printed 33 = .ok (.aload_n 0, 1) := by decide +kernel
theorem dX10_printed_34 : decode cX10_printed 34 = .ok (.getfield 389, 3) := by decide +kernel
theorem dX10_printed_37 : decode cX10_printed 37 = .ok (.if_icmp .ge 12, 3) := by decide +kernel
theorem dX10_printed_40 : decode cX10_printed 40 = .ok (.aload_n 0, 1) := by decide +kernel
theorem dX10_printed_41 : decode cX10_printed 41 = .ok (.getfield 66, 3) := by decide +kernel
theorem dX10_printed_44 : decode cX10_printed 44 = .ok (.iload_n 2, 1) := by decide +kernel
theorem dX10_printed_45 : decode cX10_printed 45 = .ok (.iaload, 1) := by decide +kernel
theorem dX10_printed_46 : decode cX10_printed 46 = .ok (.goto 4, 3) := by decide +kernel
theorem dX10_printed_49 : decode cX10_printed 49 = .ok (.iconst (-1), 1) := by decide +kernel
theorem dX10_printed_50 : decode cX10_printed 50 = .ok (.ireturn, 1) := by decide +kernel
theorem dX10_thinks_0 : decode cX10_thinks 0 = .ok (.aload_n 0, 1) := by decide +kernel
theorem dX10_thinks_1 : decode cX10_thinks 1 = .ok (.aload_n 0, 1) := by decide +kernel
theorem dX10_thinks_2 : decode cX10_thinks 2 = .ok (.getfield 15, 3) := by decide +kernel
theorem dX10_thinks_5 : decode cX10_thinks 5 = .ok (.putfield 9, 3) := by decide +kernel
theorem dX10_thinks_8 : decode cX10_thinks 8 = .ok (.aload_n 0, 1) := by decide +kernel
theorem dX10_thinks_9 : decode cX10_thinks 9 = .ok (.getfield 15, 3) := by decide +kernel
theorem dX10_thinks_12 : decode cX10_thinks 12 = .ok (.aload_n 1, 1) := by decide +kernel
theorem dX10_thinks_13 : decode cX10_thinks 13 = .ok (.invokestatic 401, 3) := by decide +kernel
theorem dX10_thinks_16 : decode cX10_thinks 16 = .ok (.aload_n 0, 1) := by decide +kernel
theorem dX10_thinks_17 : decode cX10_thinks 17 = .ok (.aload_n 1, 1) := by decide +kernel
theorem dX10_thinks_18 : decode cX10_thinks 18 = .ok (.putfield 9, 3) := by decide +kernel
theorem dX10_thinks_21 : decode cX10_thinks 21 = .ok (.aload_n 0, 1) := by decide +kernel
theorem dX10_thinks_22 : decode cX10_thinks 22 = .ok (.dup, 1) := by decide +kernel
theorem dX10_thinks_23 : decode cX10_thinks 23 = .ok (.getfield 343, 3) := by decide +kernel
theorem dX10_thinks_26 : decode cX10_thinks 26 = .ok (.aload_n 0, 1) := by decide +kernel
theorem dX10_thinks_27 : decode cX10_thinks 27 = .ok (.invokevirtual 405, 3) := by decide +kernel
theorem dX10_thinks_30 : decode cX10_thinks 30 = .ok (.iadd, 1) := by decide +kernel
theorem dX10_thinks_31 : decode cX10_thinks 31 = .ok (.putfield 343, 3) := by decide +kernel
theorem dX10_thinks_34 : decode cX10_thinks 34 = .ok (.return_, 1) := by decide +kernel
theorem dX10_laysInThought_0 : decode cX10_laysInThought 0 = .ok (.aload_n 0, 1) := by decide +kernel
theorem dX10_laysInThought_1 : decode cX10_laysInThought 1 = .ok (.invokevirtual 318, 3) := by decide +kernel
theorem dX10_laysInThought_4 : decode cX10_laysInThought 4 = .ok (.aload_n 0, 1) := by decide +kernel
theorem dX10_laysInThought_5 : decode cX10_laysInThought 5 = .ok (.dup, 1) := by decide +kernel
theorem dX10_laysInThought_6 : decode cX10_laysInThought 6 = .ok (.getfield 343, 3) := by decide +kernel
theorem dX10_laysInThought_9 : decode cX10_laysInThought 9 = .ok (.aload_n 0, 1) := by decide +kernel
theorem dX10_laysInThought_10 : decode cX10_laysInThought 10 = .ok (.getfield 215, 3) := by decide +kernel
theorem dX10_laysInThought_13 : decode cX10_laysInThought 13 = .ok (.aload_n 0, 1) := by decide +kernel
theorem dX10_laysInThought_14 : decode cX10_laysInThought 14 = .ok (.getfield 212, 3) := by decide +kernel
theorem dX10_laysInThought_17 : decode cX10_laysInThought 17 = .ok (.iadd, 1) := by decide +kernel
theorem dX10_laysInThought_18 : decode cX10_laysInThought 18 = .ok (.iadd, 1) := by decide +kernel
theorem dX10_laysInThought_19 : decode cX10_laysInThought 19 = .ok (.putfield 343, 3) := by decide +kernel
theorem dX10_laysInThought_22 : decode cX10_laysInThought 22 = .ok (.return_, 1) := by decide +kernel
theorem dX10_isFull_0 : decode cX10_isFull 0 = .ok (.aload_n 0, 1) := by decide +kernel
theorem dX10_isFull_1 : decode cX10_isFull 1 = .ok (.getfield 343, 3) := by decide +kernel
theorem dX10_isFull_4 : decode cX10_isFull 4 = .ok (.ldc_w 408, 3) := by decide +kernel
theorem dX10_isFull_7 : decode cX10_isFull 7 = .ok (.if_icmp .lt 7, 3) := by decide +kernel
theorem dX10_isFull_10 : decode cX10_isFull 10 = .ok (.iconst 1, 1) := by decide +kernel
theorem dX10_isFull_11 : decode cX10_isFull 11 = .ok (.goto 4, 3) := by decide +kernel
theorem dX10_isFull_14 : decode cX10_isFull 14 = .ok (.iconst 0, 1) := by decide +kernel
theorem dX10_isFull_15 : decode cX10_isFull 15 = .ok (.ireturn, 1) := by decide +kernel
theorem dX10_agrees_0 : decode cX10_agrees 0 = .ok (.aload_n 0, 1) := by decide +kernel
theorem dX10_agrees_1 : decode cX10_agrees 1 = .ok (.invokevirtual 409, 3) := by decide +kernel
theorem dX10_agrees_4 : decode cX10_agrees 4 = .ok (.ifCond .eq 6, 3) := by decide +kernel
theorem dX10_agrees_7 : decode cX10_agrees 7 = .ok (.bipush (-4), 2) := by decide +kernel
theorem dX10_agrees_9 : decode cX10_agrees 9 = .ok (.ireturn, 1) := by decide +kernel
theorem dX10_agrees_10 : decode cX10_agrees 10 = .ok (.aload_n 0, 1) := by decide +kernel
theorem dX10_agrees_11 : decode cX10_agrees 11 = .ok (.aload_n 0, 1) := by decide +kernel
theorem dX10_agrees_12 : decode cX10_agrees 12 = .ok (.getfield 24, 3) := by decide +kernel
theorem dX10_agrees_15 : decode cX10_agrees 15 = .ok (.invokevirtual 412, 3) := by decide +kernel
theorem dX10_agrees_18 : decode cX10_agrees 18 = .ok (.iconst 0, 1) := by decide +kernel
theorem dX10_agrees_19 : decode cX10_agrees 19 = .ok (.istore_n 1, 1) := by decide +kernel
theorem dX10_agrees_20 : decode cX10_agrees 20 = .ok (.iload_n 1, 1) := by decide +kernel
theorem dX10_agrees_21 : decode cX10_agrees 21 = .ok (.bipush 24, 2) := by decide +kernel
theorem dX10_agrees_23 : decode cX10_agrees 23 = .ok (.if_icmp .ge 47, 3) := by decide +kernel
theorem dX10_agrees_26 : decode cX10_agrees 26 = .ok (.aload_n 0, 1) := by decide +kernel
theorem dX10_agrees_27 : decode cX10_agrees 27 = .ok (.iload_n 1, 1) := by decide +kernel
theorem dX10_agrees_28 : decode cX10_agrees 28 = .ok (.bipush 19, 2) := by decide +kernel
theorem dX10_agrees_30 : decode cX10_agrees 30 = .ok (.iconst 1, 1) := by decide +kernel
theorem dX10_agrees_31 : decode cX10_agrees 31 = .ok (.invokevirtual 102, 3) := by decide +kernel
theorem dX10_agrees_34 : decode cX10_agrees 34 = .ok (.aload_n 0, 1) := by decide +kernel
theorem dX10_agrees_35 : decode cX10_agrees 35 = .ok (.iload_n 1, 1) := by decide +kernel
theorem dX10_agrees_36 : decode cX10_agrees 36 = .ok (.bipush 21, 2) := by decide +kernel
theorem dX10_agrees_38 : decode cX10_agrees 38 = .ok (.iconst 0, 1) := by decide +kernel
theorem dX10_agrees_39 : decode cX10_agrees 39 = .ok (.invokevirtual 102, 3) := by decide +kernel
theorem dX10_agrees_42 : decode cX10_agrees 42 = .ok (.aload_n 0, 1) := by decide +kernel
theorem dX10_agrees_43 : decode cX10_agrees 43 = .ok (.iload_n 1, 1) := by decide +kernel
theorem dX10_agrees_44 : decode cX10_agrees 44 = .ok (.bipush 20, 2) := by decide +kernel
theorem dX10_agrees_46 : decode cX10_agrees 46 = .ok (.iload_n 1, 1) := by decide +kernel
theorem dX10_agrees_47 : decode cX10_agrees 47 = .ok (.aload_n 0, 1) := by decide +kernel
theorem dX10_agrees_48 : decode cX10_agrees 48 = .ok (.getfield 9, 3) := by decide +kernel
theorem dX10_agrees_51 : decode cX10_agrees 51 = .ok (.iconst 0, 1) := by decide +kernel
theorem dX10_agrees_52 : decode cX10_agrees 52 = .ok (.iaload, 1) := by decide +kernel
theorem dX10_agrees_53 : decode cX10_agrees 53 = .ok (.if_icmp .ne 7, 3) := by decide +kernel
theorem dX10_agrees_56 : decode cX10_agrees 56 = .ok (.iconst 1, 1) := by decide +kernel
theorem dX10_agrees_57 : decode cX10_agrees 57 = .ok (.goto 4, 3) := by decide +kernel
theorem dX10_agrees_60 : decode cX10_agrees 60 = .ok (.iconst 0, 1) := by decide +kernel
theorem dX10_agrees_61 : decode cX10_agrees 61 = .ok (.invokevirtual 102, 3) := by decide +kernel
theorem dX10_agrees_64 : decode cX10_agrees 64 = .ok (.iinc 1 1, 3) := by decide +kernel
theorem dX10_agrees_67 : decode cX10_agrees 67 = .ok (.goto (-47), 3) := by decide +kernel
theorem dX10_agrees_70 : decode cX10_agrees 70 = .ok (.aload_n 0, 1) := by decide +kernel
theorem dX10_agrees_71 : decode cX10_agrees 71 = .ok (.invokevirtual 416, 3) := by decide +kernel
theorem dX10_agrees_74 : decode cX10_agrees 74 = .ok (.aload_n 0, 1) := by decide +kernel
theorem dX10_agrees_75 : decode cX10_agrees 75 = .ok (.aload_n 0, 1) := by decide +kernel
theorem dX10_agrees_76 : decode cX10_agrees 76 = .ok (.getfield 21, 3) := by decide +kernel
theorem dX10_agrees_79 : decode cX10_agrees 79 = .ok (.invokevirtual 412, 3) := by decide +kernel
theorem dX10_agrees_82 : decode cX10_agrees 82 = .ok (.aload_n 0, 1) := by decide +kernel
theorem dX10_agrees_83 : decode cX10_agrees 83 = .ok (.invokevirtual 416, 3) := by decide +kernel
theorem dX10_agrees_86 : decode cX10_agrees 86 = .ok (.iconst 1, 1) := by decide +kernel
theorem dX10_agrees_87 : decode cX10_agrees 87 = .ok (.istore_n 1, 1) := by decide +kernel
theorem dX10_agrees_88 : decode cX10_agrees 88 = .ok (.iconst 0, 1) := by decide +kernel
theorem dX10_agrees_89 : decode cX10_agrees 89 = .ok (.istore_n 2, 1) := by decide +kernel
theorem dX10_agrees_90 : decode cX10_agrees 90 = .ok (.iload_n 2, 1) := by decide +kernel
theorem dX10_agrees_91 : decode cX10_agrees 91 = .ok (.bipush 24, 2) := by decide +kernel
theorem dX10_agrees_93 : decode cX10_agrees 93 = .ok (.if_icmp .ge 65, 3) := by decide +kernel
theorem dX10_agrees_96 : decode cX10_agrees 96 = .ok (.bipush 30, 2) := by decide +kernel
theorem dX10_agrees_98 : decode cX10_agrees 98 = .ok (.istore_n 3, 1) := by decide +kernel
theorem dX10_agrees_99 : decode cX10_agrees 99 = .ok (.iload_n 3, 1) := by decide +kernel
theorem dX10_agrees_100 : decode cX10_agrees 100 = .ok (.bipush 34, 2) := by decide +kernel
theorem dX10_agrees_102 : decode cX10_agrees 102 = .ok (.if_icmp .gt 50, 3) := by decide +kernel
theorem dX10_agrees_105 : decode cX10_agrees 105 = .ok (.iload_n 1, 1) := by decide +kernel
theorem dX10_agrees_106 : decode cX10_agrees 106 = .ok (.ifCond .eq 38, 3) := by decide +kernel
theorem dX10_agrees_109 : decode cX10_agrees 109 = .ok (.aload_n 0, 1) := by decide +kernel
theorem dX10_agrees_110 : decode cX10_agrees 110 = .ok (.iload_n 2, 1) := by decide +kernel
theorem dX10_agrees_111 : decode cX10_agrees 111 = .ok (.invokevirtual 127, 3) := by decide +kernel
theorem dX10_agrees_114 : decode cX10_agrees 114 = .ok (.ifCond .eq 26, 3) := by decide +kernel
theorem dX10_agrees_117 : decode cX10_agrees 117 = .ok (.aload_n 0, 1) := by decide +kernel
theorem dX10_agrees_118 : decode cX10_agrees 118 = .ok (.iload_n 2, 1) := by decide +kernel
theorem dX10_agrees_119 : decode cX10_agrees 119 = .ok (.iload_n 3, 1) := by decide +kernel
theorem dX10_agrees_120 : decode cX10_agrees 120 = .ok (.invokevirtual 91, 3) := by decide +kernel
theorem dX10_agrees_123 : decode cX10_agrees 123 = .ok (.aload_n 0, 1) := by decide +kernel
theorem dX10_agrees_124 : decode cX10_agrees 124 = .ok (.getfield 24, 3) := by decide +kernel
theorem dX10_agrees_127 : decode cX10_agrees 127 = .ok (.bipush 22, 2) := by decide +kernel
theorem dX10_agrees_129 : decode cX10_agrees 129 = .ok (.bipush 38, 2) := by decide +kernel
theorem dX10_agrees_131 : decode cX10_agrees 131 = .ok (.iload_n 2, 1) := by decide +kernel
theorem dX10_agrees_132 : decode cX10_agrees 132 = .ok (.imul, 1) := by decide +kernel
theorem dX10_agrees_133 : decode cX10_agrees 133 = .ok (.iadd, 1) := by decide +kernel
theorem dX10_agrees_134 : decode cX10_agrees 134 = .ok (.iload_n 3, 1) := by decide +kernel
theorem dX10_agrees_135 : decode cX10_agrees 135 = .ok (.iadd, 1) := by decide +kernel
theorem dX10_agrees_136 : decode cX10_agrees 136 = .ok (.iaload, 1) := by decide +kernel
theorem dX10_agrees_137 : decode cX10_agrees 137 = .ok (.if_icmp .ne 7, 3) := by decide +kernel
theorem dX10_agrees_140 : decode cX10_agrees 140 = .ok (.iconst 1, 1) := by decide +kernel
theorem dX10_agrees_141 : decode cX10_agrees 141 = .ok (.goto 4, 3) := by decide +kernel
theorem dX10_agrees_144 : decode cX10_agrees 144 = .ok (.iconst 0, 1) := by decide +kernel
theorem dX10_agrees_145 : decode cX10_agrees 145 = .ok (.istore_n 1, 1) := by decide +kernel
theorem dX10_agrees_146 : decode cX10_agrees 146 = .ok (.iinc 3 1, 3) := by decide +kernel
theorem dX10_agrees_149 : decode cX10_agrees 149 = .ok (.goto (-50), 3) := by decide +kernel
theorem dX10_agrees_152 : decode cX10_agrees 152 = .ok (.iinc 2 1, 3) := by decide +kernel
theorem dX10_agrees_155 : decode cX10_agrees 155 = .ok (.goto (-65), 3) := by decide +kernel
theorem dX10_agrees_158 : decode cX10_agrees 158 = .ok (.aload_n 0, 1) := by decide +kernel
theorem dX10_agrees_159 : decode cX10_agrees 159 = .ok (.aload_n 0, 1) := by decide +kernel
theorem dX10_agrees_160 : decode cX10_agrees 160 = .ok (.getfield 15, 3) := by decide +kernel
theorem dX10_agrees_163 : decode cX10_agrees 163 = .ok (.putfield 9, 3) := by decide +kernel
theorem dX10_agrees_166 : decode cX10_agrees 166 = .ok (.iload_n 1, 1) := by decide +kernel
theorem dX10_agrees_167 : decode cX10_agrees 167 = .ok (.ifCond .eq 7, 3) := by decide +kernel
theorem dX10_agrees_170 : decode cX10_agrees 170 = .ok (.iconst 1, 1) := by decide +kernel
theorem dX10_agrees_171 : decode cX10_agrees 171 = .ok (.goto 4, 3) := by decide +kernel
theorem dX10_agrees_174 : decode cX10_agrees 174 = .ok (.iconst 0, 1) := by decide +kernel
theorem dX10_agrees_175 : decode cX10_agrees 175 = .ok (.ireturn, 1) := by decide +kernel
theorem dX10_isFitting_0 : decode cX10_isFitting 0 = .ok (.aload_n 0, 1) := by decide +kernel
theorem dX10_isFitting_1 : decode cX10_isFitting 1 = .ok (.bipush 34, 2) := by decide +kernel
theorem dX10_isFitting_3 : decode cX10_isFitting 3 = .ok (.invokevirtual 337, 3) := by decide +kernel
theorem dX10_isFitting_6 : decode cX10_isFitting 6 = .ok (.ifCond .ne 7, 3) := by decide +kernel
theorem dX10_isFitting_9 : decode cX10_isFitting 9 = .ok (.iconst 1, 1) := by decide +kernel
theorem dX10_isFitting_10 : decode cX10_isFitting 10 = .ok (.goto 4, 3) := by decide +kernel
theorem dX10_isFitting_13 : decode cX10_isFitting 13 = .ok (.iconst 0, 1) := by decide +kernel
theorem dX10_isFitting_14 : decode cX10_isFitting 14 = .ok (.ireturn, 1) := by decide +kernel
theorem dX10_narrowest_0 : decode cX10_narrowest 0 = .ok (.aload_n 0, 1) := by decide +kernel
theorem dX10_narrowest_1 : decode cX10_narrowest 1 = .ok (.invokevirtual 409, 3) := by decide +kernel
theorem dX10_narrowest_4 : decode cX10_narrowest 4 = .ok (.ifCond .eq 6, 3) := by decide +kernel
theorem dX10_narrowest_7 : decode cX10_narrowest 7 = .ok (.bipush (-4), 2) := by decide +kernel
theorem dX10_narrowest_9 : decode cX10_narrowest 9 = .ok (.ireturn, 1) := by decide +kernel
theorem dX10_narrowest_10 : decode cX10_narrowest 10 = .ok (.bipush (-5), 2) := by decide +kernel
theorem dX10_narrowest_12 : decode cX10_narrowest 12 = .ok (.istore_n 1, 1) := by decide +kernel
theorem dX10_narrowest_13 : decode cX10_narrowest 13 = .ok (.iconst 0, 1) := by decide +kernel
theorem dX10_narrowest_14 : decode cX10_narrowest 14 = .ok (.istore_n 2, 1) := by decide +kernel
theorem dX10_narrowest_15 : decode cX10_narrowest 15 = .ok (.iload_n 2, 1) := by decide +kernel
theorem dX10_narrowest_16 : decode cX10_narrowest 16 = .ok (.sipush 200, 3) := by decide +kernel
theorem dX10_narrowest_19 : decode cX10_narrowest 19 = .ok (.if_icmp .gt 58, 3) := by decide +kernel
theorem dX10_narrowest_22 : decode cX10_narrowest 22 = .ok (.iload_n 1, 1) := by decide +kernel
theorem dX10_narrowest_23 : decode cX10_narrowest 23 = .ok (.ifCond .ge 54, 3) := by decide +kernel
theorem dX10_narrowest_26 : decode cX10_narrowest 26 = .ok (.aload_n 0, 1) := by decide +kernel
theorem dX10_narrowest_27 : decode cX10_narrowest 27 = .ok (.getfield 15, 3) := by decide +kernel
theorem dX10_narrowest_30 : decode cX10_narrowest 30 = .ok (.iconst 0, 1) := by decide +kernel
theorem dX10_narrowest_31 : decode cX10_narrowest 31 = .ok (.iaload, 1) := by decide +kernel
theorem dX10_narrowest_32 : decode cX10_narrowest 32 = .ok (.ifCond .lt 45, 3) := by decide +kernel
theorem dX10_narrowest_35 : decode cX10_narrowest 35 = .ok (.aload_n 0, 1) := by decide +kernel
theorem dX10_narrowest_36 : decode cX10_narrowest 36 = .ok (.aload_n 0, 1) := by decide +kernel
theorem dX10_narrowest_37 : decode cX10_narrowest 37 = .ok (.getfield 21, 3) := by decide +kernel
theorem dX10_narrowest_40 : decode cX10_narrowest 40 = .ok (.invokevirtual 412, 3) := by decide +kernel
theorem dX10_narrowest_43 : decode cX10_narrowest 43 = .ok (.aload_n 0, 1) := by decide +kernel
theorem dX10_narrowest_44 : decode cX10_narrowest 44 = .ok (.iload_n 2, 1) := by decide +kernel
theorem dX10_narrowest_45 : decode cX10_narrowest 45 = .ok (.aload_n 0, 1) := by decide +kernel
theorem dX10_narrowest_46 : decode cX10_narrowest 46 = .ok (.getfield 9, 3) := by decide +kernel
theorem dX10_narrowest_49 : decode cX10_narrowest 49 = .ok (.iconst 2, 1) := by decide +kernel
theorem dX10_narrowest_50 : decode cX10_narrowest 50 = .ok (.iaload, 1) := by decide +kernel
theorem dX10_narrowest_51 : decode cX10_narrowest 51 = .ok (.invokevirtual 165, 3) := by decide +kernel
theorem dX10_narrowest_54 : decode cX10_narrowest 54 = .ok (.aload_n 0, 1) := by decide +kernel
theorem dX10_narrowest_55 : decode cX10_narrowest 55 = .ok (.invokevirtual 416, 3) := by decide +kernel
theorem dX10_narrowest_58 : decode cX10_narrowest 58 = .ok (.aload_n 0, 1) := by decide +kernel
theorem dX10_narrowest_59 : decode cX10_narrowest 59 = .ok (.invokevirtual 419, 3) := by decide +kernel
theorem dX10_narrowest_62 : decode cX10_narrowest 62 = .ok (.ifCond .eq 7, 3) := by decide +kernel
theorem dX10_narrowest_65 : decode cX10_narrowest 65 = .ok (.iload_n 2, 1) := by decide +kernel
theorem dX10_narrowest_66 : decode cX10_narrowest 66 = .ok (.goto 4, 3) := by decide +kernel
theorem dX10_narrowest_69 : decode cX10_narrowest 69 = .ok (.iload_n 1, 1) := by decide +kernel
theorem dX10_narrowest_70 : decode cX10_narrowest 70 = .ok (.istore_n 1, 1) := by decide +kernel
theorem dX10_narrowest_71 : decode cX10_narrowest 71 = .ok (.iinc 2 1, 3) := by decide +kernel
theorem dX10_narrowest_74 : decode cX10_narrowest 74 = .ok (.goto (-59), 3) := by decide +kernel
theorem dX10_narrowest_77 : decode cX10_narrowest 77 = .ok (.aload_n 0, 1) := by decide +kernel
theorem dX10_narrowest_78 : decode cX10_narrowest 78 = .ok (.aload_n 0, 1) := by decide +kernel
theorem dX10_narrowest_79 : decode cX10_narrowest 79 = .ok (.getfield 15, 3) := by decide +kernel
theorem dX10_narrowest_82 : decode cX10_narrowest 82 = .ok (.putfield 9, 3) := by decide +kernel
theorem dX10_narrowest_85 : decode cX10_narrowest 85 = .ok (.iload_n 1, 1) := by decide +kernel
theorem dX10_narrowest_86 : decode cX10_narrowest 86 = .ok (.ireturn, 1) := by decide +kernel
theorem dX10_tall_0 : decode cX10_tall 0 = .ok (.iload_n 1, 1) := by decide +kernel
theorem dX10_tall_1 : decode cX10_tall 1 = .ok (.i2l, 1) := by decide +kernel
theorem dX10_tall_2 : decode cX10_tall 2 = .ok (.lconst 0, 1) := by decide +kernel
theorem dX10_tall_3 : decode cX10_tall 3 = .ok (.ldc2_w 163, 3) := by decide +kernel
theorem dX10_tall_6 : decode cX10_tall 6 = .ok (.invokestatic 87, 3) := by decide +kernel
theorem dX10_tall_9 : decode cX10_tall 9 = .ok (.ifCond .ne 6, 3) := by decide +kernel
theorem dX10_tall_12 : decode cX10_tall 12 = .ok (.bipush (-2), 2) := by decide +kernel
theorem dX10_tall_14 : decode cX10_tall 14 = .ok (.ireturn, 1) := by decide +kernel
theorem dX10_tall_15 : decode cX10_tall 15 = .ok (.aload_n 0, 1) := by decide +kernel
theorem dX10_tall_16 : decode cX10_tall 16 = .ok (.invokevirtual 409, 3) := by decide +kernel
theorem dX10_tall_19 : decode cX10_tall 19 = .ok (.ifCond .eq 6, 3) := by decide +kernel
theorem dX10_tall_22 : decode cX10_tall 22 = .ok (.bipush (-4), 2) := by decide +kernel
theorem dX10_tall_24 : decode cX10_tall 24 = .ok (.ireturn, 1) := by decide +kernel
theorem dX10_tall_25 : decode cX10_tall 25 = .ok (.aload_n 0, 1) := by decide +kernel
theorem dX10_tall_26 : decode cX10_tall 26 = .ok (.getfield 9, 3) := by decide +kernel
theorem dX10_tall_29 : decode cX10_tall 29 = .ok (.iconst 0, 1) := by decide +kernel
theorem dX10_tall_30 : decode cX10_tall 30 = .ok (.iaload, 1) := by decide +kernel
theorem dX10_tall_31 : decode cX10_tall 31 = .ok (.ifCond .ge 6, 3) := by decide +kernel
theorem dX10_tall_34 : decode cX10_tall 34 = .ok (.bipush (-5), 2) := by decide +kernel
theorem dX10_tall_36 : decode cX10_tall 36 = .ok (.ireturn, 1) := by decide +kernel
theorem dX10_tall_37 : decode cX10_tall 37 = .ok (.aload_n 0, 1) := by decide +kernel
theorem dX10_tall_38 : decode cX10_tall 38 = .ok (.aload_n 0, 1) := by decide +kernel
theorem dX10_tall_39 : decode cX10_tall 39 = .ok (.getfield 21, 3) := by decide +kernel
theorem dX10_tall_42 : decode cX10_tall 42 = .ok (.invokevirtual 412, 3) := by decide +kernel
theorem dX10_tall_45 : decode cX10_tall 45 = .ok (.aload_n 0, 1) := by decide +kernel
theorem dX10_tall_46 : decode cX10_tall 46 = .ok (.iload_n 1, 1) := by decide +kernel
theorem dX10_tall_47 : decode cX10_tall 47 = .ok (.sipush 1000, 3) := by decide +kernel
theorem dX10_tall_50 : decode cX10_tall 50 = .ok (.invokevirtual 165, 3) := by decide +kernel
theorem dX10_tall_53 : decode cX10_tall 53 = .ok (.aload_n 0, 1) := by decide +kernel
theorem dX10_tall_54 : decode cX10_tall 54 = .ok (.invokevirtual 416, 3) := by decide +kernel
theorem dX10_tall_57 : decode cX10_tall 57 = .ok (.aload_n 0, 1) := by decide +kernel
theorem dX10_tall_58 : decode cX10_tall 58 = .ok (.aload_n 0, 1) := by decide +kernel
theorem dX10_tall_59 : decode cX10_tall 59 = .ok (.getfield 9, 3) := by decide +kernel
theorem dX10_tall_62 : decode cX10_tall 62 = .ok (.iconst 0, 1) := by decide +kernel
theorem dX10_tall_63 : decode cX10_tall 63 = .ok (.iaload, 1) := by decide +kernel
theorem dX10_tall_64 : decode cX10_tall 64 = .ok (.bipush 33, 2) := by decide +kernel
theorem dX10_tall_66 : decode cX10_tall 66 = .ok (.invokevirtual 91, 3) := by decide +kernel
theorem dX10_tall_69 : decode cX10_tall 69 = .ok (.istore_n 2, 1) := by decide +kernel
theorem dX10_tall_70 : decode cX10_tall 70 = .ok (.aload_n 0, 1) := by decide +kernel
theorem dX10_tall_71 : decode cX10_tall 71 = .ok (.aload_n 0, 1) := by decide +kernel
theorem dX10_tall_72 : decode cX10_tall 72 = .ok (.getfield 15, 3) := by decide +kernel
theorem dX10_tall_75 : decode cX10_tall 75 = .ok (.putfield 9, 3) := by decide +kernel
theorem dX10_tall_78 : decode cX10_tall 78 = .ok (.iload_n 2, 1) := by decide +kernel
theorem dX10_tall_79 : decode cX10_tall 79 = .ok (.ireturn, 1) := by decide +kernel
theorem dX10_reached_0 : decode cX10_reached 0 = .ok (.aload_n 0, 1) := by decide +kernel
theorem dX10_reached_1 : decode cX10_reached 1 = .ok (.iload_n 1, 1) := by decide +kernel
theorem dX10_reached_2 : decode cX10_reached 2 = .ok (.invokevirtual 127, 3) := by decide +kernel
theorem dX10_reached_5 : decode cX10_reached 5 = .ok (.ifCond .eq 13, 3) := by decide +kernel
theorem dX10_reached_8 : decode cX10_reached 8 = .ok (.iload_n 2, 1) := by decide +kernel
theorem dX10_reached_9 : decode cX10_reached 9 = .ok (.i2l, 1) := by decide +kernel
theorem dX10_reached_10 : decode cX10_reached 10 = .ok (.lconst 0, 1) := by decide +kernel
theorem dX10_reached_11 : decode cX10_reached 11 = .ok (.lconst 1, 1) := by decide +kernel
theorem dX10_reached_12 : decode cX10_reached 12 = .ok (.invokestatic 87, 3) := by decide +kernel
theorem dX10_reached_15 : decode cX10_reached 15 = .ok (.ifCond .ne 5, 3) := by decide +kernel
theorem dX10_reached_18 : decode cX10_reached 18 = .ok (.iconst (-1), 1) := by decide +kernel
theorem dX10_reached_19 : decode cX10_reached 19 = .ok (.ireturn, 1) := by decide +kernel
theorem dX10_reached_20 : decode cX10_reached 20 = .ok (.aload_n 0, 1) := by decide +kernel
theorem dX10_reached_21 : decode cX10_reached 21 = .ok (.invokevirtual 409, 3) := by decide +kernel
theorem dX10_reached_24 : decode cX10_reached 24 = .ok (.ifCond .eq 6, 3) := by decide +kernel
theorem dX10_reached_27 : decode cX10_reached 27 = .ok (.bipush (-4), 2) := by decide +kernel
theorem dX10_reached_29 : decode cX10_reached 29 = .ok (.ireturn, 1) := by decide +kernel
theorem dX10_reached_30 : decode cX10_reached 30 = .ok (.aload_n 0, 1) := by decide +kernel
theorem dX10_reached_31 : decode cX10_reached 31 = .ok (.aload_n 0, 1) := by decide +kernel
theorem dX10_reached_32 : decode cX10_reached 32 = .ok (.getfield 21, 3) := by decide +kernel
theorem dX10_reached_35 : decode cX10_reached 35 = .ok (.invokevirtual 412, 3) := by decide +kernel
theorem dX10_reached_38 : decode cX10_reached 38 = .ok (.aload_n 0, 1) := by decide +kernel
theorem dX10_reached_39 : decode cX10_reached 39 = .ok (.invokevirtual 416, 3) := by decide +kernel
theorem dX10_reached_42 : decode cX10_reached 42 = .ok (.aload_n 0, 1) := by decide +kernel
theorem dX10_reached_43 : decode cX10_reached 43 = .ok (.iload_n 1, 1) := by decide +kernel
theorem dX10_reached_44 : decode cX10_reached 44 = .ok (.invokevirtual 113, 3) := by decide +kernel
theorem dX10_reached_47 : decode cX10_reached 47 = .ok (.aload_n 0, 1) := by decide +kernel
theorem dX10_reached_48 : decode cX10_reached 48 = .ok (.invokevirtual 416, 3) := by decide +kernel
theorem dX10_reached_51 : decode cX10_reached 51 = .ok (.aload_n 0, 1) := by decide +kernel
theorem dX10_reached_52 : decode cX10_reached 52 = .ok (.aload_n 0, 1) := by decide +kernel
theorem dX10_reached_53 : decode cX10_reached 53 = .ok (.getfield 15, 3) := by decide +kernel
theorem dX10_reached_56 : decode cX10_reached 56 = .ok (.putfield 9, 3) := by decide +kernel
theorem dX10_reached_59 : decode cX10_reached 59 = .ok (.iload_n 2, 1) := by decide +kernel
theorem dX10_reached_60 : decode cX10_reached 60 = .ok (.ifCond .ne 10, 3) := by decide +kernel
theorem dX10_reached_63 : decode cX10_reached 63 = .ok (.aload_n 0, 1) := by decide +kernel
theorem dX10_reached_64 : decode cX10_reached 64 = .ok (.getfield 218, 3) := by decide +kernel
theorem dX10_reached_67 : decode cX10_reached 67 = .ok (.goto 7, 3) := by decide +kernel
theorem dX10_reached_70 : decode cX10_reached 70 = .ok (.aload_n 0, 1) := by decide +kernel
theorem dX10_reached_71 : decode cX10_reached 71 = .ok (.getfield 212, 3) := by decide +kernel
theorem dX10_reached_74 : decode cX10_reached 74 = .ok (.ireturn, 1) := by decide +kernel
theorem dX10_bestShare_0 : decode cX10_bestShare 0 = .ok (.aload_n 0, 1) := by decide +kernel
theorem dX10_bestShare_1 : decode cX10_bestShare 1 = .ok (.iload_n 1, 1) := by decide +kernel
theorem dX10_bestShare_2 : decode cX10_bestShare 2 = .ok (.invokevirtual 127, 3) := by decide +kernel
theorem dX10_bestShare_5 : decode cX10_bestShare 5 = .ok (.ifCond .eq 13, 3) := by decide +kernel
theorem dX10_bestShare_8 : decode cX10_bestShare 8 = .ok (.iload_n 2, 1) := by decide +kernel
theorem dX10_bestShare_9 : decode cX10_bestShare 9 = .ok (.i2l, 1) := by decide +kernel
theorem dX10_bestShare_10 : decode cX10_bestShare 10 = .ok (.lconst 0, 1) := by decide +kernel
theorem dX10_bestShare_11 : decode cX10_bestShare 11 = .ok (.lconst 1, 1) := by decide +kernel
theorem dX10_bestShare_12 : decode cX10_bestShare 12 = .ok (.invokestatic 87, 3) := by decide +kernel
theorem dX10_bestShare_15 : decode cX10_bestShare 15 = .ok (.ifCond .ne 5, 3) := by decide +kernel
theorem dX10_bestShare_18 : decode cX10_bestShare 18 = .ok (.iconst (-1), 1) := by decide +kernel
theorem dX10_bestShare_19 : decode cX10_bestShare 19 = .ok (.ireturn, 1) := by decide +kernel
theorem dX10_bestShare_20 : decode cX10_bestShare 20 = .ok (.aload_n 0, 1) := by decide +kernel
theorem dX10_bestShare_21 : decode cX10_bestShare 21 = .ok (.invokevirtual 409, 3) := by decide +kernel
theorem dX10_bestShare_24 : decode cX10_bestShare 24 = .ok (.ifCond .eq 6, 3) := by decide +kernel
theorem dX10_bestShare_27 : decode cX10_bestShare 27 = .ok (.bipush (-4), 2) := by decide +kernel
theorem dX10_bestShare_29 : decode cX10_bestShare 29 = .ok (.ireturn, 1) := by decide +kernel
theorem dX10_bestShare_30 : decode cX10_bestShare 30 = .ok (.iconst 0, 1) := by decide +kernel
theorem dX10_bestShare_31 : decode cX10_bestShare 31 = .ok (.istore_n 3, 1) := by decide +kernel
theorem dX10_bestShare_32 : decode cX10_bestShare 32 = .ok (.iconst (-1), 1) := by decide +kernel
theorem dX10_bestShare_33 : decode cX10_bestShare 33 = .ok (.istore 4, 2) := by decide +kernel
theorem dX10_bestShare_35 : decode cX10_bestShare 35 = .ok (.iconst 0, 1) := by decide +kernel
theorem dX10_bestShare_36 : decode cX10_bestShare 36 = .ok (.istore 5, 2) := by decide +kernel
theorem dX10_bestShare_38 : decode cX10_bestShare 38 = .ok (.iload 5, 2) := by decide +kernel
theorem dX10_bestShare_40 : decode cX10_bestShare 40 = .ok (.bipush 10, 2) := by decide +kernel
theorem dX10_bestShare_42 : decode cX10_bestShare 42 = .ok (.if_icmp .ge 68, 3) := by decide +kernel
theorem dX10_bestShare_45 : decode cX10_bestShare 45 = .ok (.aload_n 0, 1) := by decide +kernel
theorem dX10_bestShare_46 : decode cX10_bestShare 46 = .ok (.aload_n 0, 1) := by decide +kernel
theorem dX10_bestShare_47 : decode cX10_bestShare 47 = .ok (.getfield 21, 3) := by decide +kernel
theorem dX10_bestShare_50 : decode cX10_bestShare 50 = .ok (.invokevirtual 412, 3) := by decide +kernel
theorem dX10_bestShare_53 : decode cX10_bestShare 53 = .ok (.aload_n 0, 1) := by decide +kernel
theorem dX10_bestShare_54 : decode cX10_bestShare 54 = .ok (.iload_n 1, 1) := by decide +kernel
theorem dX10_bestShare_55 : decode cX10_bestShare 55 = .ok (.iconst 4, 1) := by decide +kernel
theorem dX10_bestShare_56 : decode cX10_bestShare 56 = .ok (.iload 5, 2) := by decide +kernel
theorem dX10_bestShare_58 : decode cX10_bestShare 58 = .ok (.invokevirtual 150, 3) := by decide +kernel
theorem dX10_bestShare_61 : decode cX10_bestShare 61 = .ok (.aload_n 0, 1) := by decide +kernel
theorem dX10_bestShare_62 : decode cX10_bestShare 62 = .ok (.invokevirtual 416, 3) := by decide +kernel
theorem dX10_bestShare_65 : decode cX10_bestShare 65 = .ok (.aload_n 0, 1) := by decide +kernel
theorem dX10_bestShare_66 : decode cX10_bestShare 66 = .ok (.iload_n 1, 1) := by decide +kernel
theorem dX10_bestShare_67 : decode cX10_bestShare 67 = .ok (.bipush 32, 2) := by decide +kernel
theorem dX10_bestShare_69 : decode cX10_bestShare 69 = .ok (.invokevirtual 91, 3) := by decide +kernel
theorem dX10_bestShare_72 : decode cX10_bestShare 72 = .ok (.istore 6, 2) := by decide +kernel
theorem dX10_bestShare_74 : decode cX10_bestShare 74 = .ok (.iload 6, 2) := by decide +kernel
theorem dX10_bestShare_76 : decode cX10_bestShare 76 = .ok (.iload 4, 2) := by decide +kernel
theorem dX10_bestShare_78 : decode cX10_bestShare 78 = .ok (.if_icmp .le 8, 3) := by decide +kernel
theorem dX10_bestShare_81 : decode cX10_bestShare 81 = .ok (.iload 5, 2) := by decide +kernel
theorem dX10_bestShare_83 : decode cX10_bestShare 83 = .ok (.goto 4, 3) := by decide +kernel
theorem dX10_bestShare_86 : decode cX10_bestShare 86 = .ok (.iload_n 3, 1) := by decide +kernel
theorem dX10_bestShare_87 : decode cX10_bestShare 87 = .ok (.istore_n 3, 1) := by decide +kernel
theorem dX10_bestShare_88 : decode cX10_bestShare 88 = .ok (.iload 6, 2) := by decide +kernel
theorem dX10_bestShare_90 : decode cX10_bestShare 90 = .ok (.iload 4, 2) := by decide +kernel
theorem dX10_bestShare_92 : decode cX10_bestShare 92 = .ok (.if_icmp .le 8, 3) := by decide +kernel
theorem dX10_bestShare_95 : decode cX10_bestShare 95 = .ok (.iload 6, 2) := by decide +kernel
theorem dX10_bestShare_97 : decode cX10_bestShare 97 = .ok (.goto 5, 3) := by decide +kernel
theorem dX10_bestShare_100 : decode cX10_bestShare 100 = .ok (.iload 4, 2) := by decide +kernel
theorem dX10_bestShare_102 : decode cX10_bestShare 102 = .ok (.istore 4, 2) := by decide +kernel
theorem dX10_bestShare_104 : decode cX10_bestShare 104 = .ok (.iinc 5 1, 3) := by decide +kernel
theorem dX10_bestShare_107 : decode cX10_bestShare 107 = .ok (.goto (-69), 3) := by decide +kernel
theorem dX10_bestShare_110 : decode cX10_bestShare 110 = .ok (.aload_n 0, 1) := by decide +kernel
theorem dX10_bestShare_111 : decode cX10_bestShare 111 = .ok (.aload_n 0, 1) := by decide +kernel
theorem dX10_bestShare_112 : decode cX10_bestShare 112 = .ok (.getfield 15, 3) := by decide +kernel
theorem dX10_bestShare_115 : decode cX10_bestShare 115 = .ok (.putfield 9, 3) := by decide +kernel
theorem dX10_bestShare_118 : decode cX10_bestShare 118 = .ok (.iload_n 2, 1) := by decide +kernel
theorem dX10_bestShare_119 : decode cX10_bestShare 119 = .ok (.ifCond .ne 7, 3) := by decide +kernel
theorem dX10_bestShare_122 : decode cX10_bestShare 122 = .ok (.iload_n 3, 1) := by decide +kernel
theorem dX10_bestShare_123 : decode cX10_bestShare 123 = .ok (.goto 5, 3) := by decide +kernel
theorem dX10_bestShare_126 : decode cX10_bestShare 126 = .ok (.iload 4, 2) := by decide +kernel
theorem dX10_bestShare_128 : decode cX10_bestShare 128 = .ok (.ireturn, 1) := by decide +kernel
theorem dX10_fits_0 : decode cX10_fits 0 = .ok (.aload_n 0, 1) := by decide +kernel
theorem dX10_fits_1 : decode cX10_fits 1 = .ok (.iload_n 1, 1) := by decide +kernel
theorem dX10_fits_2 : decode cX10_fits 2 = .ok (.invokevirtual 127, 3) := by decide +kernel
theorem dX10_fits_5 : decode cX10_fits 5 = .ok (.ifCond .eq 28, 3) := by decide +kernel
theorem dX10_fits_8 : decode cX10_fits 8 = .ok (.iload_n 2, 1) := by decide +kernel
theorem dX10_fits_9 : decode cX10_fits 9 = .ok (.i2l, 1) := by decide +kernel
theorem dX10_fits_10 : decode cX10_fits 10 = .ok (.lconst 0, 1) := by decide +kernel
theorem dX10_fits_11 : decode cX10_fits 11 = .ok (.ldc2_w 332, 3) := by decide +kernel
theorem dX10_fits_14 : decode cX10_fits 14 = .ok (.invokestatic 87, 3) := by decide +kernel
theorem dX10_fits_17 : decode cX10_fits 17 = .ok (.ifCond .eq 16, 3) := by decide +kernel
theorem dX10_fits_20 : decode cX10_fits 20 = .ok (.iload_n 2, 1) := by decide +kernel
theorem dX10_fits_21 : decode cX10_fits 21 = .ok (.aload_n 0, 1) := by decide +kernel
theorem dX10_fits_22 : decode cX10_fits 22 = .ok (.iload_n 1, 1) := by decide +kernel
theorem dX10_fits_23 : decode cX10_fits 23 = .ok (.iconst 1, 1) := by decide +kernel
theorem dX10_fits_24 : decode cX10_fits 24 = .ok (.invokevirtual 91, 3) := by decide +kernel
theorem dX10_fits_27 : decode cX10_fits 27 = .ok (.invokestatic 110, 3) := by decide +kernel
theorem dX10_fits_30 : decode cX10_fits 30 = .ok (.if_icmp .lt 5, 3) := by decide +kernel
theorem dX10_fits_33 : decode cX10_fits 33 = .ok (.iconst (-1), 1) := by decide +kernel
theorem dX10_fits_34 : decode cX10_fits 34 = .ok (.ireturn, 1) := by decide +kernel
theorem dX10_fits_35 : decode cX10_fits 35 = .ok (.aload_n 0, 1) := by decide +kernel
theorem dX10_fits_36 : decode cX10_fits 36 = .ok (.invokevirtual 409, 3) := by decide +kernel
theorem dX10_fits_39 : decode cX10_fits 39 = .ok (.ifCond .eq 6, 3) := by decide +kernel
theorem dX10_fits_42 : decode cX10_fits 42 = .ok (.bipush (-4), 2) := by decide +kernel
theorem dX10_fits_44 : decode cX10_fits 44 = .ok (.ireturn, 1) := by decide +kernel
theorem dX10_fits_45 : decode cX10_fits 45 = .ok (.iconst 0, 1) := by decide +kernel
theorem dX10_fits_46 : decode cX10_fits 46 = .ok (.istore_n 3, 1) := by decide +kernel
theorem dX10_fits_47 : decode cX10_fits 47 = .ok (.iconst 0, 1) := by decide +kernel
theorem dX10_fits_48 : decode cX10_fits 48 = .ok (.istore 4, 2) := by decide +kernel
theorem dX10_fits_50 : decode cX10_fits 50 = .ok (.iload 4, 2) := by decide +kernel
theorem dX10_fits_52 : decode cX10_fits 52 = .ok (.bipush 20, 2) := by decide +kernel
theorem dX10_fits_54 : decode cX10_fits 54 = .ok (.if_icmp .gt 66, 3) := by decide +kernel
theorem dX10_fits_57 : decode cX10_fits 57 = .ok (.aload_n 0, 1) := by decide +kernel
theorem dX10_fits_58 : decode cX10_fits 58 = .ok (.iload_n 1, 1) := by decide +kernel
theorem dX10_fits_59 : decode cX10_fits 59 = .ok (.iload_n 2, 1) := by decide +kernel
theorem dX10_fits_60 : decode cX10_fits 60 = .ok (.iload 4, 2) := by decide +kernel
theorem dX10_fits_62 : decode cX10_fits 62 = .ok (.invokevirtual 147, 3) := by decide +kernel
theorem dX10_fits_65 : decode cX10_fits 65 = .ok (.ifCond .eq 49, 3) := by decide +kernel
theorem dX10_fits_68 : decode cX10_fits 68 = .ok (.aload_n 0, 1) := by decide +kernel
theorem dX10_fits_69 : decode cX10_fits 69 = .ok (.aload_n 0, 1) := by decide +kernel
theorem dX10_fits_70 : decode cX10_fits 70 = .ok (.getfield 21, 3) := by decide +kernel
theorem dX10_fits_73 : decode cX10_fits 73 = .ok (.invokevirtual 412, 3) := by decide +kernel
theorem dX10_fits_76 : decode cX10_fits 76 = .ok (.aload_n 0, 1) := by decide +kernel
theorem dX10_fits_77 : decode cX10_fits 77 = .ok (.iload_n 1, 1) := by decide +kernel
theorem dX10_fits_78 : decode cX10_fits 78 = .ok (.iload_n 2, 1) := by decide +kernel
theorem dX10_fits_79 : decode cX10_fits 79 = .ok (.iload 4, 2) := by decide +kernel
theorem dX10_fits_81 : decode cX10_fits 81 = .ok (.invokevirtual 150, 3) := by decide +kernel
theorem dX10_fits_84 : decode cX10_fits 84 = .ok (.aload_n 0, 1) := by decide +kernel
theorem dX10_fits_85 : decode cX10_fits 85 = .ok (.invokevirtual 416, 3) := by decide +kernel
theorem dX10_fits_88 : decode cX10_fits 88 = .ok (.iload_n 3, 1) := by decide +kernel
theorem dX10_fits_89 : decode cX10_fits 89 = .ok (.aload_n 0, 1) := by decide +kernel
theorem dX10_fits_90 : decode cX10_fits 90 = .ok (.invokevirtual 419, 3) := by decide +kernel
theorem dX10_fits_93 : decode cX10_fits 93 = .ok (.ifCond .eq 10, 3) := by decide +kernel
theorem dX10_fits_96 : decode cX10_fits 96 = .ok (.iconst 1, 1) := by decide +kernel
theorem dX10_fits_97 : decode cX10_fits 97 = .ok (.iload 4, 2) := by decide +kernel
theorem dX10_fits_99 : decode cX10_fits 99 = .ok (.ishl, 1) := by decide +kernel
theorem dX10_fits_100 : decode cX10_fits 100 = .ok (.goto 4, 3) := by decide +kernel
theorem dX10_fits_103 : decode cX10_fits 103 = .ok (.iconst 0, 1) := by decide +kernel
theorem dX10_fits_104 : decode cX10_fits 104 = .ok (.ior, 1) := by decide +kernel
theorem dX10_fits_105 : decode cX10_fits 105 = .ok (.istore_n 3, 1) := by decide +kernel
theorem dX10_fits_106 : decode cX10_fits 106 = .ok (.aload_n 0, 1) := by decide +kernel
theorem dX10_fits_107 : decode cX10_fits 107 = .ok (.aload_n 0, 1) := by decide +kernel
theorem dX10_fits_108 : decode cX10_fits 108 = .ok (.getfield 15, 3) := by decide +kernel
theorem dX10_fits_111 : decode cX10_fits 111 = .ok (.putfield 9, 3) := by decide +kernel
theorem dX10_fits_114 : decode cX10_fits 114 = .ok (.iinc 4 1, 3) := by decide +kernel
theorem dX10_fits_117 : decode cX10_fits 117 = .ok (.goto (-67), 3) := by decide +kernel
theorem dX10_fits_120 : decode cX10_fits 120 = .ok (.iload_n 3, 1) := by decide +kernel
theorem dX10_fits_121 : decode cX10_fits 121 = .ok (.ireturn, 1) := by decide +kernel
theorem dX10_plan_0 : decode cX10_plan 0 = .ok (.iload_n 1, 1) := by decide +kernel
theorem dX10_plan_1 : decode cX10_plan 1 = .ok (.iconst (-1), 1) := by decide +kernel
theorem dX10_plan_2 : decode cX10_plan 2 = .ok (.if_icmp .ne 12, 3) := by decide +kernel
theorem dX10_plan_5 : decode cX10_plan 5 = .ok (.aload_n 0, 1) := by decide +kernel
theorem dX10_plan_6 : decode cX10_plan 6 = .ok (.getfield 9, 3) := by decide +kernel
theorem dX10_plan_9 : decode cX10_plan 9 = .ok (.iconst 5, 1) := by decide +kernel
theorem dX10_plan_10 : decode cX10_plan 10 = .ok (.iconst 0, 1) := by decide +kernel
theorem dX10_plan_11 : decode cX10_plan 11 = .ok (.iastore, 1) := by decide +kernel
theorem dX10_plan_12 : decode cX10_plan 12 = .ok (.iconst 0, 1) := by decide +kernel
theorem dX10_plan_13 : decode cX10_plan 13 = .ok (.ireturn, 1) := by decide +kernel
theorem dX10_plan_14 : decode cX10_plan 14 = .ok (.aload_n 0, 1) := by decide +kernel
theorem dX10_plan_15 : decode cX10_plan 15 = .ok (.iload_n 1, 1) := by decide +kernel
theorem dX10_plan_16 : decode cX10_plan 16 = .ok (.invokevirtual 127, 3) := by decide +kernel
theorem dX10_plan_19 : decode cX10_plan 19 = .ok (.ifCond .ne 5, 3) := by decide +kernel
theorem dX10_plan_22 : decode cX10_plan 22 = .ok (.iconst (-1), 1) := by decide +kernel
theorem dX10_plan_23 : decode cX10_plan 23 = .ok (.ireturn, 1) := by decide +kernel
theorem dX10_plan_24 : decode cX10_plan 24 = .ok (.iload_n 2, 1) := by decide +kernel
theorem dX10_plan_25 : decode cX10_plan 25 = .ok (.i2l, 1) := by decide +kernel
theorem dX10_plan_26 : decode cX10_plan 26 = .ok (.lconst 0, 1) := by decide +kernel
theorem dX10_plan_27 : decode cX10_plan 27 = .ok (.ldc2_w 130, 3) := by decide +kernel
theorem dX10_plan_30 : decode cX10_plan 30 = .ok (.invokestatic 87, 3) := by decide +kernel
theorem dX10_plan_33 : decode cX10_plan 33 = .ok (.ifCond .ne 6, 3) := by decide +kernel
theorem dX10_plan_36 : decode cX10_plan 36 = .ok (.bipush (-2), 2) := by decide +kernel
theorem dX10_plan_38 : decode cX10_plan 38 = .ok (.ireturn, 1) := by decide +kernel
theorem dX10_plan_39 : decode cX10_plan 39 = .ok (.aload_n 0, 1) := by decide +kernel
theorem dX10_plan_40 : decode cX10_plan 40 = .ok (.getfield 9, 3) := by decide +kernel
theorem dX10_plan_43 : decode cX10_plan 43 = .ok (.iconst 5, 1) := by decide +kernel
theorem dX10_plan_44 : decode cX10_plan 44 = .ok (.iaload, 1) := by decide +kernel
theorem dX10_plan_45 : decode cX10_plan 45 = .ok (.bipush 8, 2) := by decide +kernel
theorem dX10_plan_47 : decode cX10_plan 47 = .ok (.if_icmp .ne 6, 3) := by decide +kernel
theorem dX10_plan_50 : decode cX10_plan 50 = .ok (.bipush (-4), 2) := by decide +kernel
theorem dX10_plan_52 : decode cX10_plan 52 = .ok (.ireturn, 1) := by decide +kernel
theorem dX10_plan_53 : decode cX10_plan 53 = .ok (.aload_n 0, 1) := by decide +kernel
theorem dX10_plan_54 : decode cX10_plan 54 = .ok (.getfield 9, 3) := by decide +kernel
theorem dX10_plan_57 : decode cX10_plan 57 = .ok (.bipush 6, 2) := by decide +kernel
theorem dX10_plan_59 : decode cX10_plan 59 = .ok (.iconst 2, 1) := by decide +kernel
theorem dX10_plan_60 : decode cX10_plan 60 = .ok (.aload_n 0, 1) := by decide +kernel
theorem dX10_plan_61 : decode cX10_plan 61 = .ok (.getfield 9, 3) := by decide +kernel
theorem dX10_plan_64 : decode cX10_plan 64 = .ok (.iconst 5, 1) := by decide +kernel
theorem dX10_plan_65 : decode cX10_plan 65 = .ok (.iaload, 1) := by decide +kernel
theorem dX10_plan_66 : decode cX10_plan 66 = .ok (.imul, 1) := by decide +kernel
theorem dX10_plan_67 : decode cX10_plan 67 = .ok (.iadd, 1) := by decide +kernel
theorem dX10_plan_68 : decode cX10_plan 68 = .ok (.iload_n 1, 1) := by decide +kernel
theorem dX10_plan_69 : decode cX10_plan 69 = .ok (.iastore, 1) := by decide +kernel
theorem dX10_plan_70 : decode cX10_plan 70 = .ok (.aload_n 0, 1) := by decide +kernel
theorem dX10_plan_71 : decode cX10_plan 71 = .ok (.getfield 9, 3) := by decide +kernel
theorem dX10_plan_74 : decode cX10_plan 74 = .ok (.bipush 7, 2) := by decide +kernel
theorem dX10_plan_76 : decode cX10_plan 76 = .ok (.iconst 2, 1) := by decide +kernel
theorem dX10_plan_77 : decode cX10_plan 77 = .ok (.aload_n 0, 1) := by decide +kernel
theorem dX10_plan_78 : decode cX10_plan 78 = .ok (.getfield 9, 3) := by decide +kernel
theorem dX10_plan_81 : decode cX10_plan 81 = .ok (.iconst 5, 1) := by decide +kernel
theorem dX10_plan_82 : decode cX10_plan 82 = .ok (.iaload, 1) := by decide +kernel
theorem dX10_plan_83 : decode cX10_plan 83 = .ok (.imul, 1) := by decide +kernel
theorem dX10_plan_84 : decode cX10_plan 84 = .ok (.iadd, 1) := by decide +kernel
theorem dX10_plan_85 : decode cX10_plan 85 = .ok (.iload_n 2, 1) := by decide +kernel
theorem dX10_plan_86 : decode cX10_plan 86 = .ok (.iastore, 1) := by decide +kernel
theorem dX10_plan_87 : decode cX10_plan 87 = .ok (.aload_n 0, 1) := by decide +kernel
theorem dX10_plan_88 : decode cX10_plan 88 = .ok (.getfield 9, 3) := by decide +kernel
theorem dX10_plan_91 : decode cX10_plan 91 = .ok (.iconst 5, 1) := by decide +kernel
theorem dX10_plan_92 : decode cX10_plan 92 = .ok (.dup2, 1) := by decide +kernel
theorem dX10_plan_93 : decode cX10_plan 93 = .ok (.iaload, 1) := by decide +kernel
theorem dX10_plan_94 : decode cX10_plan 94 = .ok (.iconst 1, 1) := by decide +kernel
theorem dX10_plan_95 : decode cX10_plan 95 = .ok (.iadd, 1) := by decide +kernel
theorem dX10_plan_96 : decode cX10_plan 96 = .ok (.iastore, 1) := by decide +kernel
theorem dX10_plan_97 : decode cX10_plan 97 = .ok (.aload_n 0, 1) := by decide +kernel
theorem dX10_plan_98 : decode cX10_plan 98 = .ok (.getfield 9, 3) := by decide +kernel
theorem dX10_plan_101 : decode cX10_plan 101 = .ok (.iconst 5, 1) := by decide +kernel
theorem dX10_plan_102 : decode cX10_plan 102 = .ok (.iaload, 1) := by decide +kernel
theorem dX10_plan_103 : decode cX10_plan 103 = .ok (.ireturn, 1) := by decide +kernel
theorem dX10_goesBy_0 : decode cX10_goesBy 0 = .ok (.aload_n 0, 1) := by decide +kernel
theorem dX10_goesBy_1 : decode cX10_goesBy 1 = .ok (.getfield 9, 3) := by decide +kernel
theorem dX10_goesBy_4 : decode cX10_goesBy 4 = .ok (.bipush 6, 2) := by decide +kernel
theorem dX10_goesBy_6 : decode cX10_goesBy 6 = .ok (.iconst 2, 1) := by decide +kernel
theorem dX10_goesBy_7 : decode cX10_goesBy 7 = .ok (.iload_n 1, 1) := by decide +kernel
theorem dX10_goesBy_8 : decode cX10_goesBy 8 = .ok (.imul, 1) := by decide +kernel
theorem dX10_goesBy_9 : decode cX10_goesBy 9 = .ok (.iadd, 1) := by decide +kernel
theorem dX10_goesBy_10 : decode cX10_goesBy 10 = .ok (.iaload, 1) := by decide +kernel
theorem dX10_goesBy_11 : decode cX10_goesBy 11 = .ok (.istore_n 2, 1) := by decide +kernel
theorem dX10_goesBy_12 : decode cX10_goesBy 12 = .ok (.aload_n 0, 1) := by decide +kernel
theorem dX10_goesBy_13 : decode cX10_goesBy 13 = .ok (.iload_n 2, 1) := by decide +kernel
theorem dX10_goesBy_14 : decode cX10_goesBy 14 = .ok (.invokevirtual 127, 3) := by decide +kernel
theorem dX10_goesBy_17 : decode cX10_goesBy 17 = .ok (.istore_n 3, 1) := by decide +kernel
theorem dX10_goesBy_18 : decode cX10_goesBy 18 = .ok (.iload_n 3, 1) := by decide +kernel
theorem dX10_goesBy_19 : decode cX10_goesBy 19 = .ok (.ifCond .eq 20, 3) := by decide +kernel
theorem dX10_goesBy_22 : decode cX10_goesBy 22 = .ok (.aload_n 0, 1) := by decide +kernel
theorem dX10_goesBy_23 : decode cX10_goesBy 23 = .ok (.iload_n 2, 1) := by decide +kernel
theorem dX10_goesBy_24 : decode cX10_goesBy 24 = .ok (.iconst 4, 1) := by decide +kernel
theorem dX10_goesBy_25 : decode cX10_goesBy 25 = .ok (.aload_n 0, 1) := by decide +kernel
theorem dX10_goesBy_26 : decode cX10_goesBy 26 = .ok (.getfield 9, 3) := by decide +kernel
theorem dX10_goesBy_29 : decode cX10_goesBy 29 = .ok (.bipush 7, 2) := by decide +kernel
theorem dX10_goesBy_31 : decode cX10_goesBy 31 = .ok (.iconst 2, 1) := by decide +kernel
theorem dX10_goesBy_32 : decode cX10_goesBy 32 = .ok (.iload_n 1, 1) := by decide +kernel
theorem dX10_goesBy_33 : decode cX10_goesBy 33 = .ok (.imul, 1) := by decide +kernel
theorem dX10_goesBy_34 : decode cX10_goesBy 34 = .ok (.iadd, 1) := by decide +kernel
theorem dX10_goesBy_35 : decode cX10_goesBy 35 = .ok (.iaload, 1) := by decide +kernel
theorem dX10_goesBy_36 : decode cX10_goesBy 36 = .ok (.invokevirtual 150, 3) := by decide +kernel
theorem dX10_goesBy_39 : decode cX10_goesBy 39 = .ok (.iload_n 3, 1) := by decide +kernel
theorem dX10_goesBy_40 : decode cX10_goesBy 40 = .ok (.ireturn, 1) := by decide +kernel
theorem dX10_saved_0 : decode cX10_saved 0 = .ok (.aload_n 0, 1) := by decide +kernel
theorem dX10_saved_1 : decode cX10_saved 1 = .ok (.invokevirtual 409, 3) := by decide +kernel
theorem dX10_saved_4 : decode cX10_saved 4 = .ok (.ifCond .eq 6, 3) := by decide +kernel
theorem dX10_saved_7 : decode cX10_saved 7 = .ok (.bipush (-4), 2) := by decide +kernel
theorem dX10_saved_9 : decode cX10_saved 9 = .ok (.ireturn, 1) := by decide +kernel
theorem dX10_saved_10 : decode cX10_saved 10 = .ok (.iconst 0, 1) := by decide +kernel
theorem dX10_saved_11 : decode cX10_saved 11 = .ok (.istore_n 1, 1) := by decide +kernel
theorem dX10_saved_12 : decode cX10_saved 12 = .ok (.aload_n 0, 1) := by decide +kernel
theorem dX10_saved_13 : decode cX10_saved 13 = .ok (.aload_n 0, 1) := by decide +kernel
theorem dX10_saved_14 : decode cX10_saved 14 = .ok (.getfield 21, 3) := by decide +kernel
theorem dX10_saved_17 : decode cX10_saved 17 = .ok (.invokevirtual 412, 3) := by decide +kernel
theorem dX10_saved_20 : decode cX10_saved 20 = .ok (.aload_n 0, 1) := by decide +kernel
theorem dX10_saved_21 : decode cX10_saved 21 = .ok (.invokevirtual 416, 3) := by decide +kernel
theorem dX10_saved_24 : decode cX10_saved 24 = .ok (.iconst 0, 1) := by decide +kernel
theorem dX10_saved_25 : decode cX10_saved 25 = .ok (.istore_n 2, 1) := by decide +kernel
theorem dX10_saved_26 : decode cX10_saved 26 = .ok (.iload_n 2, 1) := by decide +kernel
theorem dX10_saved_27 : decode cX10_saved 27 = .ok (.aload_n 0, 1) := by decide +kernel
theorem dX10_saved_28 : decode cX10_saved 28 = .ok (.getfield 9, 3) := by decide +kernel
theorem dX10_saved_31 : decode cX10_saved 31 = .ok (.iconst 5, 1) := by decide +kernel
theorem dX10_saved_32 : decode cX10_saved 32 = .ok (.iaload, 1) := by decide +kernel
theorem dX10_saved_33 : decode cX10_saved 33 = .ok (.if_icmp .ge 28, 3) := by decide +kernel
theorem dX10_saved_36 : decode cX10_saved 36 = .ok (.aload_n 0, 1) := by decide +kernel
theorem dX10_saved_37 : decode cX10_saved 37 = .ok (.iload_n 2, 1) := by decide +kernel
theorem dX10_saved_38 : decode cX10_saved 38 = .ok (.invokevirtual 422, 3) := by decide +kernel
theorem dX10_saved_41 : decode cX10_saved 41 = .ok (.ifCond .eq 14, 3) := by decide +kernel
theorem dX10_saved_44 : decode cX10_saved 44 = .ok (.aload_n 0, 1) := by decide +kernel
theorem dX10_saved_45 : decode cX10_saved 45 = .ok (.invokevirtual 416, 3) := by decide +kernel
theorem dX10_saved_48 : decode cX10_saved 48 = .ok (.iload_n 1, 1) := by decide +kernel
theorem dX10_saved_49 : decode cX10_saved 49 = .ok (.aload_n 0, 1) := by decide +kernel
theorem dX10_saved_50 : decode cX10_saved 50 = .ok (.getfield 215, 3) := by decide +kernel
theorem dX10_saved_53 : decode cX10_saved 53 = .ok (.iadd, 1) := by decide +kernel
theorem dX10_saved_54 : decode cX10_saved 54 = .ok (.istore_n 1, 1) := by decide +kernel
theorem dX10_saved_55 : decode cX10_saved 55 = .ok (.iinc 2 1, 3) := by decide +kernel
theorem dX10_saved_58 : decode cX10_saved 58 = .ok (.goto (-32), 3) := by decide +kernel
theorem dX10_saved_61 : decode cX10_saved 61 = .ok (.aload_n 0, 1) := by decide +kernel
theorem dX10_saved_62 : decode cX10_saved 62 = .ok (.aload_n 0, 1) := by decide +kernel
theorem dX10_saved_63 : decode cX10_saved 63 = .ok (.getfield 21, 3) := by decide +kernel
theorem dX10_saved_66 : decode cX10_saved 66 = .ok (.invokevirtual 412, 3) := by decide +kernel
theorem dX10_saved_69 : decode cX10_saved 69 = .ok (.aload_n 0, 1) := by decide +kernel
theorem dX10_saved_70 : decode cX10_saved 70 = .ok (.invokevirtual 416, 3) := by decide +kernel
theorem dX10_saved_73 : decode cX10_saved 73 = .ok (.iconst 0, 1) := by decide +kernel
theorem dX10_saved_74 : decode cX10_saved 74 = .ok (.istore_n 2, 1) := by decide +kernel
theorem dX10_saved_75 : decode cX10_saved 75 = .ok (.iload_n 2, 1) := by decide +kernel
theorem dX10_saved_76 : decode cX10_saved 76 = .ok (.aload_n 0, 1) := by decide +kernel
theorem dX10_saved_77 : decode cX10_saved 77 = .ok (.getfield 9, 3) := by decide +kernel
theorem dX10_saved_80 : decode cX10_saved 80 = .ok (.iconst 5, 1) := by decide +kernel
theorem dX10_saved_81 : decode cX10_saved 81 = .ok (.iaload, 1) := by decide +kernel
theorem dX10_saved_82 : decode cX10_saved 82 = .ok (.if_icmp .ge 15, 3) := by decide +kernel
theorem dX10_saved_85 : decode cX10_saved 85 = .ok (.aload_n 0, 1) := by decide +kernel
theorem dX10_saved_86 : decode cX10_saved 86 = .ok (.iload_n 2, 1) := by decide +kernel
theorem dX10_saved_87 : decode cX10_saved 87 = .ok (.invokevirtual 422, 3) := by decide +kernel
theorem dX10_saved_90 : decode cX10_saved 90 = .ok (.pop, 1) := by decide +kernel
theorem dX10_saved_91 : decode cX10_saved 91 = .ok (.iinc 2 1, 3) := by decide +kernel
theorem dX10_saved_94 : decode cX10_saved 94 = .ok (.goto (-19), 3) := by decide +kernel
theorem dX10_saved_97 : decode cX10_saved 97 = .ok (.aload_n 0, 1) := by decide +kernel
theorem dX10_saved_98 : decode cX10_saved 98 = .ok (.invokevirtual 416, 3) := by decide +kernel
theorem dX10_saved_101 : decode cX10_saved 101 = .ok (.aload_n 0, 1) := by decide +kernel
theorem dX10_saved_102 : decode cX10_saved 102 = .ok (.aload_n 0, 1) := by decide +kernel
theorem dX10_saved_103 : decode cX10_saved 103 = .ok (.getfield 15, 3) := by decide +kernel
theorem dX10_saved_106 : decode cX10_saved 106 = .ok (.putfield 9, 3) := by decide +kernel
theorem dX10_saved_109 : decode cX10_saved 109 = .ok (.iload_n 1, 1) := by decide +kernel
theorem dX10_saved_110 : decode cX10_saved 110 = .ok (.aload_n 0, 1) := by decide +kernel
theorem dX10_saved_111 : decode cX10_saved 111 = .ok (.getfield 215, 3) := by decide +kernel
theorem dX10_saved_114 : decode cX10_saved 114 = .ok (.isub, 1) := by decide +kernel
theorem dX10_saved_115 : decode cX10_saved 115 = .ok (.ireturn, 1) := by decide +kernel
theorem dX10_divisor_0 : decode cX10_divisor 0 = .ok (.lload_n 0, 1) := by decide +kernel
theorem dX10_divisor_1 : decode cX10_divisor 1 = .ok (.lstore 4, 2) := by decide +kernel
theorem dX10_divisor_3 : decode cX10_divisor 3 = .ok (.lload_n 2, 1) := by decide +kernel
theorem dX10_divisor_4 : decode cX10_divisor 4 = .ok (.lstore 6, 2) := by decide +kernel
theorem dX10_divisor_6 : decode cX10_divisor 6 = .ok (.lload 6, 2) := by decide +kernel
theorem dX10_divisor_8 : decode cX10_divisor 8 = .ok (.lconst 0, 1) := by decide +kernel
theorem dX10_divisor_9 : decode cX10_divisor 9 = .ok (.lcmp, 1) := by decide +kernel
theorem dX10_divisor_10 : decode cX10_divisor 10 = .ok (.ifCond .eq 21, 3) := by decide +kernel
theorem dX10_divisor_13 : decode cX10_divisor 13 = .ok (.lload 4, 2) := by decide +kernel
theorem dX10_divisor_15 : decode cX10_divisor 15 = .ok (.lload 6, 2) := by decide +kernel
theorem dX10_divisor_17 : decode cX10_divisor 17 = .ok (.lrem, 1) := by decide +kernel
theorem dX10_divisor_18 : decode cX10_divisor 18 = .ok (.lstore 8, 2) := by decide +kernel
theorem dX10_divisor_20 : decode cX10_divisor 20 = .ok (.lload 6, 2) := by decide +kernel
theorem dX10_divisor_22 : decode cX10_divisor 22 = .ok (.lstore 4, 2) := by decide +kernel
theorem dX10_divisor_24 : decode cX10_divisor 24 = .ok (.lload 8, 2) := by decide +kernel
theorem dX10_divisor_26 : decode cX10_divisor 26 = .ok (.lstore 6, 2) := by decide +kernel
theorem dX10_divisor_28 : decode cX10_divisor 28 = .ok (.goto (-22), 3) := by decide +kernel
theorem dX10_divisor_31 : decode cX10_divisor 31 = .ok (.lload 4, 2) := by decide +kernel
theorem dX10_divisor_33 : decode cX10_divisor 33 = .ok (.lreturn, 1) := by decide +kernel
theorem dX10_partOf_0 : decode cX10_partOf 0 = .ok (.lload_n 0, 1) := by decide +kernel
theorem dX10_partOf_1 : decode cX10_partOf 1 = .ok (.lload_n 2, 1) := by decide +kernel
theorem dX10_partOf_2 : decode cX10_partOf 2 = .ok (.invokestatic 425, 3) := by decide +kernel
theorem dX10_partOf_5 : decode cX10_partOf 5 = .ok (.lstore 5, 2) := by decide +kernel
theorem dX10_partOf_7 : decode cX10_partOf 7 = .ok (.iload 4, 2) := by decide +kernel
theorem dX10_partOf_9 : decode cX10_partOf 9 = .ok (.ifCond .ne 10, 3) := by decide +kernel
theorem dX10_partOf_12 : decode cX10_partOf 12 = .ok (.lload_n 0, 1) := by decide +kernel
theorem dX10_partOf_13 : decode cX10_partOf 13 = .ok (.lload 5, 2) := by decide +kernel
theorem dX10_partOf_15 : decode cX10_partOf 15 = .ok (.ldiv, 1) := by decide +kernel
theorem dX10_partOf_16 : decode cX10_partOf 16 = .ok (.goto 7, 3) := by decide +kernel
theorem dX10_partOf_19 : decode cX10_partOf 19 = .ok (.lload_n 2, 1) := by decide +kernel
theorem dX10_partOf_20 : decode cX10_partOf 20 = .ok (.lload 5, 2) := by decide +kernel
theorem dX10_partOf_22 : decode cX10_partOf 22 = .ok (.ldiv, 1) := by decide +kernel
theorem dX10_partOf_23 : decode cX10_partOf 23 = .ok (.lreturn, 1) := by decide +kernel
theorem dX10_likely_0 : decode cX10_likely 0 = .ok (.iload_n 1, 1) := by decide +kernel
theorem dX10_likely_1 : decode cX10_likely 1 = .ok (.i2l, 1) := by decide +kernel
theorem dX10_likely_2 : decode cX10_likely 2 = .ok (.ldc2_w 429, 3) := by decide +kernel
theorem dX10_likely_5 : decode cX10_likely 5 = .ok (.ldc2_w 431, 3) := by decide +kernel
theorem dX10_likely_8 : decode cX10_likely 8 = .ok (.invokestatic 87, 3) := by decide +kernel
theorem dX10_likely_11 : decode cX10_likely 11 = .ok (.ifCond .eq 20, 3) := by decide +kernel
theorem dX10_likely_14 : decode cX10_likely 14 = .ok (.iload_n 2, 1) := by decide +kernel
theorem dX10_likely_15 : decode cX10_likely 15 = .ok (.i2l, 1) := by decide +kernel
theorem dX10_likely_16 : decode cX10_likely 16 = .ok (.lconst 0, 1) := by decide +kernel
theorem dX10_likely_17 : decode cX10_likely 17 = .ok (.lconst 1, 1) := by decide +kernel
theorem dX10_likely_18 : decode cX10_likely 18 = .ok (.invokestatic 87, 3) := by decide +kernel
theorem dX10_likely_21 : decode cX10_likely 21 = .ok (.ifCond .eq 10, 3) := by decide +kernel
theorem dX10_likely_24 : decode cX10_likely 24 = .ok (.aload_n 0, 1) := by decide +kernel
theorem dX10_likely_25 : decode cX10_likely 25 = .ok (.invokevirtual 409, 3) := by decide +kernel
theorem dX10_likely_28 : decode cX10_likely 28 = .ok (.ifCond .eq 7, 3) := by decide +kernel
theorem dX10_likely_31 : decode cX10_likely 31 = .ok (.ldc2_w 433, 3) := by decide +kernel
theorem dX10_likely_34 : decode cX10_likely 34 = .ok (.lreturn, 1) := by decide +kernel
theorem dX10_likely_35 : decode cX10_likely 35 = .ok (.iconst 0, 1) := by decide +kernel
theorem dX10_likely_36 : decode cX10_likely 36 = .ok (.istore_n 3, 1) := by decide +kernel
theorem dX10_likely_37 : decode cX10_likely 37 = .ok (.lconst 1, 1) := by decide +kernel
theorem dX10_likely_38 : decode cX10_likely 38 = .ok (.lstore 4, 2) := by decide +kernel
theorem dX10_likely_40 : decode cX10_likely 40 = .ok (.iconst 0, 1) := by decide +kernel
theorem dX10_likely_41 : decode cX10_likely 41 = .ok (.istore 6, 2) := by decide +kernel
theorem dX10_likely_43 : decode cX10_likely 43 = .ok (.iload 6, 2) := by decide +kernel
theorem dX10_likely_45 : decode cX10_likely 45 = .ok (.bipush 24, 2) := by decide +kernel
theorem dX10_likely_47 : decode cX10_likely 47 = .ok (.if_icmp .ge 52, 3) := by decide +kernel
theorem dX10_likely_50 : decode cX10_likely 50 = .ok (.aload_n 0, 1) := by decide +kernel
theorem dX10_likely_51 : decode cX10_likely 51 = .ok (.iload 6, 2) := by decide +kernel
theorem dX10_likely_53 : decode cX10_likely 53 = .ok (.invokevirtual 127, 3) := by decide +kernel
theorem dX10_likely_56 : decode cX10_likely 56 = .ok (.ifCond .eq 37, 3) := by decide +kernel
theorem dX10_likely_59 : decode cX10_likely 59 = .ok (.aload_n 0, 1) := by decide +kernel
theorem dX10_likely_60 : decode cX10_likely 60 = .ok (.iload 6, 2) := by decide +kernel
theorem dX10_likely_62 : decode cX10_likely 62 = .ok (.iconst 1, 1) := by decide +kernel
theorem dX10_likely_63 : decode cX10_likely 63 = .ok (.invokevirtual 91, 3) := by decide +kernel
theorem dX10_likely_66 : decode cX10_likely 66 = .ok (.ifCond .ne 27, 3) := by decide +kernel
theorem dX10_likely_69 : decode cX10_likely 69 = .ok (.iload_n 3, 1) := by decide +kernel
theorem dX10_likely_70 : decode cX10_likely 70 = .ok (.bipush 6, 2) := by decide +kernel
theorem dX10_likely_72 : decode cX10_likely 72 = .ok (.if_icmp .ge 21, 3) := by decide +kernel
theorem dX10_likely_75 : decode cX10_likely 75 = .ok (.aload_n 0, 1) := by decide +kernel
theorem dX10_likely_76 : decode cX10_likely 76 = .ok (.getfield 69, 3) := by decide +kernel
theorem dX10_likely_79 : decode cX10_likely 79 = .ok (.iload_n 3, 1) := by decide +kernel
theorem dX10_likely_80 : decode cX10_likely 80 = .ok (.iload 6, 2) := by decide +kernel
theorem dX10_likely_82 : decode cX10_likely 82 = .ok (.iastore, 1) := by decide +kernel
theorem dX10_likely_83 : decode cX10_likely 83 = .ok (.iinc 3 1, 3) := by decide +kernel
theorem dX10_likely_86 : decode cX10_likely 86 = .ok (.lload 4, 2) := by decide +kernel
theorem dX10_likely_88 : decode cX10_likely 88 = .ok (.iload_n 1, 1) := by decide +kernel
theorem dX10_likely_89 : decode cX10_likely 89 = .ok (.i2l, 1) := by decide +kernel
theorem dX10_likely_90 : decode cX10_likely 90 = .ok (.lmul, 1) := by decide +kernel
theorem dX10_likely_91 : decode cX10_likely 91 = .ok (.lstore 4, 2) := by decide +kernel
theorem dX10_likely_93 : decode cX10_likely 93 = .ok (.iinc 6 1, 3) := by decide +kernel
theorem dX10_likely_96 : decode cX10_likely 96 = .ok (.goto (-53), 3) := by decide +kernel
theorem dX10_likely_99 : decode cX10_likely 99 = .ok (.lconst 0, 1) := by decide +kernel
theorem dX10_likely_100 : decode cX10_likely 100 = .ok (.lstore 6, 2) := by decide +kernel
theorem dX10_likely_102 : decode cX10_likely 102 = .ok (.iconst 0, 1) := by decide +kernel
theorem dX10_likely_103 : decode cX10_likely 103 = .ok (.istore 8, 2) := by decide +kernel
theorem dX10_likely_105 : decode cX10_likely 105 = .ok (.iload 8, 2) := by decide +kernel
theorem dX10_likely_107 : decode cX10_likely 107 = .ok (.iconst 1, 1) := by decide +kernel
theorem dX10_likely_108 : decode cX10_likely 108 = .ok (.iload_n 3, 1) := by decide +kernel
theorem dX10_likely_109 : decode cX10_likely 109 = .ok (.ishl, 1) := by decide +kernel
theorem dX10_likely_110 : decode cX10_likely 110 = .ok (.if_icmp .ge 124, 3) := by decide +kernel
theorem dX10_likely_113 : decode cX10_likely 113 = .ok (.lconst 1, 1) := by decide +kernel
theorem dX10_likely_114 : decode cX10_likely 114 = .ok (.lstore 9, 2) := by decide +kernel
theorem dX10_likely_116 : decode cX10_likely 116 = .ok (.aload_n 0, 1) := by decide +kernel
theorem dX10_likely_117 : decode cX10_likely 117 = .ok (.aload_n 0, 1) := by decide +kernel
theorem dX10_likely_118 : decode cX10_likely 118 = .ok (.getfield 21, 3) := by decide +kernel
theorem dX10_likely_121 : decode cX10_likely 121 = .ok (.invokevirtual 412, 3) := by decide +kernel
theorem dX10_likely_124 : decode cX10_likely 124 = .ok (.iconst 0, 1) := by decide +kernel
theorem dX10_likely_125 : decode cX10_likely 125 = .ok (.istore 11, 2) := by decide +kernel
theorem dX10_likely_127 : decode cX10_likely 127 = .ok (.iload 11, 2) := by decide +kernel
theorem dX10_likely_129 : decode cX10_likely 129 = .ok (.iload_n 3, 1) := by decide +kernel
theorem dX10_likely_130 : decode cX10_likely 130 = .ok (.if_icmp .ge 76, 3) := by decide +kernel
theorem dX10_likely_133 : decode cX10_likely 133 = .ok (.iload 8, 2) := by decide +kernel
theorem dX10_likely_135 : decode cX10_likely 135 = .ok (.iload 11, 2) := by decide +kernel
theorem dX10_likely_137 : decode cX10_likely 137 = .ok (.ishr, 1) := by decide +kernel
theorem dX10_likely_138 : decode cX10_likely 138 = .ok (.iconst 1, 1) := by decide +kernel
theorem dX10_likely_139 : decode cX10_likely 139 = .ok (.iand, 1) := by decide +kernel
theorem dX10_likely_140 : decode cX10_likely 140 = .ok (.iconst 1, 1) := by decide +kernel
theorem dX10_likely_141 : decode cX10_likely 141 = .ok (.if_icmp .ne 7, 3) := by decide +kernel
theorem dX10_likely_144 : decode cX10_likely 144 = .ok (.iconst 1, 1) := by decide +kernel
theorem dX10_likely_145 : decode cX10_likely 145 = .ok (.goto 4, 3) := by decide +kernel
theorem dX10_likely_148 : decode cX10_likely 148 = .ok (.iconst 0, 1) := by decide +kernel
theorem dX10_likely_149 : decode cX10_likely 149 = .ok (.istore 12, 2) := by decide +kernel
theorem dX10_likely_151 : decode cX10_likely 151 = .ok (.lload 9, 2) := by decide +kernel
theorem dX10_likely_153 : decode cX10_likely 153 = .ok (.iload 12, 2) := by decide +kernel
theorem dX10_likely_155 : decode cX10_likely 155 = .ok (.ifCond .eq 7, 3) := by decide +kernel
theorem dX10_likely_158 : decode cX10_likely 158 = .ok (.iconst 1, 1) := by decide +kernel
theorem dX10_likely_159 : decode cX10_likely 159 = .ok (.goto 6, 3) := by decide +kernel
theorem dX10_likely_162 : decode cX10_likely 162 = .ok (.iload_n 1, 1) := by decide +kernel
theorem dX10_likely_163 : decode cX10_likely 163 = .ok (.iconst 1, 1) := by decide +kernel
theorem dX10_likely_164 : decode cX10_likely 164 = .ok (.isub, 1) := by decide +kernel
theorem dX10_likely_165 : decode cX10_likely 165 = .ok (.i2l, 1) := by decide +kernel
theorem dX10_likely_166 : decode cX10_likely 166 = .ok (.lmul, 1) := by decide +kernel
theorem dX10_likely_167 : decode cX10_likely 167 = .ok (.lstore 9, 2) := by decide +kernel
theorem dX10_likely_169 : decode cX10_likely 169 = .ok (.iload 12, 2) := by decide +kernel
theorem dX10_likely_171 : decode cX10_likely 171 = .ok (.ifCond .eq 29, 3) := by decide +kernel
theorem dX10_likely_174 : decode cX10_likely 174 = .ok (.aload_n 0, 1) := by decide +kernel
theorem dX10_likely_175 : decode cX10_likely 175 = .ok (.aload_n 0, 1) := by decide +kernel
theorem dX10_likely_176 : decode cX10_likely 176 = .ok (.getfield 69, 3) := by decide +kernel
theorem dX10_likely_179 : decode cX10_likely 179 = .ok (.iload 11, 2) := by decide +kernel
theorem dX10_likely_181 : decode cX10_likely 181 = .ok (.iaload, 1) := by decide +kernel
theorem dX10_likely_182 : decode cX10_likely 182 = .ok (.iconst 0, 1) := by decide +kernel
theorem dX10_likely_183 : decode cX10_likely 183 = .ok (.iconst 0, 1) := by decide +kernel
theorem dX10_likely_184 : decode cX10_likely 184 = .ok (.invokevirtual 150, 3) := by decide +kernel
theorem dX10_likely_187 : decode cX10_likely 187 = .ok (.aload_n 0, 1) := by decide +kernel
theorem dX10_likely_188 : decode cX10_likely 188 = .ok (.aload_n 0, 1) := by decide +kernel
theorem dX10_likely_189 : decode cX10_likely 189 = .ok (.getfield 69, 3) := by decide +kernel
theorem dX10_likely_192 : decode cX10_likely 192 = .ok (.iload 11, 2) := by decide +kernel
theorem dX10_likely_194 : decode cX10_likely 194 = .ok (.iaload, 1) := by decide +kernel
theorem dX10_likely_195 : decode cX10_likely 195 = .ok (.iconst 1, 1) := by decide +kernel
theorem dX10_likely_196 : decode cX10_likely 196 = .ok (.iconst 0, 1) := by decide +kernel
theorem dX10_likely_197 : decode cX10_likely 197 = .ok (.invokevirtual 150, 3) := by decide +kernel
theorem dX10_likely_200 : decode cX10_likely 200 = .ok (.iinc 11 1, 3) := by decide +kernel
theorem dX10_likely_203 : decode cX10_likely 203 = .ok (.goto (-76), 3) := by decide +kernel
theorem dX10_likely_206 : decode cX10_likely 206 = .ok (.aload_n 0, 1) := by decide +kernel
theorem dX10_likely_207 : decode cX10_likely 207 = .ok (.invokevirtual 416, 3) := by decide +kernel
theorem dX10_likely_210 : decode cX10_likely 210 = .ok (.lload 6, 2) := by decide +kernel
theorem dX10_likely_212 : decode cX10_likely 212 = .ok (.aload_n 0, 1) := by decide +kernel
theorem dX10_likely_213 : decode cX10_likely 213 = .ok (.invokevirtual 419, 3) := by decide +kernel
theorem dX10_likely_216 : decode cX10_likely 216 = .ok (.ifCond .eq 8, 3) := by decide +kernel
theorem dX10_likely_219 : decode cX10_likely 219 = .ok (.lload 9, 2) := by decide +kernel
theorem dX10_likely_221 : decode cX10_likely 221 = .ok (.goto 4, 3) := by decide +kernel
theorem dX10_likely_224 : decode cX10_likely 224 = .ok (.lconst 0, 1) := by decide +kernel
theorem dX10_likely_225 : decode cX10_likely 225 = .ok (.ladd, 1) := by decide +kernel
theorem dX10_likely_226 : decode cX10_likely 226 = .ok (.lstore 6, 2) := by decide +kernel
theorem dX10_likely_228 : decode cX10_likely 228 = .ok (.iinc 8 1, 3) := by decide +kernel
theorem dX10_likely_231 : decode cX10_likely 231 = .ok (.goto (-126), 3) := by decide +kernel
theorem dX10_likely_234 : decode cX10_likely 234 = .ok (.aload_n 0, 1) := by decide +kernel
theorem dX10_likely_235 : decode cX10_likely 235 = .ok (.aload_n 0, 1) := by decide +kernel
theorem dX10_likely_236 : decode cX10_likely 236 = .ok (.getfield 15, 3) := by decide +kernel
theorem dX10_likely_239 : decode cX10_likely 239 = .ok (.putfield 9, 3) := by decide +kernel
theorem dX10_likely_242 : decode cX10_likely 242 = .ok (.lload 6, 2) := by decide +kernel
theorem dX10_likely_244 : decode cX10_likely 244 = .ok (.lload 4, 2) := by decide +kernel
theorem dX10_likely_246 : decode cX10_likely 246 = .ok (.iload_n 2, 1) := by decide +kernel
theorem dX10_likely_247 : decode cX10_likely 247 = .ok (.invokestatic 435, 3) := by decide +kernel
theorem dX10_likely_250 : decode cX10_likely 250 = .ok (.lreturn, 1) := by decide +kernel
theorem dX10_drawn_0 : decode cX10_drawn 0 = .ok (.iload_n 1, 1) := by decide +kernel
theorem dX10_drawn_1 : decode cX10_drawn 1 = .ok (.i2l, 1) := by decide +kernel
theorem dX10_drawn_2 : decode cX10_drawn 2 = .ok (.lconst 1, 1) := by decide +kernel
theorem dX10_drawn_3 : decode cX10_drawn 3 = .ok (.ldc2_w 431, 3) := by decide +kernel
theorem dX10_drawn_6 : decode cX10_drawn 6 = .ok (.invokestatic 87, 3) := by decide +kernel
theorem dX10_drawn_9 : decode cX10_drawn 9 = .ok (.ifCond .ne 6, 3) := by decide +kernel
theorem dX10_drawn_12 : decode cX10_drawn 12 = .ok (.bipush (-2), 2) := by decide +kernel
theorem dX10_drawn_14 : decode cX10_drawn 14 = .ok (.ireturn, 1) := by decide +kernel
theorem dX10_drawn_15 : decode cX10_drawn 15 = .ok (.aload_n 0, 1) := by decide +kernel
theorem dX10_drawn_16 : decode cX10_drawn 16 = .ok (.invokevirtual 409, 3) := by decide +kernel
theorem dX10_drawn_19 : decode cX10_drawn 19 = .ok (.ifCond .eq 6, 3) := by decide +kernel
theorem dX10_drawn_22 : decode cX10_drawn 22 = .ok (.bipush (-4), 2) := by decide +kernel
theorem dX10_drawn_24 : decode cX10_drawn 24 = .ok (.ireturn, 1) := by decide +kernel
theorem dX10_drawn_25 : decode cX10_drawn 25 = .ok (.iconst 0, 1) := by decide +kernel
theorem dX10_drawn_26 : decode cX10_drawn 26 = .ok (.istore_n 2, 1) := by decide +kernel
theorem dX10_drawn_27 : decode cX10_drawn 27 = .ok (.iconst 0, 1) := by decide +kernel
theorem dX10_drawn_28 : decode cX10_drawn 28 = .ok (.istore_n 3, 1) := by decide +kernel
theorem dX10_drawn_29 : decode cX10_drawn 29 = .ok (.iload_n 3, 1) := by decide +kernel
theorem dX10_drawn_30 : decode cX10_drawn 30 = .ok (.iload_n 1, 1) := by decide +kernel
theorem dX10_drawn_31 : decode cX10_drawn 31 = .ok (.if_icmp .ge 103, 3) := by decide +kernel
theorem dX10_drawn_34 : decode cX10_drawn 34 = .ok (.aload_n 0, 1) := by decide +kernel
theorem dX10_drawn_35 : decode cX10_drawn 35 = .ok (.getfield 15, 3) := by decide +kernel
theorem dX10_drawn_38 : decode cX10_drawn 38 = .ok (.iconst 4, 1) := by decide +kernel
theorem dX10_drawn_39 : decode cX10_drawn 39 = .ok (.aload_n 0, 1) := by decide +kernel
theorem dX10_drawn_40 : decode cX10_drawn 40 = .ok (.getfield 15, 3) := by decide +kernel
theorem dX10_drawn_43 : decode cX10_drawn 43 = .ok (.iconst 4, 1) := by decide +kernel
theorem dX10_drawn_44 : decode cX10_drawn 44 = .ok (.iaload, 1) := by decide +kernel
theorem dX10_drawn_45 : decode cX10_drawn 45 = .ok (.ldc_w 439, 3) := by decide +kernel
theorem dX10_drawn_48 : decode cX10_drawn 48 = .ok (.imul, 1) := by decide +kernel
theorem dX10_drawn_49 : decode cX10_drawn 49 = .ok (.sipush 12345, 3) := by decide +kernel
theorem dX10_drawn_52 : decode cX10_drawn 52 = .ok (.iadd, 1) := by decide +kernel
theorem dX10_drawn_53 : decode cX10_drawn 53 = .ok (.iastore, 1) := by decide +kernel
theorem dX10_drawn_54 : decode cX10_drawn 54 = .ok (.aload_n 0, 1) := by decide +kernel
theorem dX10_drawn_55 : decode cX10_drawn 55 = .ok (.aload_n 0, 1) := by decide +kernel
theorem dX10_drawn_56 : decode cX10_drawn 56 = .ok (.getfield 21, 3) := by decide +kernel
theorem dX10_drawn_59 : decode cX10_drawn 59 = .ok (.invokevirtual 412, 3) := by decide +kernel
theorem dX10_drawn_62 : decode cX10_drawn 62 = .ok (.aload_n 0, 1) := by decide +kernel
theorem dX10_drawn_63 : decode cX10_drawn 63 = .ok (.aload_n 0, 1) := by decide +kernel
theorem dX10_drawn_64 : decode cX10_drawn 64 = .ok (.getfield 15, 3) := by decide +kernel
theorem dX10_drawn_67 : decode cX10_drawn 67 = .ok (.iconst 4, 1) := by decide +kernel
theorem dX10_drawn_68 : decode cX10_drawn 68 = .ok (.iaload, 1) := by decide +kernel
theorem dX10_drawn_69 : decode cX10_drawn 69 = .ok (.bipush 16, 2) := by decide +kernel
theorem dX10_drawn_71 : decode cX10_drawn 71 = .ok (.iushr, 1) := by decide +kernel
theorem dX10_drawn_72 : decode cX10_drawn 72 = .ok (.bipush 101, 2) := by decide +kernel
theorem dX10_drawn_74 : decode cX10_drawn 74 = .ok (.irem, 1) := by decide +kernel
theorem dX10_drawn_75 : decode cX10_drawn 75 = .ok (.aload_n 0, 1) := by decide +kernel
theorem dX10_drawn_76 : decode cX10_drawn 76 = .ok (.getfield 9, 3) := by decide +kernel
theorem dX10_drawn_79 : decode cX10_drawn 79 = .ok (.iconst 2, 1) := by decide +kernel
theorem dX10_drawn_80 : decode cX10_drawn 80 = .ok (.iaload, 1) := by decide +kernel
theorem dX10_drawn_81 : decode cX10_drawn 81 = .ok (.invokevirtual 165, 3) := by decide +kernel
theorem dX10_drawn_84 : decode cX10_drawn 84 = .ok (.aload_n 0, 1) := by decide +kernel
theorem dX10_drawn_85 : decode cX10_drawn 85 = .ok (.invokevirtual 416, 3) := by decide +kernel
theorem dX10_drawn_88 : decode cX10_drawn 88 = .ok (.iconst 0, 1) := by decide +kernel
theorem dX10_drawn_89 : decode cX10_drawn 89 = .ok (.istore 4, 2) := by decide +kernel
theorem dX10_drawn_91 : decode cX10_drawn 91 = .ok (.iload 4, 2) := by decide +kernel
theorem dX10_drawn_93 : decode cX10_drawn 93 = .ok (.bipush 24, 2) := by decide +kernel
theorem dX10_drawn_95 : decode cX10_drawn 95 = .ok (.if_icmp .ge 33, 3) := by decide +kernel
theorem dX10_drawn_98 : decode cX10_drawn 98 = .ok (.iload_n 2, 1) := by decide +kernel
theorem dX10_drawn_99 : decode cX10_drawn 99 = .ok (.aload_n 0, 1) := by decide +kernel
theorem dX10_drawn_100 : decode cX10_drawn 100 = .ok (.iload 4, 2) := by decide +kernel
theorem dX10_drawn_102 : decode cX10_drawn 102 = .ok (.invokevirtual 127, 3) := by decide +kernel
theorem dX10_drawn_105 : decode cX10_drawn 105 = .ok (.ifCond .eq 14, 3) := by decide +kernel
theorem dX10_drawn_108 : decode cX10_drawn 108 = .ok (.aload_n 0, 1) := by decide +kernel
theorem dX10_drawn_109 : decode cX10_drawn 109 = .ok (.iload 4, 2) := by decide +kernel
theorem dX10_drawn_111 : decode cX10_drawn 111 = .ok (.bipush 34, 2) := by decide +kernel
theorem dX10_drawn_113 : decode cX10_drawn 113 = .ok (.invokevirtual 91, 3) := by decide +kernel
theorem dX10_drawn_116 : decode cX10_drawn 116 = .ok (.goto 4, 3) := by decide +kernel
theorem dX10_drawn_119 : decode cX10_drawn 119 = .ok (.iconst 0, 1) := by decide +kernel
theorem dX10_drawn_120 : decode cX10_drawn 120 = .ok (.iadd, 1) := by decide +kernel
theorem dX10_drawn_121 : decode cX10_drawn 121 = .ok (.istore_n 2, 1) := by decide +kernel
theorem dX10_drawn_122 : decode cX10_drawn 122 = .ok (.iinc 4 1, 3) := by decide +kernel
theorem dX10_drawn_125 : decode cX10_drawn 125 = .ok (.goto (-34), 3) := by decide +kernel
theorem dX10_drawn_128 : decode cX10_drawn 128 = .ok (.iinc 3 1, 3) := by decide +kernel
theorem dX10_drawn_131 : decode cX10_drawn 131 = .ok (.goto (-102), 3) := by decide +kernel
theorem dX10_drawn_134 : decode cX10_drawn 134 = .ok (.aload_n 0, 1) := by decide +kernel
theorem dX10_drawn_135 : decode cX10_drawn 135 = .ok (.aload_n 0, 1) := by decide +kernel
theorem dX10_drawn_136 : decode cX10_drawn 136 = .ok (.getfield 15, 3) := by decide +kernel
theorem dX10_drawn_139 : decode cX10_drawn 139 = .ok (.putfield 9, 3) := by decide +kernel
theorem dX10_drawn_142 : decode cX10_drawn 142 = .ok (.iload_n 2, 1) := by decide +kernel
theorem dX10_drawn_143 : decode cX10_drawn 143 = .ok (.ireturn, 1) := by decide +kernel
theorem dX10_seed_0 : decode cX10_seed 0 = .ok (.aload_n 0, 1) := by decide +kernel
theorem dX10_seed_1 : decode cX10_seed 1 = .ok (.getfield 9, 3) := by decide +kernel
theorem dX10_seed_4 : decode cX10_seed 4 = .ok (.iconst 4, 1) := by decide +kernel
theorem dX10_seed_5 : decode cX10_seed 5 = .ok (.iaload, 1) := by decide +kernel
theorem dX10_seed_6 : decode cX10_seed 6 = .ok (.istore_n 2, 1) := by decide +kernel
theorem dX10_seed_7 : decode cX10_seed 7 = .ok (.aload_n 0, 1) := by decide +kernel
theorem dX10_seed_8 : decode cX10_seed 8 = .ok (.getfield 9, 3) := by decide +kernel
theorem dX10_seed_11 : decode cX10_seed 11 = .ok (.iconst 4, 1) := by decide +kernel
theorem dX10_seed_12 : decode cX10_seed 12 = .ok (.iload_n 1, 1) := by decide +kernel
theorem dX10_seed_13 : decode cX10_seed 13 = .ok (.iastore, 1) := by decide +kernel
theorem dX10_seed_14 : decode cX10_seed 14 = .ok (.iload_n 2, 1) := by decide +kernel
theorem dX10_seed_15 : decode cX10_seed 15 = .ok (.ireturn, 1) := by decide +kernel
theorem dX10_mean_0 : decode cX10_mean 0 = .ok (.iload_n 1, 1) := by decide +kernel
theorem dX10_mean_1 : decode cX10_mean 1 = .ok (.i2l, 1) := by decide +kernel
theorem dX10_mean_2 : decode cX10_mean 2 = .ok (.lconst 0, 1) := by decide +kernel
theorem dX10_mean_3 : decode cX10_mean 3 = .ok (.lconst 1, 1) := by decide +kernel
theorem dX10_mean_4 : decode cX10_mean 4 = .ok (.invokestatic 87, 3) := by decide +kernel
theorem dX10_mean_7 : decode cX10_mean 7 = .ok (.ifCond .eq 10, 3) := by decide +kernel
theorem dX10_mean_10 : decode cX10_mean 10 = .ok (.aload_n 0, 1) := by decide +kernel
theorem dX10_mean_11 : decode cX10_mean 11 = .ok (.invokevirtual 405, 3) := by decide +kernel
theorem dX10_mean_14 : decode cX10_mean 14 = .ok (.ifCond .ne 7, 3) := by decide +kernel
theorem dX10_mean_17 : decode cX10_mean 17 = .ok (.ldc2_w 433, 3) := by decide +kernel
theorem dX10_mean_20 : decode cX10_mean 20 = .ok (.lreturn, 1) := by decide +kernel
theorem dX10_mean_21 : decode cX10_mean 21 = .ok (.lconst 0, 1) := by decide +kernel
theorem dX10_mean_22 : decode cX10_mean 22 = .ok (.lstore_n 2, 1) := by decide +kernel
theorem dX10_mean_23 : decode cX10_mean 23 = .ok (.iconst 0, 1) := by decide +kernel
theorem dX10_mean_24 : decode cX10_mean 24 = .ok (.istore 4, 2) := by decide +kernel
theorem dX10_mean_26 : decode cX10_mean 26 = .ok (.iload 4, 2) := by decide +kernel
theorem dX10_mean_28 : decode cX10_mean 28 = .ok (.bipush 24, 2) := by decide +kernel
theorem dX10_mean_30 : decode cX10_mean 30 = .ok (.if_icmp .ge 34, 3) := by decide +kernel
theorem dX10_mean_33 : decode cX10_mean 33 = .ok (.lload_n 2, 1) := by decide +kernel
theorem dX10_mean_34 : decode cX10_mean 34 = .ok (.aload_n 0, 1) := by decide +kernel
theorem dX10_mean_35 : decode cX10_mean 35 = .ok (.iload 4, 2) := by decide +kernel
theorem dX10_mean_37 : decode cX10_mean 37 = .ok (.invokevirtual 127, 3) := by decide +kernel
theorem dX10_mean_40 : decode cX10_mean 40 = .ok (.ifCond .eq 15, 3) := by decide +kernel
theorem dX10_mean_43 : decode cX10_mean 43 = .ok (.aload_n 0, 1) := by decide +kernel
theorem dX10_mean_44 : decode cX10_mean 44 = .ok (.iload 4, 2) := by decide +kernel
theorem dX10_mean_46 : decode cX10_mean 46 = .ok (.bipush 32, 2) := by decide +kernel
theorem dX10_mean_48 : decode cX10_mean 48 = .ok (.invokevirtual 91, 3) := by decide +kernel
theorem dX10_mean_51 : decode cX10_mean 51 = .ok (.i2l, 1) := by decide +kernel
theorem dX10_mean_52 : decode cX10_mean 52 = .ok (.goto 4, 3) := by decide +kernel
theorem dX10_mean_55 : decode cX10_mean 55 = .ok (.lconst 0, 1) := by decide +kernel
theorem dX10_mean_56 : decode cX10_mean 56 = .ok (.ladd, 1) := by decide +kernel
theorem dX10_mean_57 : decode cX10_mean 57 = .ok (.lstore_n 2, 1) := by decide +kernel
theorem dX10_mean_58 : decode cX10_mean 58 = .ok (.iinc 4 1, 3) := by decide +kernel
theorem dX10_mean_61 : decode cX10_mean 61 = .ok (.goto (-35), 3) := by decide +kernel
theorem dX10_mean_64 : decode cX10_mean 64 = .ok (.lload_n 2, 1) := by decide +kernel
theorem dX10_mean_65 : decode cX10_mean 65 = .ok (.aload_n 0, 1) := by decide +kernel
theorem dX10_mean_66 : decode cX10_mean 66 = .ok (.invokevirtual 405, 3) := by decide +kernel
theorem dX10_mean_69 : decode cX10_mean 69 = .ok (.i2l, 1) := by decide +kernel
theorem dX10_mean_70 : decode cX10_mean 70 = .ok (.iload_n 1, 1) := by decide +kernel
theorem dX10_mean_71 : decode cX10_mean 71 = .ok (.invokestatic 435, 3) := by decide +kernel
theorem dX10_mean_74 : decode cX10_mean 74 = .ok (.lreturn, 1) := by decide +kernel
theorem dX10_taken_0 : decode cX10_taken 0 = .ok (.iload_n 2, 1) := by decide +kernel
theorem dX10_taken_1 : decode cX10_taken 1 = .ok (.i2l, 1) := by decide +kernel
theorem dX10_taken_2 : decode cX10_taken 2 = .ok (.lconst 0, 1) := by decide +kernel
theorem dX10_taken_3 : decode cX10_taken 3 = .ok (.ldc2_w 130, 3) := by decide +kernel
theorem dX10_taken_6 : decode cX10_taken 6 = .ok (.invokestatic 87, 3) := by decide +kernel
theorem dX10_taken_9 : decode cX10_taken 9 = .ok (.ifCond .ne 6, 3) := by decide +kernel
theorem dX10_taken_12 : decode cX10_taken 12 = .ok (.bipush (-2), 2) := by decide +kernel
theorem dX10_taken_14 : decode cX10_taken 14 = .ok (.ireturn, 1) := by decide +kernel
theorem dX10_taken_15 : decode cX10_taken 15 = .ok (.aload_n 0, 1) := by decide +kernel
theorem dX10_taken_16 : decode cX10_taken 16 = .ok (.iload_n 1, 1) := by decide +kernel
theorem dX10_taken_17 : decode cX10_taken 17 = .ok (.invokevirtual 127, 3) := by decide +kernel
theorem dX10_taken_20 : decode cX10_taken 20 = .ok (.ifCond .ne 6, 3) := by decide +kernel
theorem dX10_taken_23 : decode cX10_taken 23 = .ok (.bipush (-11), 2) := by decide +kernel
theorem dX10_taken_25 : decode cX10_taken 25 = .ok (.ireturn, 1) := by decide +kernel
theorem dX10_taken_26 : decode cX10_taken 26 = .ok (.aload_n 0, 1) := by decide +kernel
theorem dX10_taken_27 : decode cX10_taken 27 = .ok (.iload_n 1, 1) := by decide +kernel
theorem dX10_taken_28 : decode cX10_taken 28 = .ok (.iconst 1, 1) := by decide +kernel
theorem dX10_taken_29 : decode cX10_taken 29 = .ok (.invokevirtual 91, 3) := by decide +kernel
theorem dX10_taken_32 : decode cX10_taken 32 = .ok (.istore_n 3, 1) := by decide +kernel
theorem dX10_taken_33 : decode cX10_taken 33 = .ok (.iload_n 3, 1) := by decide +kernel
theorem dX10_taken_34 : decode cX10_taken 34 = .ok (.bipush 9, 2) := by decide +kernel
theorem dX10_taken_36 : decode cX10_taken 36 = .ok (.if_icmp .ne 9, 3) := by decide +kernel
theorem dX10_taken_39 : decode cX10_taken 39 = .ok (.iload_n 2, 1) := by decide +kernel
theorem dX10_taken_40 : decode cX10_taken 40 = .ok (.bipush 8, 2) := by decide +kernel
theorem dX10_taken_42 : decode cX10_taken 42 = .ok (.if_icmp .eq 23, 3) := by decide +kernel
theorem dX10_taken_45 : decode cX10_taken 45 = .ok (.iload_n 3, 1) := by decide +kernel
theorem dX10_taken_46 : decode cX10_taken 46 = .ok (.iconst 5, 1) := by decide +kernel
theorem dX10_taken_47 : decode cX10_taken 47 = .ok (.if_icmp .ne 8, 3) := by decide +kernel
theorem dX10_taken_50 : decode cX10_taken 50 = .ok (.iload_n 2, 1) := by decide +kernel
theorem dX10_taken_51 : decode cX10_taken 51 = .ok (.iconst 4, 1) := by decide +kernel
theorem dX10_taken_52 : decode cX10_taken 52 = .ok (.if_icmp .eq 13, 3) := by decide +kernel
theorem dX10_taken_55 : decode cX10_taken 55 = .ok (.iload_n 3, 1) := by decide +kernel
theorem dX10_taken_56 : decode cX10_taken 56 = .ok (.iconst 3, 1) := by decide +kernel
theorem dX10_taken_57 : decode cX10_taken 57 = .ok (.if_icmp .ne 12, 3) := by decide +kernel
theorem dX10_taken_60 : decode cX10_taken 60 = .ok (.iload_n 2, 1) := by decide +kernel
theorem dX10_taken_61 : decode cX10_taken 61 = .ok (.iconst 2, 1) := by decide +kernel
theorem dX10_taken_62 : decode cX10_taken 62 = .ok (.if_icmp .ne 7, 3) := by decide +kernel
theorem dX10_taken_65 : decode cX10_taken 65 = .ok (.iconst 1, 1) := by decide +kernel
theorem dX10_taken_66 : decode cX10_taken 66 = .ok (.goto 4, 3) := by decide +kernel
theorem dX10_taken_69 : decode cX10_taken 69 = .ok (.iconst 0, 1) := by decide +kernel
theorem dX10_taken_70 : decode cX10_taken 70 = .ok (.istore 4, 2) := by decide +kernel
theorem dX10_taken_72 : decode cX10_taken 72 = .ok (.iload_n 3, 1) := by decide +kernel
theorem dX10_taken_73 : decode cX10_taken 73 = .ok (.iload_n 2, 1) := by decide +kernel
theorem dX10_taken_74 : decode cX10_taken 74 = .ok (.if_icmp .eq 8, 3) := by decide +kernel
theorem dX10_taken_77 : decode cX10_taken 77 = .ok (.iload 4, 2) := by decide +kernel
theorem dX10_taken_79 : decode cX10_taken 79 = .ok (.ifCond .eq 7, 3) := by decide +kernel
theorem dX10_taken_82 : decode cX10_taken 82 = .ok (.iload_n 3, 1) := by decide +kernel
theorem dX10_taken_83 : decode cX10_taken 83 = .ok (.goto 5, 3) := by decide +kernel
theorem dX10_taken_86 : decode cX10_taken 86 = .ok (.bipush (-12), 2) := by decide +kernel
theorem dX10_taken_88 : decode cX10_taken 88 = .ok (.ireturn, 1) := by decide +kernel
theorem dX10_isTape_0 : decode cX10_isTape 0 = .ok (.iload_n 0, 1) := by decide +kernel
theorem dX10_isTape_1 : decode cX10_isTape 1 = .ok (.i2l, 1) := by decide +kernel
theorem dX10_isTape_2 : decode cX10_isTape 2 = .ok (.lconst 0, 1) := by decide +kernel
theorem dX10_isTape_3 : decode cX10_isTape 3 = .ok (.ldc2_w 332, 3) := by decide +kernel
theorem dX10_isTape_6 : decode cX10_isTape 6 = .ok (.invokestatic 87, 3) := by decide +kernel
theorem dX10_isTape_9 : decode cX10_isTape 9 = .ok (.ireturn, 1) := by decide +kernel
theorem dX10_narrowed_0 : decode cX10_narrowed 0 = .ok (.iload_n 2, 1) := by decide +kernel
theorem dX10_narrowed_1 : decode cX10_narrowed 1 = .ok (.ifCond .ne 10, 3) := by decide +kernel
theorem dX10_narrowed_4 : decode cX10_narrowed 4 = .ok (.lload_n 0, 1) := by decide +kernel
theorem dX10_narrowed_5 : decode cX10_narrowed 5 = .ok (.l2i, 1) := by decide +kernel
theorem dX10_narrowed_6 : decode cX10_narrowed 6 = .ok (.i2b, 1) := by decide +kernel
theorem dX10_narrowed_7 : decode cX10_narrowed 7 = .ok (.i2l, 1) := by decide +kernel
theorem dX10_narrowed_8 : decode cX10_narrowed 8 = .ok (.goto 27, 3) := by decide +kernel
theorem dX10_narrowed_11 : decode cX10_narrowed 11 = .ok (.iload_n 2, 1) := by decide +kernel
theorem dX10_narrowed_12 : decode cX10_narrowed 12 = .ok (.iconst 1, 1) := by decide +kernel
theorem dX10_narrowed_13 : decode cX10_narrowed 13 = .ok (.if_icmp .ne 10, 3) := by decide +kernel
theorem dX10_narrowed_16 : decode cX10_narrowed 16 = .ok (.lload_n 0, 1) := by decide +kernel
theorem dX10_narrowed_17 : decode cX10_narrowed 17 = .ok (.l2i, 1) := by decide +kernel
theorem dX10_narrowed_18 : decode cX10_narrowed 18 = .ok (.i2s, 1) := by decide +kernel
theorem dX10_narrowed_19 : decode cX10_narrowed 19 = .ok (.i2l, 1) := by decide +kernel
theorem dX10_narrowed_20 : decode cX10_narrowed 20 = .ok (.goto 15, 3) := by decide +kernel
theorem dX10_narrowed_23 : decode cX10_narrowed 23 = .ok (.iload_n 2, 1) := by decide +kernel
theorem dX10_narrowed_24 : decode cX10_narrowed 24 = .ok (.iconst 2, 1) := by decide +kernel
theorem dX10_narrowed_25 : decode cX10_narrowed 25 = .ok (.if_icmp .ne 9, 3) := by decide +kernel
theorem dX10_narrowed_28 : decode cX10_narrowed 28 = .ok (.lload_n 0, 1) := by decide +kernel
theorem dX10_narrowed_29 : decode cX10_narrowed 29 = .ok (.l2i, 1) := by decide +kernel
theorem dX10_narrowed_30 : decode cX10_narrowed 30 = .ok (.i2l, 1) := by decide +kernel
theorem dX10_narrowed_31 : decode cX10_narrowed 31 = .ok (.goto 4, 3) := by decide +kernel
theorem dX10_narrowed_34 : decode cX10_narrowed 34 = .ok (.lload_n 0, 1) := by decide +kernel
theorem dX10_narrowed_35 : decode cX10_narrowed 35 = .ok (.lreturn, 1) := by decide +kernel
theorem dX10_judge_0 : decode cX10_judge 0 = .ok (.iload_n 1, 1) := by decide +kernel
theorem dX10_judge_1 : decode cX10_judge 1 = .ok (.invokestatic 440, 3) := by decide +kernel
theorem dX10_judge_4 : decode cX10_judge 4 = .ok (.ifCond .ne 5, 3) := by decide +kernel
theorem dX10_judge_7 : decode cX10_judge 7 = .ok (.iconst (-1), 1) := by decide +kernel
theorem dX10_judge_8 : decode cX10_judge 8 = .ok (.ireturn, 1) := by decide +kernel
theorem dX10_judge_9 : decode cX10_judge 9 = .ok (.aload_n 0, 1) := by decide +kernel
theorem dX10_judge_10 : decode cX10_judge 10 = .ok (.getfield 72, 3) := by decide +kernel
theorem dX10_judge_13 : decode cX10_judge 13 = .ok (.iload_n 1, 1) := by decide +kernel
theorem dX10_judge_14 : decode cX10_judge 14 = .ok (.iaload, 1) := by decide +kernel
theorem dX10_judge_15 : decode cX10_judge 15 = .ok (.ifCond .eq 16, 3) := by decide +kernel
theorem dX10_judge_18 : decode cX10_judge 18 = .ok (.aload_n 0, 1) := by decide +kernel
theorem dX10_judge_19 : decode cX10_judge 19 = .ok (.getfield 72, 3) := by decide +kernel
theorem dX10_judge_22 : decode cX10_judge 22 = .ok (.iload_n 1, 1) := by decide +kernel
theorem dX10_judge_23 : decode cX10_judge 23 = .ok (.iaload, 1) := by decide +kernel
theorem dX10_judge_24 : decode cX10_judge 24 = .ok (.iconst 3, 1) := by decide +kernel
theorem dX10_judge_25 : decode cX10_judge 25 = .ok (.if_icmp .eq 6, 3) := by decide +kernel
theorem dX10_judge_28 : decode cX10_judge 28 = .ok (.bipush (-12), 2) := by decide +kernel
theorem dX10_judge_30 : decode cX10_judge 30 = .ok (.ireturn, 1) := by decide +kernel
theorem dX10_judge_31 : decode cX10_judge 31 = .ok (.iconst 0, 1) := by decide +kernel
theorem dX10_judge_32 : decode cX10_judge 32 = .ok (.istore_n 3, 1) := by decide +kernel
theorem dX10_judge_33 : decode cX10_judge 33 = .ok (.iconst 0, 1) := by decide +kernel
theorem dX10_judge_34 : decode cX10_judge 34 = .ok (.istore 4, 2) := by decide +kernel
theorem dX10_judge_36 : decode cX10_judge 36 = .ok (.iload 4, 2) := by decide +kernel
theorem dX10_judge_38 : decode cX10_judge 38 = .ok (.bipush 24, 2) := by decide +kernel
theorem dX10_judge_40 : decode cX10_judge 40 = .ok (.if_icmp .ge 75, 3) := by decide +kernel
theorem dX10_judge_43 : decode cX10_judge 43 = .ok (.aload_n 0, 1) := by decide +kernel
theorem dX10_judge_44 : decode cX10_judge 44 = .ok (.iload 4, 2) := by decide +kernel
theorem dX10_judge_46 : decode cX10_judge 46 = .ok (.invokevirtual 127, 3) := by decide +kernel
theorem dX10_judge_49 : decode cX10_judge 49 = .ok (.ifCond .eq 60, 3) := by decide +kernel
theorem dX10_judge_52 : decode cX10_judge 52 = .ok (.iload_n 2, 1) := by decide +kernel
theorem dX10_judge_53 : decode cX10_judge 53 = .ok (.ifCond .lt 19, 3) := by decide +kernel
theorem dX10_judge_56 : decode cX10_judge 56 = .ok (.iload_n 2, 1) := by decide +kernel
theorem dX10_judge_57 : decode cX10_judge 57 = .ok (.i2l, 1) := by decide +kernel
theorem dX10_judge_58 : decode cX10_judge 58 = .ok (.iload_n 3, 1) := by decide +kernel
theorem dX10_judge_59 : decode cX10_judge 59 = .ok (.i2l, 1) := by decide +kernel
theorem dX10_judge_60 : decode cX10_judge 60 = .ok (.ladd, 1) := by decide +kernel
theorem dX10_judge_61 : decode cX10_judge 61 = .ok (.aload_n 0, 1) := by decide +kernel
theorem dX10_judge_62 : decode cX10_judge 62 = .ok (.getfield 75, 3) := by decide +kernel
theorem dX10_judge_65 : decode cX10_judge 65 = .ok (.iload_n 1, 1) := by decide +kernel
theorem dX10_judge_66 : decode cX10_judge 66 = .ok (.iaload, 1) := by decide +kernel
theorem dX10_judge_67 : decode cX10_judge 67 = .ok (.i2l, 1) := by decide +kernel
theorem dX10_judge_68 : decode cX10_judge 68 = .ok (.lcmp, 1) := by decide +kernel
theorem dX10_judge_69 : decode cX10_judge 69 = .ok (.ifCond .lt 8, 3) := by decide +kernel
theorem dX10_judge_72 : decode cX10_judge 72 = .ok (.bipush 100, 2) := by decide +kernel
theorem dX10_judge_74 : decode cX10_judge 74 = .ok (.iload_n 3, 1) := by decide +kernel
theorem dX10_judge_75 : decode cX10_judge 75 = .ok (.iadd, 1) := by decide +kernel
theorem dX10_judge_76 : decode cX10_judge 76 = .ok (.ireturn, 1) := by decide +kernel
theorem dX10_judge_77 : decode cX10_judge 77 = .ok (.aload_n 0, 1) := by decide +kernel
theorem dX10_judge_78 : decode cX10_judge 78 = .ok (.getfield 78, 3) := by decide +kernel
theorem dX10_judge_81 : decode cX10_judge 81 = .ok (.bipush 60, 2) := by decide +kernel
theorem dX10_judge_83 : decode cX10_judge 83 = .ok (.iload_n 1, 1) := by decide +kernel
theorem dX10_judge_84 : decode cX10_judge 84 = .ok (.imul, 1) := by decide +kernel
theorem dX10_judge_85 : decode cX10_judge 85 = .ok (.iload_n 2, 1) := by decide +kernel
theorem dX10_judge_86 : decode cX10_judge 86 = .ok (.iadd, 1) := by decide +kernel
theorem dX10_judge_87 : decode cX10_judge 87 = .ok (.iload_n 3, 1) := by decide +kernel
theorem dX10_judge_88 : decode cX10_judge 88 = .ok (.iadd, 1) := by decide +kernel
theorem dX10_judge_89 : decode cX10_judge 89 = .ok (.laload, 1) := by decide +kernel
theorem dX10_judge_90 : decode cX10_judge 90 = .ok (.aload_n 0, 1) := by decide +kernel
theorem dX10_judge_91 : decode cX10_judge 91 = .ok (.iload 4, 2) := by decide +kernel
theorem dX10_judge_93 : decode cX10_judge 93 = .ok (.bipush 32, 2) := by decide +kernel
theorem dX10_judge_95 : decode cX10_judge 95 = .ok (.invokevirtual 91, 3) := by decide +kernel
theorem dX10_judge_98 : decode cX10_judge 98 = .ok (.i2l, 1) := by decide +kernel
theorem dX10_judge_99 : decode cX10_judge 99 = .ok (.lcmp, 1) := by decide +kernel
theorem dX10_judge_100 : decode cX10_judge 100 = .ok (.ifCond .eq 6, 3) := by decide +kernel
theorem dX10_judge_103 : decode cX10_judge 103 = .ok (.iload 4, 2) := by decide +kernel
theorem dX10_judge_105 : decode cX10_judge 105 = .ok (.ireturn, 1) := by decide +kernel
theorem dX10_judge_106 : decode cX10_judge 106 = .ok (.iinc 3 1, 3) := by decide +kernel
theorem dX10_judge_109 : decode cX10_judge 109 = .ok (.iinc 4 1, 3) := by decide +kernel
theorem dX10_judge_112 : decode cX10_judge 112 = .ok (.goto (-76), 3) := by decide +kernel
theorem dX10_judge_115 : decode cX10_judge 115 = .ok (.bipush (-5), 2) := by decide +kernel
theorem dX10_judge_117 : decode cX10_judge 117 = .ok (.ireturn, 1) := by decide +kernel
theorem dX10_tape_0 : decode cX10_tape 0 = .ok (.iload_n 1, 1) := by decide +kernel
theorem dX10_tape_1 : decode cX10_tape 1 = .ok (.invokestatic 440, 3) := by decide +kernel
theorem dX10_tape_4 : decode cX10_tape 4 = .ok (.ifCond .ne 5, 3) := by decide +kernel
theorem dX10_tape_7 : decode cX10_tape 7 = .ok (.iconst (-1), 1) := by decide +kernel
theorem dX10_tape_8 : decode cX10_tape 8 = .ok (.ireturn, 1) := by decide +kernel
theorem dX10_tape_9 : decode cX10_tape 9 = .ok (.iload_n 2, 1) := by decide +kernel
theorem dX10_tape_10 : decode cX10_tape 10 = .ok (.i2l, 1) := by decide +kernel
theorem dX10_tape_11 : decode cX10_tape 11 = .ok (.ldc2_w 443, 3) := by decide +kernel
theorem dX10_tape_14 : decode cX10_tape 14 = .ok (.ldc2_w 332, 3) := by decide +kernel
theorem dX10_tape_17 : decode cX10_tape 17 = .ok (.invokestatic 87, 3) := by decide +kernel
theorem dX10_tape_20 : decode cX10_tape 20 = .ok (.ifCond .eq 13, 3) := by decide +kernel
theorem dX10_tape_23 : decode cX10_tape 23 = .ok (.iload_n 2, 1) := by decide +kernel
theorem dX10_tape_24 : decode cX10_tape 24 = .ok (.ifCond .lt 12, 3) := by decide +kernel
theorem dX10_tape_27 : decode cX10_tape 27 = .ok (.iload_n 3, 1) := by decide +kernel
theorem dX10_tape_28 : decode cX10_tape 28 = .ok (.bipush 60, 2) := by decide +kernel
theorem dX10_tape_30 : decode cX10_tape 30 = .ok (.if_icmp .le 6, 3) := by decide +kernel
theorem dX10_tape_33 : decode cX10_tape 33 = .ok (.bipush (-2), 2) := by decide +kernel
theorem dX10_tape_35 : decode cX10_tape 35 = .ok (.ireturn, 1) := by decide +kernel
theorem dX10_tape_36 : decode cX10_tape 36 = .ok (.iload_n 2, 1) := by decide +kernel
theorem dX10_tape_37 : decode cX10_tape 37 = .ok (.ifCond .lt 10, 3) := by decide +kernel
theorem dX10_tape_40 : decode cX10_tape 40 = .ok (.iload_n 3, 1) := by decide +kernel
theorem dX10_tape_41 : decode cX10_tape 41 = .ok (.ifCond .ge 6, 3) := by decide +kernel
theorem dX10_tape_44 : decode cX10_tape 44 = .ok (.bipush (-14), 2) := by decide +kernel
theorem dX10_tape_46 : decode cX10_tape 46 = .ok (.ireturn, 1) := by decide +kernel
theorem dX10_tape_47 : decode cX10_tape 47 = .ok (.aload_n 0, 1) := by decide +kernel
theorem dX10_tape_48 : decode cX10_tape 48 = .ok (.getfield 72, 3) := by decide +kernel
theorem dX10_tape_51 : decode cX10_tape 51 = .ok (.iload_n 1, 1) := by decide +kernel
theorem dX10_tape_52 : decode cX10_tape 52 = .ok (.iload_n 2, 1) := by decide +kernel
theorem dX10_tape_53 : decode cX10_tape 53 = .ok (.iconst 1, 1) := by decide +kernel
theorem dX10_tape_54 : decode cX10_tape 54 = .ok (.iadd, 1) := by decide +kernel
theorem dX10_tape_55 : decode cX10_tape 55 = .ok (.iastore, 1) := by decide +kernel
theorem dX10_tape_56 : decode cX10_tape 56 = .ok (.aload_n 0, 1) := by decide +kernel
theorem dX10_tape_57 : decode cX10_tape 57 = .ok (.getfield 75, 3) := by decide +kernel
theorem dX10_tape_60 : decode cX10_tape 60 = .ok (.iload_n 1, 1) := by decide +kernel
theorem dX10_tape_61 : decode cX10_tape 61 = .ok (.iload_n 2, 1) := by decide +kernel
theorem dX10_tape_62 : decode cX10_tape 62 = .ok (.ifCond .ge 7, 3) := by decide +kernel
theorem dX10_tape_65 : decode cX10_tape 65 = .ok (.iconst 0, 1) := by decide +kernel
theorem dX10_tape_66 : decode cX10_tape 66 = .ok (.goto 4, 3) := by decide +kernel
theorem dX10_tape_69 : decode cX10_tape 69 = .ok (.iload_n 3, 1) := by decide +kernel
theorem dX10_tape_70 : decode cX10_tape 70 = .ok (.iastore, 1) := by decide +kernel
theorem dX10_tape_71 : decode cX10_tape 71 = .ok (.iconst 0, 1) := by decide +kernel
theorem dX10_tape_72 : decode cX10_tape 72 = .ok (.istore 4, 2) := by decide +kernel
theorem dX10_tape_74 : decode cX10_tape 74 = .ok (.iload 4, 2) := by decide +kernel
theorem dX10_tape_76 : decode cX10_tape 76 = .ok (.bipush 60, 2) := by decide +kernel
theorem dX10_tape_78 : decode cX10_tape 78 = .ok (.if_icmp .ge 22, 3) := by decide +kernel
theorem dX10_tape_81 : decode cX10_tape 81 = .ok (.aload_n 0, 1) := by decide +kernel
theorem dX10_tape_82 : decode cX10_tape 82 = .ok (.getfield 78, 3) := by decide +kernel
theorem dX10_tape_85 : decode cX10_tape 85 = .ok (.bipush 60, 2) := by decide +kernel
theorem dX10_tape_87 : decode cX10_tape 87 = .ok (.iload_n 1, 1) := by decide +kernel
theorem dX10_tape_88 : decode cX10_tape 88 = .ok (.imul, 1) := by decide +kernel
theorem dX10_tape_89 : decode cX10_tape 89 = .ok (.iload 4, 2) := by decide +kernel
theorem dX10_tape_91 : decode cX10_tape 91 = .ok (.iadd, 1) := by decide +kernel
theorem dX10_tape_92 : decode cX10_tape 92 = .ok (.lconst 0, 1) := by decide +kernel
theorem dX10_tape_93 : decode cX10_tape 93 = .ok (.lastore, 1) := by decide +kernel
theorem dX10_tape_94 : decode cX10_tape 94 = .ok (.iinc 4 1, 3) := by decide +kernel
theorem dX10_tape_97 : decode cX10_tape 97 = .ok (.goto (-23), 3) := by decide +kernel
theorem dX10_tape_100 : decode cX10_tape 100 = .ok (.iconst 1, 1) := by decide +kernel
theorem dX10_tape_101 : decode cX10_tape 101 = .ok (.ireturn, 1) := by decide +kernel
theorem dX10_item_0 : decode cX10_item 0 = .ok (.iload_n 1, 1) := by decide +kernel
theorem dX10_item_1 : decode cX10_item 1 = .ok (.invokestatic 440, 3) := by decide +kernel
theorem dX10_item_4 : decode cX10_item 4 = .ok (.ifCond .ne 5, 3) := by decide +kernel
theorem dX10_item_7 : decode cX10_item 7 = .ok (.iconst (-1), 1) := by decide +kernel
theorem dX10_item_8 : decode cX10_item 8 = .ok (.ireturn, 1) := by decide +kernel
theorem dX10_item_9 : decode cX10_item 9 = .ok (.aload_n 0, 1) := by decide +kernel
theorem dX10_item_10 : decode cX10_item 10 = .ok (.getfield 72, 3) := by decide +kernel
theorem dX10_item_13 : decode cX10_item 13 = .ok (.iload_n 1, 1) := by decide +kernel
theorem dX10_item_14 : decode cX10_item 14 = .ok (.iaload, 1) := by decide +kernel
theorem dX10_item_15 : decode cX10_item 15 = .ok (.ifCond .ne 6, 3) := by decide +kernel
theorem dX10_item_18 : decode cX10_item 18 = .ok (.bipush (-11), 2) := by decide +kernel
theorem dX10_item_20 : decode cX10_item 20 = .ok (.ireturn, 1) := by decide +kernel
theorem dX10_item_21 : decode cX10_item 21 = .ok (.iload_n 2, 1) := by decide +kernel
theorem dX10_item_22 : decode cX10_item 22 = .ok (.i2l, 1) := by decide +kernel
theorem dX10_item_23 : decode cX10_item 23 = .ok (.lconst 0, 1) := by decide +kernel
theorem dX10_item_24 : decode cX10_item 24 = .ok (.aload_n 0, 1) := by decide +kernel
theorem dX10_item_25 : decode cX10_item 25 = .ok (.getfield 75, 3) := by decide +kernel
theorem dX10_item_28 : decode cX10_item 28 = .ok (.iload_n 1, 1) := by decide +kernel
theorem dX10_item_29 : decode cX10_item 29 = .ok (.iaload, 1) := by decide +kernel
theorem dX10_item_30 : decode cX10_item 30 = .ok (.iconst 1, 1) := by decide +kernel
theorem dX10_item_31 : decode cX10_item 31 = .ok (.isub, 1) := by decide +kernel
theorem dX10_item_32 : decode cX10_item 32 = .ok (.i2l, 1) := by decide +kernel
theorem dX10_item_33 : decode cX10_item 33 = .ok (.invokestatic 87, 3) := by decide +kernel
theorem dX10_item_36 : decode cX10_item 36 = .ok (.ifCond .ne 6, 3) := by decide +kernel
theorem dX10_item_39 : decode cX10_item 39 = .ok (.bipush (-13), 2) := by decide +kernel
theorem dX10_item_41 : decode cX10_item 41 = .ok (.ireturn, 1) := by decide +kernel
theorem dX10_item_42 : decode cX10_item 42 = .ok (.aload_n 0, 1) := by decide +kernel
theorem dX10_item_43 : decode cX10_item 43 = .ok (.getfield 78, 3) := by decide +kernel
theorem dX10_item_46 : decode cX10_item 46 = .ok (.bipush 60, 2) := by decide +kernel
theorem dX10_item_48 : decode cX10_item 48 = .ok (.iload_n 1, 1) := by decide +kernel
theorem dX10_item_49 : decode cX10_item 49 = .ok (.imul, 1) := by decide +kernel
theorem dX10_item_50 : decode cX10_item 50 = .ok (.iload_n 2, 1) := by decide +kernel
theorem dX10_item_51 : decode cX10_item 51 = .ok (.iadd, 1) := by decide +kernel
theorem dX10_item_52 : decode cX10_item 52 = .ok (.lload_n 3, 1) := by decide +kernel
theorem dX10_item_53 : decode cX10_item 53 = .ok (.aload_n 0, 1) := by decide +kernel
theorem dX10_item_54 : decode cX10_item 54 = .ok (.getfield 72, 3) := by decide +kernel
theorem dX10_item_57 : decode cX10_item 57 = .ok (.iload_n 1, 1) := by decide +kernel
theorem dX10_item_58 : decode cX10_item 58 = .ok (.iaload, 1) := by decide +kernel
theorem dX10_item_59 : decode cX10_item 59 = .ok (.iconst 1, 1) := by decide +kernel
theorem dX10_item_60 : decode cX10_item 60 = .ok (.isub, 1) := by decide +kernel
theorem dX10_item_61 : decode cX10_item 61 = .ok (.invokestatic 445, 3) := by decide +kernel
theorem dX10_item_64 : decode cX10_item 64 = .ok (.lastore, 1) := by decide +kernel
theorem dX10_item_65 : decode cX10_item 65 = .ok (.iconst 1, 1) := by decide +kernel
theorem dX10_item_66 : decode cX10_item 66 = .ok (.ireturn, 1) := by decide +kernel
theorem dX10_peek_0 : decode cX10_peek 0 = .ok (.iload_n 1, 1) := by decide +kernel
theorem dX10_peek_1 : decode cX10_peek 1 = .ok (.invokestatic 440, 3) := by decide +kernel
theorem dX10_peek_4 : decode cX10_peek 4 = .ok (.ifCond .eq 35, 3) := by decide +kernel
theorem dX10_peek_7 : decode cX10_peek 7 = .ok (.iload_n 2, 1) := by decide +kernel
theorem dX10_peek_8 : decode cX10_peek 8 = .ok (.i2l, 1) := by decide +kernel
theorem dX10_peek_9 : decode cX10_peek 9 = .ok (.lconst 0, 1) := by decide +kernel
theorem dX10_peek_10 : decode cX10_peek 10 = .ok (.aload_n 0, 1) := by decide +kernel
theorem dX10_peek_11 : decode cX10_peek 11 = .ok (.getfield 75, 3) := by decide +kernel
theorem dX10_peek_14 : decode cX10_peek 14 = .ok (.iload_n 1, 1) := by decide +kernel
theorem dX10_peek_15 : decode cX10_peek 15 = .ok (.iaload, 1) := by decide +kernel
theorem dX10_peek_16 : decode cX10_peek 16 = .ok (.iconst 1, 1) := by decide +kernel
theorem dX10_peek_17 : decode cX10_peek 17 = .ok (.isub, 1) := by decide +kernel
theorem dX10_peek_18 : decode cX10_peek 18 = .ok (.i2l, 1) := by decide +kernel
theorem dX10_peek_19 : decode cX10_peek 19 = .ok (.invokestatic 87, 3) := by decide +kernel
theorem dX10_peek_22 : decode cX10_peek 22 = .ok (.ifCond .eq 17, 3) := by decide +kernel
theorem dX10_peek_25 : decode cX10_peek 25 = .ok (.aload_n 0, 1) := by decide +kernel
theorem dX10_peek_26 : decode cX10_peek 26 = .ok (.getfield 78, 3) := by decide +kernel
theorem dX10_peek_29 : decode cX10_peek 29 = .ok (.bipush 60, 2) := by decide +kernel
theorem dX10_peek_31 : decode cX10_peek 31 = .ok (.iload_n 1, 1) := by decide +kernel
theorem dX10_peek_32 : decode cX10_peek 32 = .ok (.imul, 1) := by decide +kernel
theorem dX10_peek_33 : decode cX10_peek 33 = .ok (.iload_n 2, 1) := by decide +kernel
theorem dX10_peek_34 : decode cX10_peek 34 = .ok (.iadd, 1) := by decide +kernel
theorem dX10_peek_35 : decode cX10_peek 35 = .ok (.laload, 1) := by decide +kernel
theorem dX10_peek_36 : decode cX10_peek 36 = .ok (.goto 6, 3) := by decide +kernel
theorem dX10_peek_39 : decode cX10_peek 39 = .ok (.ldc2_w 433, 3) := by decide +kernel
theorem dX10_peek_42 : decode cX10_peek 42 = .ok (.lreturn, 1) := by decide +kernel
theorem dX10_shift_0 : decode cX10_shift 0 = .ok (.iload_n 1, 1) := by decide +kernel
theorem dX10_shift_1 : decode cX10_shift 1 = .ok (.invokestatic 440, 3) := by decide +kernel
theorem dX10_shift_4 : decode cX10_shift 4 = .ok (.ifCond .eq 10, 3) := by decide +kernel
theorem dX10_shift_7 : decode cX10_shift 7 = .ok (.iload_n 3, 1) := by decide +kernel
theorem dX10_shift_8 : decode cX10_shift 8 = .ok (.invokestatic 440, 3) := by decide +kernel
theorem dX10_shift_11 : decode cX10_shift 11 = .ok (.ifCond .ne 5, 3) := by decide +kernel
theorem dX10_shift_14 : decode cX10_shift 14 = .ok (.iconst (-1), 1) := by decide +kernel
theorem dX10_shift_15 : decode cX10_shift 15 = .ok (.ireturn, 1) := by decide +kernel
theorem dX10_shift_16 : decode cX10_shift 16 = .ok (.aload_n 0, 1) := by decide +kernel
theorem dX10_shift_17 : decode cX10_shift 17 = .ok (.getfield 72, 3) := by decide +kernel
theorem dX10_shift_20 : decode cX10_shift 20 = .ok (.iload_n 1, 1) := by decide +kernel
theorem dX10_shift_21 : decode cX10_shift 21 = .ok (.iaload, 1) := by decide +kernel
theorem dX10_shift_22 : decode cX10_shift 22 = .ok (.ifCond .eq 12, 3) := by decide +kernel
theorem dX10_shift_25 : decode cX10_shift 25 = .ok (.aload_n 0, 1) := by decide +kernel
theorem dX10_shift_26 : decode cX10_shift 26 = .ok (.getfield 72, 3) := by decide +kernel
theorem dX10_shift_29 : decode cX10_shift 29 = .ok (.iload_n 3, 1) := by decide +kernel
theorem dX10_shift_30 : decode cX10_shift 30 = .ok (.iaload, 1) := by decide +kernel
theorem dX10_shift_31 : decode cX10_shift 31 = .ok (.ifCond .ne 6, 3) := by decide +kernel
theorem dX10_shift_34 : decode cX10_shift 34 = .ok (.bipush (-11), 2) := by decide +kernel
theorem dX10_shift_36 : decode cX10_shift 36 = .ok (.ireturn, 1) := by decide +kernel
theorem dX10_shift_37 : decode cX10_shift 37 = .ok (.aload_n 0, 1) := by decide +kernel
theorem dX10_shift_38 : decode cX10_shift 38 = .ok (.getfield 72, 3) := by decide +kernel
theorem dX10_shift_41 : decode cX10_shift 41 = .ok (.iload_n 1, 1) := by decide +kernel
theorem dX10_shift_42 : decode cX10_shift 42 = .ok (.iaload, 1) := by decide +kernel
theorem dX10_shift_43 : decode cX10_shift 43 = .ok (.aload_n 0, 1) := by decide +kernel
theorem dX10_shift_44 : decode cX10_shift 44 = .ok (.getfield 72, 3) := by decide +kernel
theorem dX10_shift_47 : decode cX10_shift 47 = .ok (.iload_n 3, 1) := by decide +kernel
theorem dX10_shift_48 : decode cX10_shift 48 = .ok (.iaload, 1) := by decide +kernel
theorem dX10_shift_49 : decode cX10_shift 49 = .ok (.if_icmp .eq 6, 3) := by decide +kernel
theorem dX10_shift_52 : decode cX10_shift 52 = .ok (.bipush (-12), 2) := by decide +kernel
theorem dX10_shift_54 : decode cX10_shift 54 = .ok (.ireturn, 1) := by decide +kernel
theorem dX10_shift_55 : decode cX10_shift 55 = .ok (.iload 5, 2) := by decide +kernel
theorem dX10_shift_57 : decode cX10_shift 57 = .ok (.ifCond .lt 47, 3) := by decide +kernel
theorem dX10_shift_60 : decode cX10_shift 60 = .ok (.iload_n 2, 1) := by decide +kernel
theorem dX10_shift_61 : decode cX10_shift 61 = .ok (.ifCond .lt 43, 3) := by decide +kernel
theorem dX10_shift_64 : decode cX10_shift 64 = .ok (.iload 4, 2) := by decide +kernel
theorem dX10_shift_66 : decode cX10_shift 66 = .ok (.ifCond .lt 38, 3) := by decide +kernel
theorem dX10_shift_69 : decode cX10_shift 69 = .ok (.iload_n 2, 1) := by decide +kernel
theorem dX10_shift_70 : decode cX10_shift 70 = .ok (.i2l, 1) := by decide +kernel
theorem dX10_shift_71 : decode cX10_shift 71 = .ok (.iload 5, 2) := by decide +kernel
theorem dX10_shift_73 : decode cX10_shift 73 = .ok (.i2l, 1) := by decide +kernel
theorem dX10_shift_74 : decode cX10_shift 74 = .ok (.ladd, 1) := by decide +kernel
theorem dX10_shift_75 : decode cX10_shift 75 = .ok (.aload_n 0, 1) := by decide +kernel
theorem dX10_shift_76 : decode cX10_shift 76 = .ok (.getfield 75, 3) := by decide +kernel
theorem dX10_shift_79 : decode cX10_shift 79 = .ok (.iload_n 1, 1) := by decide +kernel
theorem dX10_shift_80 : decode cX10_shift 80 = .ok (.iaload, 1) := by decide +kernel
theorem dX10_shift_81 : decode cX10_shift 81 = .ok (.i2l, 1) := by decide +kernel
theorem dX10_shift_82 : decode cX10_shift 82 = .ok (.lcmp, 1) := by decide +kernel
theorem dX10_shift_83 : decode cX10_shift 83 = .ok (.ifCond .gt 21, 3) := by decide +kernel
theorem dX10_shift_86 : decode cX10_shift 86 = .ok (.iload 4, 2) := by decide +kernel
theorem dX10_shift_88 : decode cX10_shift 88 = .ok (.i2l, 1) := by decide +kernel
theorem dX10_shift_89 : decode cX10_shift 89 = .ok (.iload 5, 2) := by decide +kernel
theorem dX10_shift_91 : decode cX10_shift 91 = .ok (.i2l, 1) := by decide +kernel
theorem dX10_shift_92 : decode cX10_shift 92 = .ok (.ladd, 1) := by decide +kernel
theorem dX10_shift_93 : decode cX10_shift 93 = .ok (.aload_n 0, 1) := by decide +kernel
theorem dX10_shift_94 : decode cX10_shift 94 = .ok (.getfield 75, 3) := by decide +kernel
theorem dX10_shift_97 : decode cX10_shift 97 = .ok (.iload_n 3, 1) := by decide +kernel
theorem dX10_shift_98 : decode cX10_shift 98 = .ok (.iaload, 1) := by decide +kernel
theorem dX10_shift_99 : decode cX10_shift 99 = .ok (.i2l, 1) := by decide +kernel
theorem dX10_shift_100 : decode cX10_shift 100 = .ok (.lcmp, 1) := by decide +kernel
theorem dX10_shift_101 : decode cX10_shift 101 = .ok (.ifCond .le 6, 3) := by decide +kernel
theorem dX10_shift_104 : decode cX10_shift 104 = .ok (.bipush (-13), 2) := by decide +kernel
theorem dX10_shift_106 : decode cX10_shift 106 = .ok (.ireturn, 1) := by decide +kernel
theorem dX10_shift_107 : decode cX10_shift 107 = .ok (.iconst 0, 1) := by decide +kernel
theorem dX10_shift_108 : decode cX10_shift 108 = .ok (.istore 6, 2) := by decide +kernel
theorem dX10_shift_110 : decode cX10_shift 110 = .ok (.iload 6, 2) := by decide +kernel
theorem dX10_shift_112 : decode cX10_shift 112 = .ok (.iload 5, 2) := by decide +kernel
theorem dX10_shift_114 : decode cX10_shift 114 = .ok (.if_icmp .ge 30, 3) := by decide +kernel
theorem dX10_shift_117 : decode cX10_shift 117 = .ok (.aload_n 0, 1) := by decide +kernel
theorem dX10_shift_118 : decode cX10_shift 118 = .ok (.getfield 82, 3) := by decide +kernel
theorem dX10_shift_121 : decode cX10_shift 121 = .ok (.iload 6, 2) := by decide +kernel
theorem dX10_shift_123 : decode cX10_shift 123 = .ok (.aload_n 0, 1) := by decide +kernel
theorem dX10_shift_124 : decode cX10_shift 124 = .ok (.getfield 78, 3) := by decide +kernel
theorem dX10_shift_127 : decode cX10_shift 127 = .ok (.bipush 60, 2) := by decide +kernel
theorem dX10_shift_129 : decode cX10_shift 129 = .ok (.iload_n 1, 1) := by decide +kernel
theorem dX10_shift_130 : decode cX10_shift 130 = .ok (.imul, 1) := by decide +kernel
theorem dX10_shift_131 : decode cX10_shift 131 = .ok (.iload_n 2, 1) := by decide +kernel
theorem dX10_shift_132 : decode cX10_shift 132 = .ok (.iadd, 1) := by decide +kernel
theorem dX10_shift_133 : decode cX10_shift 133 = .ok (.iload 6, 2) := by decide +kernel
theorem dX10_shift_135 : decode cX10_shift 135 = .ok (.iadd, 1) := by decide +kernel
theorem dX10_shift_136 : decode cX10_shift 136 = .ok (.laload, 1) := by decide +kernel
theorem dX10_shift_137 : decode cX10_shift 137 = .ok (.lastore, 1) := by decide +kernel
theorem dX10_shift_138 : decode cX10_shift 138 = .ok (.iinc 6 1, 3) := by decide +kernel
theorem dX10_shift_141 : decode cX10_shift 141 = .ok (.goto (-31), 3) := by decide +kernel
theorem dX10_shift_144 : decode cX10_shift 144 = .ok (.iconst 0, 1) := by decide +kernel
theorem dX10_shift_145 : decode cX10_shift 145 = .ok (.istore 6, 2) := by decide +kernel
theorem dX10_shift_147 : decode cX10_shift 147 = .ok (.iload 6, 2) := by decide +kernel
theorem dX10_shift_149 : decode cX10_shift 149 = .ok (.iload 5, 2) := by decide +kernel
theorem dX10_shift_151 : decode cX10_shift 151 = .ok (.if_icmp .ge 31, 3) := by decide +kernel
theorem dX10_shift_154 : decode cX10_shift 154 = .ok (.aload_n 0, 1) := by decide +kernel
theorem dX10_shift_155 : decode cX10_shift 155 = .ok (.getfield 78, 3) := by decide +kernel
theorem dX10_shift_158 : decode cX10_shift 158 = .ok (.bipush 60, 2) := by decide +kernel
theorem dX10_shift_160 : decode cX10_shift 160 = .ok (.iload_n 3, 1) := by decide +kernel
theorem dX10_shift_161 : decode cX10_shift 161 = .ok (.imul, 1) := by decide +kernel
theorem dX10_shift_162 : decode cX10_shift 162 = .ok (.iload 4, 2) := by decide +kernel
theorem dX10_shift_164 : decode cX10_shift 164 = .ok (.iadd, 1) := by decide +kernel
theorem dX10_shift_165 : decode cX10_shift 165 = .ok (.iload 6, 2) := by decide +kernel
theorem dX10_shift_167 : decode cX10_shift 167 = .ok (.iadd, 1) := by decide +kernel
theorem dX10_shift_168 : decode cX10_shift 168 = .ok (.aload_n 0, 1) := by decide +kernel
theorem dX10_shift_169 : decode cX10_shift 169 = .ok (.getfield 82, 3) := by decide +kernel
theorem dX10_shift_172 : decode cX10_shift 172 = .ok (.iload 6, 2) := by decide +kernel
theorem dX10_shift_174 : decode cX10_shift 174 = .ok (.laload, 1) := by decide +kernel
theorem dX10_shift_175 : decode cX10_shift 175 = .ok (.lastore, 1) := by decide +kernel
theorem dX10_shift_176 : decode cX10_shift 176 = .ok (.iinc 6 1, 3) := by decide +kernel
theorem dX10_shift_179 : decode cX10_shift 179 = .ok (.goto (-32), 3) := by decide +kernel
theorem dX10_shift_182 : decode cX10_shift 182 = .ok (.iload 5, 2) := by decide +kernel
theorem dX10_shift_184 : decode cX10_shift 184 = .ok (.ireturn, 1) := by decide +kernel
theorem dX10_image_0 : decode cX10_image 0 = .ok (.aload_n 0, 1) := by decide +kernel
theorem dX10_image_1 : decode cX10_image 1 = .ok (.iconst 1, 1) := by decide +kernel
theorem dX10_image_2 : decode cX10_image 2 = .ok (.putfield 449, 3) := by decide +kernel
theorem dX10_image_5 : decode cX10_image 5 = .ok (.aload_n 0, 1) := by decide +kernel
theorem dX10_image_6 : decode cX10_image 6 = .ok (.getfield 9, 3) := by decide +kernel
theorem dX10_image_9 : decode cX10_image 9 = .ok (.aload_n 0, 1) := by decide +kernel
theorem dX10_image_10 : decode cX10_image 10 = .ok (.getfield 18, 3) := by decide +kernel
theorem dX10_image_13 : decode cX10_image 13 = .ok (.invokestatic 401, 3) := by decide +kernel
theorem dX10_image_16 : decode cX10_image 16 = .ok (.aload_n 0, 1) := by decide +kernel
theorem dX10_image_17 : decode cX10_image 17 = .ok (.invokevirtual 405, 3) := by decide +kernel
theorem dX10_image_20 : decode cX10_image 20 = .ok (.ireturn, 1) := by decide +kernel
theorem dX10_undo_0 : decode cX10_undo 0 = .ok (.aload_n 0, 1) := by decide +kernel
theorem dX10_undo_1 : decode cX10_undo 1 = .ok (.getfield 449, 3) := by decide +kernel
theorem dX10_undo_4 : decode cX10_undo 4 = .ok (.ifCond .ne 6, 3) := by decide +kernel
theorem dX10_undo_7 : decode cX10_undo 7 = .ok (.bipush (-3), 2) := by decide +kernel
theorem dX10_undo_9 : decode cX10_undo 9 = .ok (.ireturn, 1) := by decide +kernel
theorem dX10_undo_10 : decode cX10_undo 10 = .ok (.aload_n 0, 1) := by decide +kernel
theorem dX10_undo_11 : decode cX10_undo 11 = .ok (.getfield 18, 3) := by decide +kernel
theorem dX10_undo_14 : decode cX10_undo 14 = .ok (.aload_n 0, 1) := by decide +kernel
theorem dX10_undo_15 : decode cX10_undo 15 = .ok (.getfield 9, 3) := by decide +kernel
theorem dX10_undo_18 : decode cX10_undo 18 = .ok (.invokestatic 401, 3) := by decide +kernel
theorem dX10_undo_21 : decode cX10_undo 21 = .ok (.aload_n 0, 1) := by decide +kernel
theorem dX10_undo_22 : decode cX10_undo 22 = .ok (.invokevirtual 405, 3) := by decide +kernel
theorem dX10_undo_25 : decode cX10_undo 25 = .ok (.ireturn, 1) := by decide +kernel
