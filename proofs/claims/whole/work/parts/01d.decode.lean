section AM13d
theorem dX8_init_0 : decode cX8_init 0 = .ok (.aload_n 0, 1) := by decide +kernel
theorem dX8_init_1 : decode cX8_init 1 = .ok (.invokespecial 1, 3) := by decide +kernel
theorem dX8_init_4 : decode cX8_init 4 = .ok (.aload_n 0, 1) := by decide +kernel
theorem dX8_init_5 : decode cX8_init 5 = .ok (.sipush 1448, 3) := by decide +kernel
theorem dX8_init_8 : decode cX8_init 8 = .ok (.newarray .int, 2) := by decide +kernel
theorem dX8_init_10 : decode cX8_init 10 = .ok (.putfield 9, 3) := by decide +kernel
theorem dX8_init_13 : decode cX8_init 13 = .ok (.aload_n 0, 1) := by decide +kernel
theorem dX8_init_14 : decode cX8_init 14 = .ok (.sipush 1448, 3) := by decide +kernel
theorem dX8_init_17 : decode cX8_init 17 = .ok (.newarray .int, 2) := by decide +kernel
theorem dX8_init_19 : decode cX8_init 19 = .ok (.putfield 13, 3) := by decide +kernel
theorem dX8_init_22 : decode cX8_init 22 = .ok (.aload_n 0, 1) := by decide +kernel
theorem dX8_init_23 : decode cX8_init 23 = .ok (.sipush 1448, 3) := by decide +kernel
theorem dX8_init_26 : decode cX8_init 26 = .ok (.newarray .int, 2) := by decide +kernel
theorem dX8_init_28 : decode cX8_init 28 = .ok (.putfield 16, 3) := by decide +kernel
theorem dX8_init_31 : decode cX8_init 31 = .ok (.aload_n 0, 1) := by decide +kernel
theorem dX8_init_32 : decode cX8_init 32 = .ok (.bipush 11, 2) := by decide +kernel
theorem dX8_init_34 : decode cX8_init 34 = .ok (.newarray .int, 2) := by decide +kernel
theorem dX8_init_36 : decode cX8_init 36 = .ok (.putfield 19, 3) := by decide +kernel
theorem dX8_init_39 : decode cX8_init 39 = .ok (.aload_n 0, 1) := by decide +kernel
theorem dX8_init_40 : decode cX8_init 40 = .ok (.bipush 11, 2) := by decide +kernel
theorem dX8_init_42 : decode cX8_init 42 = .ok (.newarray .boolean, 2) := by decide +kernel
theorem dX8_init_44 : decode cX8_init 44 = .ok (.putfield 22, 3) := by decide +kernel
theorem dX8_init_47 : decode cX8_init 47 = .ok (.aload_n 0, 1) := by decide +kernel
theorem dX8_init_48 : decode cX8_init 48 = .ok (.sipush 7168, 3) := by decide +kernel
theorem dX8_init_51 : decode cX8_init 51 = .ok (.newarray .int, 2) := by decide +kernel
theorem dX8_init_53 : decode cX8_init 53 = .ok (.putfield 26, 3) := by decide +kernel
theorem dX8_init_56 : decode cX8_init 56 = .ok (.aload_n 0, 1) := by decide +kernel
theorem dX8_init_57 : decode cX8_init 57 = .ok (.bipush 6, 2) := by decide +kernel
theorem dX8_init_59 : decode cX8_init 59 = .ok (.newarray .int, 2) := by decide +kernel
theorem dX8_init_61 : decode cX8_init 61 = .ok (.putfield 29, 3) := by decide +kernel
theorem dX8_init_64 : decode cX8_init 64 = .ok (.aload_n 0, 1) := by decide +kernel
theorem dX8_init_65 : decode cX8_init 65 = .ok (.bipush 76, 2) := by decide +kernel
theorem dX8_init_67 : decode cX8_init 67 = .ok (.newarray .int, 2) := by decide +kernel
theorem dX8_init_69 : decode cX8_init 69 = .ok (.putfield 32, 3) := by decide +kernel
theorem dX8_init_72 : decode cX8_init 72 = .ok (.aload_n 0, 1) := by decide +kernel
theorem dX8_init_73 : decode cX8_init 73 = .ok (.bipush 10, 2) := by decide +kernel
theorem dX8_init_75 : decode cX8_init 75 = .ok (.newarray .long, 2) := by decide +kernel
theorem dX8_init_77 : decode cX8_init 77 = .ok (.putfield 35, 3) := by decide +kernel
theorem dX8_init_80 : decode cX8_init 80 = .ok (.aload_n 0, 1) := by decide +kernel
theorem dX8_init_81 : decode cX8_init 81 = .ok (.bipush 96, 2) := by decide +kernel
theorem dX8_init_83 : decode cX8_init 83 = .ok (.newarray .int, 2) := by decide +kernel
theorem dX8_init_85 : decode cX8_init 85 = .ok (.putfield 39, 3) := by decide +kernel
theorem dX8_init_88 : decode cX8_init 88 = .ok (.aload_n 0, 1) := by decide +kernel
theorem dX8_init_89 : decode cX8_init 89 = .ok (.bipush 13, 2) := by decide +kernel
theorem dX8_init_91 : decode cX8_init 91 = .ok (.newarray .char, 2) := by decide +kernel
theorem dX8_init_93 : decode cX8_init 93 = .ok (.dup, 1) := by decide +kernel
theorem dX8_init_94 : decode cX8_init 94 = .ok (.iconst 0, 1) := by decide +kernel
theorem dX8_init_95 : decode cX8_init 95 = .ok (.bipush 108, 2) := by decide +kernel
theorem dX8_init_97 : decode cX8_init 97 = .ok (.castore, 1) := by decide +kernel
theorem dX8_init_98 : decode cX8_init 98 = .ok (.dup, 1) := by decide +kernel
theorem dX8_init_99 : decode cX8_init 99 = .ok (.iconst 1, 1) := by decide +kernel
theorem dX8_init_100 : decode cX8_init 100 = .ok (.bipush 97, 2) := by decide +kernel
theorem dX8_init_102 : decode cX8_init 102 = .ok (.castore, 1) := by decide +kernel
theorem dX8_init_103 : decode cX8_init 103 = .ok (.dup, 1) := by decide +kernel
theorem dX8_init_104 : decode cX8_init 104 = .ok (.iconst 2, 1) := by decide +kernel
theorem dX8_init_105 : decode cX8_init 105 = .ok (.bipush 119, 2) := by decide +kernel
theorem dX8_init_107 : decode cX8_init 107 = .ok (.castore, 1) := by decide +kernel
theorem dX8_init_108 : decode cX8_init 108 = .ok (.dup, 1) := by decide +kernel
theorem dX8_init_109 : decode cX8_init 109 = .ok (.iconst 3, 1) := by decide +kernel
theorem dX8_init_110 : decode cX8_init 110 = .ok (.bipush 115, 2) := by decide +kernel
theorem dX8_init_112 : decode cX8_init 112 = .ok (.castore, 1) := by decide +kernel
theorem dX8_init_113 : decode cX8_init 113 = .ok (.dup, 1) := by decide +kernel
theorem dX8_init_114 : decode cX8_init 114 = .ok (.iconst 4, 1) := by decide +kernel
theorem dX8_init_115 : decode cX8_init 115 = .ok (.bipush 101, 2) := by decide +kernel
theorem dX8_init_117 : decode cX8_init 117 = .ok (.castore, 1) := by decide +kernel
theorem dX8_init_118 : decode cX8_init 118 = .ok (.dup, 1) := by decide +kernel
theorem dX8_init_119 : decode cX8_init 119 = .ok (.iconst 5, 1) := by decide +kernel
theorem dX8_init_120 : decode cX8_init 120 = .ok (.bipush 116, 2) := by decide +kernel
theorem dX8_init_122 : decode cX8_init 122 = .ok (.castore, 1) := by decide +kernel
theorem dX8_init_123 : decode cX8_init 123 = .ok (.dup, 1) := by decide +kernel
theorem dX8_init_124 : decode cX8_init 124 = .ok (.bipush 6, 2) := by decide +kernel
theorem dX8_init_126 : decode cX8_init 126 = .ok (.bipush 116, 2) := by decide +kernel
theorem dX8_init_128 : decode cX8_init 128 = .ok (.castore, 1) := by decide +kernel
theorem dX8_init_129 : decode cX8_init 129 = .ok (.dup, 1) := by decide +kernel
theorem dX8_init_130 : decode cX8_init 130 = .ok (.bipush 7, 2) := by decide +kernel
theorem dX8_init_132 : decode cX8_init 132 = .ok (.bipush 108, 2) := by decide +kernel
theorem dX8_init_134 : decode cX8_init 134 = .ok (.castore, 1) := by decide +kernel
theorem dX8_init_135 : decode cX8_init 135 = .ok (.dup, 1) := by decide +kernel
theorem dX8_init_136 : decode cX8_init 136 = .ok (.bipush 8, 2) := by decide +kernel
theorem dX8_init_138 : decode cX8_init 138 = .ok (.bipush 101, 2) := by decide +kernel
theorem dX8_init_140 : decode cX8_init 140 = .ok (.castore, 1) := by decide +kernel
theorem dX8_init_141 : decode cX8_init 141 = .ok (.dup, 1) := by decide +kernel
theorem dX8_init_142 : decode cX8_init 142 = .ok (.bipush 9, 2) := by decide +kernel
theorem dX8_init_144 : decode cX8_init 144 = .ok (.bipush 102, 2) := by decide +kernel
theorem dX8_init_146 : decode cX8_init 146 = .ok (.castore, 1) := by decide +kernel
theorem dX8_init_147 : decode cX8_init 147 = .ok (.dup, 1) := by decide +kernel
theorem dX8_init_148 : decode cX8_init 148 = .ok (.bipush 10, 2) := by decide +kernel
theorem dX8_init_150 : decode cX8_init 150 = .ok (.bipush 105, 2) := by decide +kernel
theorem dX8_init_152 : decode cX8_init 152 = .ok (.castore, 1) := by decide +kernel
theorem dX8_init_153 : decode cX8_init 153 = .ok (.dup, 1) := by decide +kernel
theorem dX8_init_154 : decode cX8_init 154 = .ok (.bipush 11, 2) := by decide +kernel
theorem dX8_init_156 : decode cX8_init 156 = .ok (.bipush 110, 2) := by decide +kernel
theorem dX8_init_158 : decode cX8_init 158 = .ok (.castore, 1) := by decide +kernel
theorem dX8_init_159 : decode cX8_init 159 = .ok (.dup, 1) := by decide +kernel
theorem dX8_init_160 : decode cX8_init 160 = .ok (.bipush 12, 2) := by decide +kernel
theorem dX8_init_162 : decode cX8_init 162 = .ok (.bipush 101, 2) := by decide +kernel
theorem dX8_init_164 : decode cX8_init 164 = .ok (.castore, 1) := by decide +kernel
theorem dX8_init_165 : decode cX8_init 165 = .ok (.putfield 42, 3) := by decide +kernel
theorem dX8_init_168 : decode cX8_init 168 = .ok (.aload_n 0, 1) := by decide +kernel
theorem dX8_init_169 : decode cX8_init 169 = .ok (.iconst 4, 1) := by decide +kernel
theorem dX8_init_170 : decode cX8_init 170 = .ok (.newarray .int, 2) := by decide +kernel
theorem dX8_init_172 : decode cX8_init 172 = .ok (.dup, 1) := by decide +kernel
theorem dX8_init_173 : decode cX8_init 173 = .ok (.iconst 0, 1) := by decide +kernel
theorem dX8_init_174 : decode cX8_init 174 = .ok (.iconst 0, 1) := by decide +kernel
theorem dX8_init_175 : decode cX8_init 175 = .ok (.iastore, 1) := by decide +kernel
theorem dX8_init_176 : decode cX8_init 176 = .ok (.dup, 1) := by decide +kernel
theorem dX8_init_177 : decode cX8_init 177 = .ok (.iconst 1, 1) := by decide +kernel
theorem dX8_init_178 : decode cX8_init 178 = .ok (.iconst 3, 1) := by decide +kernel
theorem dX8_init_179 : decode cX8_init 179 = .ok (.iastore, 1) := by decide +kernel
theorem dX8_init_180 : decode cX8_init 180 = .ok (.dup, 1) := by decide +kernel
theorem dX8_init_181 : decode cX8_init 181 = .ok (.iconst 2, 1) := by decide +kernel
theorem dX8_init_182 : decode cX8_init 182 = .ok (.bipush 9, 2) := by decide +kernel
theorem dX8_init_184 : decode cX8_init 184 = .ok (.iastore, 1) := by decide +kernel
theorem dX8_init_185 : decode cX8_init 185 = .ok (.dup, 1) := by decide +kernel
theorem dX8_init_186 : decode cX8_init 186 = .ok (.iconst 3, 1) := by decide +kernel
theorem dX8_init_187 : decode cX8_init 187 = .ok (.bipush 13, 2) := by decide +kernel
theorem dX8_init_189 : decode cX8_init 189 = .ok (.iastore, 1) := by decide +kernel
theorem dX8_init_190 : decode cX8_init 190 = .ok (.putfield 46, 3) := by decide +kernel
theorem dX8_init_193 : decode cX8_init 193 = .ok (.aload_n 0, 1) := by decide +kernel
theorem dX8_init_194 : decode cX8_init 194 = .ok (.bipush 96, 2) := by decide +kernel
theorem dX8_init_196 : decode cX8_init 196 = .ok (.newarray .int, 2) := by decide +kernel
theorem dX8_init_198 : decode cX8_init 198 = .ok (.putfield 49, 3) := by decide +kernel
theorem dX8_init_201 : decode cX8_init 201 = .ok (.aload_n 0, 1) := by decide +kernel
theorem dX8_init_202 : decode cX8_init 202 = .ok (.bipush 96, 2) := by decide +kernel
theorem dX8_init_204 : decode cX8_init 204 = .ok (.newarray .int, 2) := by decide +kernel
theorem dX8_init_206 : decode cX8_init 206 = .ok (.putfield 52, 3) := by decide +kernel
theorem dX8_init_209 : decode cX8_init 209 = .ok (.aload_n 0, 1) := by decide +kernel
theorem dX8_init_210 : decode cX8_init 210 = .ok (.bipush 10, 2) := by decide +kernel
theorem dX8_init_212 : decode cX8_init 212 = .ok (.newarray .boolean, 2) := by decide +kernel
theorem dX8_init_214 : decode cX8_init 214 = .ok (.putfield 55, 3) := by decide +kernel
theorem dX8_init_217 : decode cX8_init 217 = .ok (.aload_n 0, 1) := by decide +kernel
theorem dX8_init_218 : decode cX8_init 218 = .ok (.bipush 96, 2) := by decide +kernel
theorem dX8_init_220 : decode cX8_init 220 = .ok (.newarray .int, 2) := by decide +kernel
theorem dX8_init_222 : decode cX8_init 222 = .ok (.putfield 58, 3) := by decide +kernel
theorem dX8_init_225 : decode cX8_init 225 = .ok (.aload_n 0, 1) := by decide +kernel
theorem dX8_init_226 : decode cX8_init 226 = .ok (.iconst 4, 1) := by decide +kernel
theorem dX8_init_227 : decode cX8_init 227 = .ok (.newarray .int, 2) := by decide +kernel
theorem dX8_init_229 : decode cX8_init 229 = .ok (.putfield 61, 3) := by decide +kernel
theorem dX8_init_232 : decode cX8_init 232 = .ok (.aload_n 0, 1) := by decide +kernel
theorem dX8_init_233 : decode cX8_init 233 = .ok (.iconst 4, 1) := by decide +kernel
theorem dX8_init_234 : decode cX8_init 234 = .ok (.newarray .int, 2) := by decide +kernel
theorem dX8_init_236 : decode cX8_init 236 = .ok (.dup, 1) := by decide +kernel
theorem dX8_init_237 : decode cX8_init 237 = .ok (.iconst 0, 1) := by decide +kernel
theorem dX8_init_238 : decode cX8_init 238 = .ok (.iconst (-1), 1) := by decide +kernel
theorem dX8_init_239 : decode cX8_init 239 = .ok (.iastore, 1) := by decide +kernel
theorem dX8_init_240 : decode cX8_init 240 = .ok (.dup, 1) := by decide +kernel
theorem dX8_init_241 : decode cX8_init 241 = .ok (.iconst 1, 1) := by decide +kernel
theorem dX8_init_242 : decode cX8_init 242 = .ok (.iconst (-1), 1) := by decide +kernel
theorem dX8_init_243 : decode cX8_init 243 = .ok (.iastore, 1) := by decide +kernel
theorem dX8_init_244 : decode cX8_init 244 = .ok (.dup, 1) := by decide +kernel
theorem dX8_init_245 : decode cX8_init 245 = .ok (.iconst 2, 1) := by decide +kernel
theorem dX8_init_246 : decode cX8_init 246 = .ok (.iconst (-1), 1) := by decide +kernel
theorem dX8_init_247 : decode cX8_init 247 = .ok (.iastore, 1) := by decide +kernel
theorem dX8_init_248 : decode cX8_init 248 = .ok (.dup, 1) := by decide +kernel
theorem dX8_init_249 : decode cX8_init 249 = .ok (.iconst 3, 1) := by decide +kernel
theorem dX8_init_250 : decode cX8_init 250 = .ok (.iconst (-1), 1) := by decide +kernel
theorem dX8_init_251 : decode cX8_init 251 = .ok (.iastore, 1) := by decide +kernel
theorem dX8_init_252 : decode cX8_init 252 = .ok (.putfield 64, 3) := by decide +kernel
theorem dX8_init_255 : decode cX8_init 255 = .ok (.aload_n 0, 1) := by decide +kernel
theorem dX8_init_256 : decode cX8_init 256 = .ok (.iconst 4, 1) := by decide +kernel
theorem dX8_init_257 : decode cX8_init 257 = .ok (.newarray .int, 2) := by decide +kernel
theorem dX8_init_259 : decode cX8_init 259 = .ok (.putfield 67, 3) := by decide +kernel
theorem dX8_init_262 : decode cX8_init 262 = .ok (.aload_n 0, 1) := by decide +kernel
theorem dX8_init_263 : decode cX8_init 263 = .ok (.bipush 96, 2) := by decide +kernel
theorem dX8_init_265 : decode cX8_init 265 = .ok (.newarray .int, 2) := by decide +kernel
theorem dX8_init_267 : decode cX8_init 267 = .ok (.putfield 70, 3) := by decide +kernel
theorem dX8_init_270 : decode cX8_init 270 = .ok (.aload_n 0, 1) := by decide +kernel
theorem dX8_init_271 : decode cX8_init 271 = .ok (.iconst 5, 1) := by decide +kernel
theorem dX8_init_272 : decode cX8_init 272 = .ok (.newarray .int, 2) := by decide +kernel
theorem dX8_init_274 : decode cX8_init 274 = .ok (.putfield 73, 3) := by decide +kernel
theorem dX8_init_277 : decode cX8_init 277 = .ok (.aload_n 0, 1) := by decide +kernel
theorem dX8_init_278 : decode cX8_init 278 = .ok (.iconst 5, 1) := by decide +kernel
theorem dX8_init_279 : decode cX8_init 279 = .ok (.newarray .int, 2) := by decide +kernel
theorem dX8_init_281 : decode cX8_init 281 = .ok (.putfield 76, 3) := by decide +kernel
theorem dX8_init_284 : decode cX8_init 284 = .ok (.aload_n 0, 1) := by decide +kernel
theorem dX8_init_285 : decode cX8_init 285 = .ok (.iconst 5, 1) := by decide +kernel
theorem dX8_init_286 : decode cX8_init 286 = .ok (.newarray .int, 2) := by decide +kernel
theorem dX8_init_288 : decode cX8_init 288 = .ok (.putfield 79, 3) := by decide +kernel
theorem dX8_init_291 : decode cX8_init 291 = .ok (.aload_n 0, 1) := by decide +kernel
theorem dX8_init_292 : decode cX8_init 292 = .ok (.bipush 120, 2) := by decide +kernel
theorem dX8_init_294 : decode cX8_init 294 = .ok (.newarray .int, 2) := by decide +kernel
theorem dX8_init_296 : decode cX8_init 296 = .ok (.putfield 82, 3) := by decide +kernel
theorem dX8_init_299 : decode cX8_init 299 = .ok (.aload_n 0, 1) := by decide +kernel
theorem dX8_init_300 : decode cX8_init 300 = .ok (.bipush 24, 2) := by decide +kernel
theorem dX8_init_302 : decode cX8_init 302 = .ok (.newarray .int, 2) := by decide +kernel
theorem dX8_init_304 : decode cX8_init 304 = .ok (.putfield 85, 3) := by decide +kernel
theorem dX8_init_307 : decode cX8_init 307 = .ok (.aload_n 0, 1) := by decide +kernel
theorem dX8_init_308 : decode cX8_init 308 = .ok (.bipush 60, 2) := by decide +kernel
theorem dX8_init_310 : decode cX8_init 310 = .ok (.newarray .int, 2) := by decide +kernel
theorem dX8_init_312 : decode cX8_init 312 = .ok (.putfield 88, 3) := by decide +kernel
theorem dX8_init_315 : decode cX8_init 315 = .ok (.aload_n 0, 1) := by decide +kernel
theorem dX8_init_316 : decode cX8_init 316 = .ok (.getfield 9, 3) := by decide +kernel
theorem dX8_init_319 : decode cX8_init 319 = .ok (.iconst 0, 1) := by decide +kernel
theorem dX8_init_320 : decode cX8_init 320 = .ok (.iconst 1, 1) := by decide +kernel
theorem dX8_init_321 : decode cX8_init 321 = .ok (.iastore, 1) := by decide +kernel
theorem dX8_init_322 : decode cX8_init 322 = .ok (.aload_n 0, 1) := by decide +kernel
theorem dX8_init_323 : decode cX8_init 323 = .ok (.getfield 9, 3) := by decide +kernel
theorem dX8_init_326 : decode cX8_init 326 = .ok (.iconst 3, 1) := by decide +kernel
theorem dX8_init_327 : decode cX8_init 327 = .ok (.bipush 10, 2) := by decide +kernel
theorem dX8_init_329 : decode cX8_init 329 = .ok (.iastore, 1) := by decide +kernel
theorem dX8_init_330 : decode cX8_init 330 = .ok (.aload_n 0, 1) := by decide +kernel
theorem dX8_init_331 : decode cX8_init 331 = .ok (.getfield 9, 3) := by decide +kernel
theorem dX8_init_334 : decode cX8_init 334 = .ok (.iconst 4, 1) := by decide +kernel
theorem dX8_init_335 : decode cX8_init 335 = .ok (.bipush 120, 2) := by decide +kernel
theorem dX8_init_337 : decode cX8_init 337 = .ok (.iastore, 1) := by decide +kernel
theorem dX8_init_338 : decode cX8_init 338 = .ok (.return_, 1) := by decide +kernel
theorem dX8_in_0 : decode cX8_in 0 = .ok (.iload_n 0, 1) := by decide +kernel
theorem dX8_in_1 : decode cX8_in 1 = .ok (.iload_n 1, 1) := by decide +kernel
theorem dX8_in_2 : decode cX8_in 2 = .ok (.if_icmp .lt 12, 3) := by decide +kernel
theorem dX8_in_5 : decode cX8_in 5 = .ok (.iload_n 0, 1) := by decide +kernel
theorem dX8_in_6 : decode cX8_in 6 = .ok (.iload_n 2, 1) := by decide +kernel
theorem dX8_in_7 : decode cX8_in 7 = .ok (.if_icmp .gt 7, 3) := by decide +kernel
theorem dX8_in_10 : decode cX8_in 10 = .ok (.iconst 1, 1) := by decide +kernel
theorem dX8_in_11 : decode cX8_in 11 = .ok (.goto 4, 3) := by decide +kernel
theorem dX8_in_14 : decode cX8_in 14 = .ok (.iconst 0, 1) := by decide +kernel
theorem dX8_in_15 : decode cX8_in 15 = .ok (.ireturn, 1) := by decide +kernel
theorem dX8_within_0 : decode cX8_within 0 = .ok (.iload_n 0, 1) := by decide +kernel
theorem dX8_within_1 : decode cX8_within 1 = .ok (.iload_n 1, 1) := by decide +kernel
theorem dX8_within_2 : decode cX8_within 2 = .ok (.if_icmp .ge 7, 3) := by decide +kernel
theorem dX8_within_5 : decode cX8_within 5 = .ok (.iload_n 1, 1) := by decide +kernel
theorem dX8_within_6 : decode cX8_within 6 = .ok (.goto 13, 3) := by decide +kernel
theorem dX8_within_9 : decode cX8_within 9 = .ok (.iload_n 0, 1) := by decide +kernel
theorem dX8_within_10 : decode cX8_within 10 = .ok (.iload_n 2, 1) := by decide +kernel
theorem dX8_within_11 : decode cX8_within 11 = .ok (.if_icmp .le 7, 3) := by decide +kernel
theorem dX8_within_14 : decode cX8_within 14 = .ok (.iload_n 2, 1) := by decide +kernel
theorem dX8_within_15 : decode cX8_within 15 = .ok (.goto 4, 3) := by decide +kernel
theorem dX8_within_18 : decode cX8_within 18 = .ok (.iload_n 0, 1) := by decide +kernel
theorem dX8_within_19 : decode cX8_within 19 = .ok (.ireturn, 1) := by decide +kernel
theorem dX8_copyAll_0 : decode cX8_copyAll 0 = .ok (.iconst 0, 1) := by decide +kernel
theorem dX8_copyAll_1 : decode cX8_copyAll 1 = .ok (.istore_n 2, 1) := by decide +kernel
theorem dX8_copyAll_2 : decode cX8_copyAll 2 = .ok (.iload_n 2, 1) := by decide +kernel
theorem dX8_copyAll_3 : decode cX8_copyAll 3 = .ok (.sipush 1448, 3) := by decide +kernel
theorem dX8_copyAll_6 : decode cX8_copyAll 6 = .ok (.if_icmp .ge 15, 3) := by decide +kernel
theorem dX8_copyAll_9 : decode cX8_copyAll 9 = .ok (.aload_n 1, 1) := by decide +kernel
theorem dX8_copyAll_10 : decode cX8_copyAll 10 = .ok (.iload_n 2, 1) := by decide +kernel
theorem dX8_copyAll_11 : decode cX8_copyAll 11 = .ok (.aload_n 0, 1) := by decide +kernel
theorem dX8_copyAll_12 : decode cX8_copyAll 12 = .ok (.iload_n 2, 1) := by decide +kernel
theorem dX8_copyAll_13 : decode cX8_copyAll 13 = .ok (.iaload, 1) := by decide +kernel
theorem dX8_copyAll_14 : decode cX8_copyAll 14 = .ok (.iastore, 1) := by decide +kernel
theorem dX8_copyAll_15 : decode cX8_copyAll 15 = .ok (.iinc 2 1, 3) := by decide +kernel
theorem dX8_copyAll_18 : decode cX8_copyAll 18 = .ok (.goto (-16), 3) := by decide +kernel
theorem dX8_copyAll_21 : decode cX8_copyAll 21 = .ok (.return_, 1) := by decide +kernel
theorem dX8_told0_0 : decode cX8_told0 0 = .ok (.iload_n 0, 1) := by decide +kernel
theorem dX8_told0_1 : decode cX8_told0 1 = .ok (.ifCond .ge 8, 3) := by decide +kernel
theorem dX8_told0_4 : decode cX8_told0 4 = .ok (.ldc 91, 2) := by decide +kernel
theorem dX8_told0_6 : decode cX8_told0 6 = .ok (.goto 4, 3) := by decide +kernel
theorem dX8_told0_9 : decode cX8_told0 9 = .ok (.iload_n 0, 1) := by decide +kernel
theorem dX8_told0_10 : decode cX8_told0 10 = .ok (.ireturn, 1) := by decide +kernel
theorem dX8_isHole_0 : decode cX8_isHole 0 = .ok (.iload_n 1, 1) := by decide +kernel
theorem dX8_isHole_1 : decode cX8_isHole 1 = .ok (.iconst 0, 1) := by decide +kernel
theorem dX8_isHole_2 : decode cX8_isHole 2 = .ok (.aload_n 0, 1) := by decide +kernel
theorem dX8_isHole_3 : decode cX8_isHole 3 = .ok (.getfield 9, 3) := by decide +kernel
theorem dX8_isHole_6 : decode cX8_isHole 6 = .ok (.iconst 1, 1) := by decide +kernel
theorem dX8_isHole_7 : decode cX8_isHole 7 = .ok (.iaload, 1) := by decide +kernel
theorem dX8_isHole_8 : decode cX8_isHole 8 = .ok (.iconst 1, 1) := by decide +kernel
theorem dX8_isHole_9 : decode cX8_isHole 9 = .ok (.isub, 1) := by decide +kernel
theorem dX8_isHole_10 : decode cX8_isHole 10 = .ok (.invokestatic 92, 3) := by decide +kernel
theorem dX8_isHole_13 : decode cX8_isHole 13 = .ok (.ireturn, 1) := by decide +kernel
theorem dX8_isPlace_0 : decode cX8_isPlace 0 = .ok (.iload_n 0, 1) := by decide +kernel
theorem dX8_isPlace_1 : decode cX8_isPlace 1 = .ok (.iconst 0, 1) := by decide +kernel
theorem dX8_isPlace_2 : decode cX8_isPlace 2 = .ok (.bipush 29, 2) := by decide +kernel
theorem dX8_isPlace_4 : decode cX8_isPlace 4 = .ok (.invokestatic 92, 3) := by decide +kernel
theorem dX8_isPlace_7 : decode cX8_isPlace 7 = .ok (.ireturn, 1) := by decide +kernel
theorem dX8_isOwner_0 : decode cX8_isOwner 0 = .ok (.iload_n 0, 1) := by decide +kernel
theorem dX8_isOwner_1 : decode cX8_isOwner 1 = .ok (.iconst 0, 1) := by decide +kernel
theorem dX8_isOwner_2 : decode cX8_isOwner 2 = .ok (.bipush 7, 2) := by decide +kernel
theorem dX8_isOwner_4 : decode cX8_isOwner 4 = .ok (.invokestatic 92, 3) := by decide +kernel
theorem dX8_isOwner_7 : decode cX8_isOwner 7 = .ok (.ireturn, 1) := by decide +kernel
theorem dX8_isDug_0 : decode cX8_isDug 0 = .ok (.iload_n 0, 1) := by decide +kernel
theorem dX8_isDug_1 : decode cX8_isDug 1 = .ok (.iconst 1, 1) := by decide +kernel
theorem dX8_isDug_2 : decode cX8_isDug 2 = .ok (.bipush 99, 2) := by decide +kernel
theorem dX8_isDug_4 : decode cX8_isDug 4 = .ok (.invokestatic 92, 3) := by decide +kernel
theorem dX8_isDug_7 : decode cX8_isDug 7 = .ok (.ireturn, 1) := by decide +kernel
theorem dX8_of_0 : decode cX8_of 0 = .ok (.aload_n 0, 1) := by decide +kernel
theorem dX8_of_1 : decode cX8_of 1 = .ok (.getfield 9, 3) := by decide +kernel
theorem dX8_of_4 : decode cX8_of 4 = .ok (.bipush 21, 2) := by decide +kernel
theorem dX8_of_6 : decode cX8_of 6 = .ok (.iconst 5, 1) := by decide +kernel
theorem dX8_of_7 : decode cX8_of 7 = .ok (.iload_n 1, 1) := by decide +kernel
theorem dX8_of_8 : decode cX8_of 8 = .ok (.imul, 1) := by decide +kernel
theorem dX8_of_9 : decode cX8_of 9 = .ok (.iadd, 1) := by decide +kernel
theorem dX8_of_10 : decode cX8_of 10 = .ok (.iload_n 2, 1) := by decide +kernel
theorem dX8_of_11 : decode cX8_of 11 = .ok (.iadd, 1) := by decide +kernel
theorem dX8_of_12 : decode cX8_of 12 = .ok (.iaload, 1) := by decide +kernel
theorem dX8_of_13 : decode cX8_of 13 = .ok (.ireturn, 1) := by decide +kernel
theorem dX8_put_0 : decode cX8_put 0 = .ok (.aload_n 0, 1) := by decide +kernel
theorem dX8_put_1 : decode cX8_put 1 = .ok (.getfield 9, 3) := by decide +kernel
theorem dX8_put_4 : decode cX8_put 4 = .ok (.bipush 21, 2) := by decide +kernel
theorem dX8_put_6 : decode cX8_put 6 = .ok (.iconst 5, 1) := by decide +kernel
theorem dX8_put_7 : decode cX8_put 7 = .ok (.iload_n 1, 1) := by decide +kernel
theorem dX8_put_8 : decode cX8_put 8 = .ok (.imul, 1) := by decide +kernel
theorem dX8_put_9 : decode cX8_put 9 = .ok (.iadd, 1) := by decide +kernel
theorem dX8_put_10 : decode cX8_put 10 = .ok (.iload_n 2, 1) := by decide +kernel
theorem dX8_put_11 : decode cX8_put 11 = .ok (.iadd, 1) := by decide +kernel
theorem dX8_put_12 : decode cX8_put 12 = .ok (.iload_n 3, 1) := by decide +kernel
theorem dX8_put_13 : decode cX8_put 13 = .ok (.iastore, 1) := by decide +kernel
theorem dX8_put_14 : decode cX8_put 14 = .ok (.return_, 1) := by decide +kernel
theorem dX8_becomes_0 : decode cX8_becomes 0 = .ok (.aload_n 0, 1) := by decide +kernel
theorem dX8_becomes_1 : decode cX8_becomes 1 = .ok (.getfield 9, 3) := by decide +kernel
theorem dX8_becomes_4 : decode cX8_becomes 4 = .ok (.iload_n 1, 1) := by decide +kernel
theorem dX8_becomes_5 : decode cX8_becomes 5 = .ok (.iaload, 1) := by decide +kernel
theorem dX8_becomes_6 : decode cX8_becomes 6 = .ok (.istore_n 3, 1) := by decide +kernel
theorem dX8_becomes_7 : decode cX8_becomes 7 = .ok (.aload_n 0, 1) := by decide +kernel
theorem dX8_becomes_8 : decode cX8_becomes 8 = .ok (.getfield 9, 3) := by decide +kernel
theorem dX8_becomes_11 : decode cX8_becomes 11 = .ok (.iload_n 1, 1) := by decide +kernel
theorem dX8_becomes_12 : decode cX8_becomes 12 = .ok (.iload_n 2, 1) := by decide +kernel
theorem dX8_becomes_13 : decode cX8_becomes 13 = .ok (.iastore, 1) := by decide +kernel
theorem dX8_becomes_14 : decode cX8_becomes 14 = .ok (.iload_n 3, 1) := by decide +kernel
theorem dX8_becomes_15 : decode cX8_becomes 15 = .ok (.ireturn, 1) := by decide +kernel
theorem dX8_lays_0 : decode cX8_lays 0 = .ok (.aload_n 0, 1) := by decide +kernel
theorem dX8_lays_1 : decode cX8_lays 1 = .ok (.iload_n 1, 1) := by decide +kernel
theorem dX8_lays_2 : decode cX8_lays 2 = .ok (.iconst 0, 1) := by decide +kernel
theorem dX8_lays_3 : decode cX8_lays 3 = .ok (.iload_n 2, 1) := by decide +kernel
theorem dX8_lays_4 : decode cX8_lays 4 = .ok (.invokevirtual 96, 3) := by decide +kernel
theorem dX8_lays_7 : decode cX8_lays 7 = .ok (.aload_n 0, 1) := by decide +kernel
theorem dX8_lays_8 : decode cX8_lays 8 = .ok (.iload_n 1, 1) := by decide +kernel
theorem dX8_lays_9 : decode cX8_lays 9 = .ok (.iconst 1, 1) := by decide +kernel
theorem dX8_lays_10 : decode cX8_lays 10 = .ok (.iload_n 3, 1) := by decide +kernel
theorem dX8_lays_11 : decode cX8_lays 11 = .ok (.invokevirtual 96, 3) := by decide +kernel
theorem dX8_lays_14 : decode cX8_lays 14 = .ok (.aload_n 0, 1) := by decide +kernel
theorem dX8_lays_15 : decode cX8_lays 15 = .ok (.iload_n 1, 1) := by decide +kernel
theorem dX8_lays_16 : decode cX8_lays 16 = .ok (.iconst 2, 1) := by decide +kernel
theorem dX8_lays_17 : decode cX8_lays 17 = .ok (.iload 4, 2) := by decide +kernel
theorem dX8_lays_19 : decode cX8_lays 19 = .ok (.invokevirtual 96, 3) := by decide +kernel
theorem dX8_lays_22 : decode cX8_lays 22 = .ok (.aload_n 0, 1) := by decide +kernel
theorem dX8_lays_23 : decode cX8_lays 23 = .ok (.iload_n 1, 1) := by decide +kernel
theorem dX8_lays_24 : decode cX8_lays 24 = .ok (.iconst 3, 1) := by decide +kernel
theorem dX8_lays_25 : decode cX8_lays 25 = .ok (.iload 5, 2) := by decide +kernel
theorem dX8_lays_27 : decode cX8_lays 27 = .ok (.invokevirtual 96, 3) := by decide +kernel
theorem dX8_lays_30 : decode cX8_lays 30 = .ok (.aload_n 0, 1) := by decide +kernel
theorem dX8_lays_31 : decode cX8_lays 31 = .ok (.iload_n 1, 1) := by decide +kernel
theorem dX8_lays_32 : decode cX8_lays 32 = .ok (.iconst 4, 1) := by decide +kernel
theorem dX8_lays_33 : decode cX8_lays 33 = .ok (.iconst 0, 1) := by decide +kernel
theorem dX8_lays_34 : decode cX8_lays 34 = .ok (.invokevirtual 96, 3) := by decide +kernel
theorem dX8_lays_37 : decode cX8_lays 37 = .ok (.return_, 1) := by decide +kernel
theorem dX8_comes_0 : decode cX8_comes 0 = .ok (.aload_n 0, 1) := by decide +kernel
theorem dX8_comes_1 : decode cX8_comes 1 = .ok (.aload_n 0, 1) := by decide +kernel
theorem dX8_comes_2 : decode cX8_comes 2 = .ok (.getfield 9, 3) := by decide +kernel
theorem dX8_comes_5 : decode cX8_comes 5 = .ok (.iconst 1, 1) := by decide +kernel
theorem dX8_comes_6 : decode cX8_comes 6 = .ok (.iaload, 1) := by decide +kernel
theorem dX8_comes_7 : decode cX8_comes 7 = .ok (.iload_n 1, 1) := by decide +kernel
theorem dX8_comes_8 : decode cX8_comes 8 = .ok (.iload_n 2, 1) := by decide +kernel
theorem dX8_comes_9 : decode cX8_comes 9 = .ok (.iload_n 3, 1) := by decide +kernel
theorem dX8_comes_10 : decode cX8_comes 10 = .ok (.iload 4, 2) := by decide +kernel
theorem dX8_comes_12 : decode cX8_comes 12 = .ok (.invokevirtual 100, 3) := by decide +kernel
theorem dX8_comes_15 : decode cX8_comes 15 = .ok (.aload_n 0, 1) := by decide +kernel
theorem dX8_comes_16 : decode cX8_comes 16 = .ok (.getfield 9, 3) := by decide +kernel
theorem dX8_comes_19 : decode cX8_comes 19 = .ok (.iconst 1, 1) := by decide +kernel
theorem dX8_comes_20 : decode cX8_comes 20 = .ok (.dup2, 1) := by decide +kernel
theorem dX8_comes_21 : decode cX8_comes 21 = .ok (.iaload, 1) := by decide +kernel
theorem dX8_comes_22 : decode cX8_comes 22 = .ok (.iconst 1, 1) := by decide +kernel
theorem dX8_comes_23 : decode cX8_comes 23 = .ok (.iadd, 1) := by decide +kernel
theorem dX8_comes_24 : decode cX8_comes 24 = .ok (.iastore, 1) := by decide +kernel
theorem dX8_comes_25 : decode cX8_comes 25 = .ok (.aload_n 0, 1) := by decide +kernel
theorem dX8_comes_26 : decode cX8_comes 26 = .ok (.getfield 9, 3) := by decide +kernel
theorem dX8_comes_29 : decode cX8_comes 29 = .ok (.iconst 1, 1) := by decide +kernel
theorem dX8_comes_30 : decode cX8_comes 30 = .ok (.iaload, 1) := by decide +kernel
theorem dX8_comes_31 : decode cX8_comes 31 = .ok (.iconst 1, 1) := by decide +kernel
theorem dX8_comes_32 : decode cX8_comes 32 = .ok (.isub, 1) := by decide +kernel
theorem dX8_comes_33 : decode cX8_comes 33 = .ok (.ireturn, 1) := by decide +kernel
theorem dX8_hole_0 : decode cX8_hole 0 = .ok (.iload_n 1, 1) := by decide +kernel
theorem dX8_hole_1 : decode cX8_hole 1 = .ok (.iconst 0, 1) := by decide +kernel
theorem dX8_hole_2 : decode cX8_hole 2 = .ok (.iconst 5, 1) := by decide +kernel
theorem dX8_hole_3 : decode cX8_hole 3 = .ok (.invokestatic 92, 3) := by decide +kernel
theorem dX8_hole_6 : decode cX8_hole 6 = .ok (.ifCond .eq 28, 3) := by decide +kernel
theorem dX8_hole_9 : decode cX8_hole 9 = .ok (.iload_n 2, 1) := by decide +kernel
theorem dX8_hole_10 : decode cX8_hole 10 = .ok (.invokestatic 104, 3) := by decide +kernel
theorem dX8_hole_13 : decode cX8_hole 13 = .ok (.ifCond .eq 21, 3) := by decide +kernel
theorem dX8_hole_16 : decode cX8_hole 16 = .ok (.iload_n 3, 1) := by decide +kernel
theorem dX8_hole_17 : decode cX8_hole 17 = .ok (.iconst 0, 1) := by decide +kernel
theorem dX8_hole_18 : decode cX8_hole 18 = .ok (.bipush 99, 2) := by decide +kernel
theorem dX8_hole_20 : decode cX8_hole 20 = .ok (.invokestatic 92, 3) := by decide +kernel
theorem dX8_hole_23 : decode cX8_hole 23 = .ok (.ifCond .eq 11, 3) := by decide +kernel
theorem dX8_hole_26 : decode cX8_hole 26 = .ok (.iload 4, 2) := by decide +kernel
theorem dX8_hole_28 : decode cX8_hole 28 = .ok (.invokestatic 108, 3) := by decide +kernel
theorem dX8_hole_31 : decode cX8_hole 31 = .ok (.ifCond .ne 6, 3) := by decide +kernel
theorem dX8_hole_34 : decode cX8_hole 34 = .ok (.ldc 111, 2) := by decide +kernel
theorem dX8_hole_36 : decode cX8_hole 36 = .ok (.ireturn, 1) := by decide +kernel
theorem dX8_hole_37 : decode cX8_hole 37 = .ok (.aload_n 0, 1) := by decide +kernel
theorem dX8_hole_38 : decode cX8_hole 38 = .ok (.getfield 9, 3) := by decide +kernel
theorem dX8_hole_41 : decode cX8_hole 41 = .ok (.iconst 1, 1) := by decide +kernel
theorem dX8_hole_42 : decode cX8_hole 42 = .ok (.iaload, 1) := by decide +kernel
theorem dX8_hole_43 : decode cX8_hole 43 = .ok (.bipush 10, 2) := by decide +kernel
theorem dX8_hole_45 : decode cX8_hole 45 = .ok (.if_icmp .ne 8, 3) := by decide +kernel
theorem dX8_hole_48 : decode cX8_hole 48 = .ok (.ldc 112, 2) := by decide +kernel
theorem dX8_hole_50 : decode cX8_hole 50 = .ok (.goto 12, 3) := by decide +kernel
theorem dX8_hole_53 : decode cX8_hole 53 = .ok (.aload_n 0, 1) := by decide +kernel
theorem dX8_hole_54 : decode cX8_hole 54 = .ok (.iload_n 1, 1) := by decide +kernel
theorem dX8_hole_55 : decode cX8_hole 55 = .ok (.iload_n 2, 1) := by decide +kernel
theorem dX8_hole_56 : decode cX8_hole 56 = .ok (.iload_n 3, 1) := by decide +kernel
theorem dX8_hole_57 : decode cX8_hole 57 = .ok (.iload 4, 2) := by decide +kernel
theorem dX8_hole_59 : decode cX8_hole 59 = .ok (.invokevirtual 113, 3) := by decide +kernel
theorem dX8_hole_62 : decode cX8_hole 62 = .ok (.ireturn, 1) := by decide +kernel
theorem dX8_worthOf_0 : decode cX8_worthOf 0 = .ok (.aload_n 0, 1) := by decide +kernel
theorem dX8_worthOf_1 : decode cX8_worthOf 1 = .ok (.iload_n 1, 1) := by decide +kernel
theorem dX8_worthOf_2 : decode cX8_worthOf 2 = .ok (.iconst 2, 1) := by decide +kernel
theorem dX8_worthOf_3 : decode cX8_worthOf 3 = .ok (.invokevirtual 117, 3) := by decide +kernel
theorem dX8_worthOf_6 : decode cX8_worthOf 6 = .ok (.istore_n 2, 1) := by decide +kernel
theorem dX8_worthOf_7 : decode cX8_worthOf 7 = .ok (.aload_n 0, 1) := by decide +kernel
theorem dX8_worthOf_8 : decode cX8_worthOf 8 = .ok (.iload_n 1, 1) := by decide +kernel
theorem dX8_worthOf_9 : decode cX8_worthOf 9 = .ok (.iconst 0, 1) := by decide +kernel
theorem dX8_worthOf_10 : decode cX8_worthOf 10 = .ok (.invokevirtual 117, 3) := by decide +kernel
theorem dX8_worthOf_13 : decode cX8_worthOf 13 = .ok (.tableswitch 72 1 5 #[35, 44, 49, 60, 65], 35) := by decide +kernel
theorem dX8_worthOf_48 : decode cX8_worthOf 48 = .ok (.iload_n 2, 1) := by decide +kernel
theorem dX8_worthOf_49 : decode cX8_worthOf 49 = .ok (.aload_n 0, 1) := by decide +kernel
theorem dX8_worthOf_50 : decode cX8_worthOf 50 = .ok (.iload_n 1, 1) := by decide +kernel
theorem dX8_worthOf_51 : decode cX8_worthOf 51 = .ok (.iconst 3, 1) := by decide +kernel
theorem dX8_worthOf_52 : decode cX8_worthOf 52 = .ok (.invokevirtual 117, 3) := by decide +kernel
theorem dX8_worthOf_55 : decode cX8_worthOf 55 = .ok (.iadd, 1) := by decide +kernel
theorem dX8_worthOf_56 : decode cX8_worthOf 56 = .ok (.ireturn, 1) := by decide +kernel
theorem dX8_worthOf_57 : decode cX8_worthOf 57 = .ok (.bipush 120, 2) := by decide +kernel
theorem dX8_worthOf_59 : decode cX8_worthOf 59 = .ok (.iload_n 2, 1) := by decide +kernel
theorem dX8_worthOf_60 : decode cX8_worthOf 60 = .ok (.isub, 1) := by decide +kernel
theorem dX8_worthOf_61 : decode cX8_worthOf 61 = .ok (.ireturn, 1) := by decide +kernel
theorem dX8_worthOf_62 : decode cX8_worthOf 62 = .ok (.iconst 2, 1) := by decide +kernel
theorem dX8_worthOf_63 : decode cX8_worthOf 63 = .ok (.iload_n 2, 1) := by decide +kernel
theorem dX8_worthOf_64 : decode cX8_worthOf 64 = .ok (.aload_n 0, 1) := by decide +kernel
theorem dX8_worthOf_65 : decode cX8_worthOf 65 = .ok (.iload_n 1, 1) := by decide +kernel
theorem dX8_worthOf_66 : decode cX8_worthOf 66 = .ok (.iconst 3, 1) := by decide +kernel
theorem dX8_worthOf_67 : decode cX8_worthOf 67 = .ok (.invokevirtual 117, 3) := by decide +kernel
theorem dX8_worthOf_70 : decode cX8_worthOf 70 = .ok (.iadd, 1) := by decide +kernel
theorem dX8_worthOf_71 : decode cX8_worthOf 71 = .ok (.imul, 1) := by decide +kernel
theorem dX8_worthOf_72 : decode cX8_worthOf 72 = .ok (.ireturn, 1) := by decide +kernel
theorem dX8_worthOf_73 : decode cX8_worthOf 73 = .ok (.bipush 111, 2) := by decide +kernel
theorem dX8_worthOf_75 : decode cX8_worthOf 75 = .ok (.iload_n 2, 1) := by decide +kernel
theorem dX8_worthOf_76 : decode cX8_worthOf 76 = .ok (.isub, 1) := by decide +kernel
theorem dX8_worthOf_77 : decode cX8_worthOf 77 = .ok (.ireturn, 1) := by decide +kernel
theorem dX8_worthOf_78 : decode cX8_worthOf 78 = .ok (.aload_n 0, 1) := by decide +kernel
theorem dX8_worthOf_79 : decode cX8_worthOf 79 = .ok (.iload_n 1, 1) := by decide +kernel
theorem dX8_worthOf_80 : decode cX8_worthOf 80 = .ok (.iconst 1, 1) := by decide +kernel
theorem dX8_worthOf_81 : decode cX8_worthOf 81 = .ok (.invokevirtual 117, 3) := by decide +kernel
theorem dX8_worthOf_84 : decode cX8_worthOf 84 = .ok (.ireturn, 1) := by decide +kernel
theorem dX8_worthOf_85 : decode cX8_worthOf 85 = .ok (.iload_n 2, 1) := by decide +kernel
theorem dX8_worthOf_86 : decode cX8_worthOf 86 = .ok (.ireturn, 1) := by decide +kernel
theorem dX8_told_0 : decode cX8_told 0 = .ok (.aload_n 0, 1) := by decide +kernel
theorem dX8_told_1 : decode cX8_told 1 = .ok (.iload_n 1, 1) := by decide +kernel
theorem dX8_told_2 : decode cX8_told 2 = .ok (.invokevirtual 121, 3) := by decide +kernel
theorem dX8_told_5 : decode cX8_told 5 = .ok (.ifCond .eq 12, 3) := by decide +kernel
theorem dX8_told_8 : decode cX8_told 8 = .ok (.iload_n 2, 1) := by decide +kernel
theorem dX8_told_9 : decode cX8_told 9 = .ok (.iconst 0, 1) := by decide +kernel
theorem dX8_told_10 : decode cX8_told 10 = .ok (.iconst 5, 1) := by decide +kernel
theorem dX8_told_11 : decode cX8_told 11 = .ok (.invokestatic 92, 3) := by decide +kernel
theorem dX8_told_14 : decode cX8_told 14 = .ok (.ifCond .ne 6, 3) := by decide +kernel
theorem dX8_told_17 : decode cX8_told 17 = .ok (.ldc 111, 2) := by decide +kernel
theorem dX8_told_19 : decode cX8_told 19 = .ok (.ireturn, 1) := by decide +kernel
theorem dX8_told_20 : decode cX8_told 20 = .ok (.iload_n 2, 1) := by decide +kernel
theorem dX8_told_21 : decode cX8_told 21 = .ok (.iconst 5, 1) := by decide +kernel
theorem dX8_told_22 : decode cX8_told 22 = .ok (.if_icmp .ge 12, 3) := by decide +kernel
theorem dX8_told_25 : decode cX8_told 25 = .ok (.aload_n 0, 1) := by decide +kernel
theorem dX8_told_26 : decode cX8_told 26 = .ok (.iload_n 1, 1) := by decide +kernel
theorem dX8_told_27 : decode cX8_told 27 = .ok (.iload_n 2, 1) := by decide +kernel
theorem dX8_told_28 : decode cX8_told 28 = .ok (.invokevirtual 117, 3) := by decide +kernel
theorem dX8_told_31 : decode cX8_told 31 = .ok (.goto 8, 3) := by decide +kernel
theorem dX8_told_34 : decode cX8_told 34 = .ok (.aload_n 0, 1) := by decide +kernel
theorem dX8_told_35 : decode cX8_told 35 = .ok (.iload_n 1, 1) := by decide +kernel
theorem dX8_told_36 : decode cX8_told 36 = .ok (.invokevirtual 124, 3) := by decide +kernel
theorem dX8_told_39 : decode cX8_told 39 = .ok (.ireturn, 1) := by decide +kernel
theorem dX8_isUnder_0 : decode cX8_isUnder 0 = .ok (.iload_n 1, 1) := by decide +kernel
theorem dX8_isUnder_1 : decode cX8_isUnder 1 = .ok (.ifCond .eq 28, 3) := by decide +kernel
theorem dX8_isUnder_4 : decode cX8_isUnder 4 = .ok (.iload_n 0, 1) := by decide +kernel
theorem dX8_isUnder_5 : decode cX8_isUnder 5 = .ok (.iload_n 1, 1) := by decide +kernel
theorem dX8_isUnder_6 : decode cX8_isUnder 6 = .ok (.if_icmp .eq 23, 3) := by decide +kernel
theorem dX8_isUnder_9 : decode cX8_isUnder 9 = .ok (.iload_n 1, 1) := by decide +kernel
theorem dX8_isUnder_10 : decode cX8_isUnder 10 = .ok (.iconst 1, 1) := by decide +kernel
theorem dX8_isUnder_11 : decode cX8_isUnder 11 = .ok (.if_icmp .ne 8, 3) := by decide +kernel
theorem dX8_isUnder_14 : decode cX8_isUnder 14 = .ok (.iload_n 0, 1) := by decide +kernel
theorem dX8_isUnder_15 : decode cX8_isUnder 15 = .ok (.iconst 3, 1) := by decide +kernel
theorem dX8_isUnder_16 : decode cX8_isUnder 16 = .ok (.if_icmp .eq 13, 3) := by decide +kernel
theorem dX8_isUnder_19 : decode cX8_isUnder 19 = .ok (.iload_n 1, 1) := by decide +kernel
theorem dX8_isUnder_20 : decode cX8_isUnder 20 = .ok (.iconst 2, 1) := by decide +kernel
theorem dX8_isUnder_21 : decode cX8_isUnder 21 = .ok (.if_icmp .ne 12, 3) := by decide +kernel
theorem dX8_isUnder_24 : decode cX8_isUnder 24 = .ok (.iload_n 0, 1) := by decide +kernel
theorem dX8_isUnder_25 : decode cX8_isUnder 25 = .ok (.iconst 4, 1) := by decide +kernel
theorem dX8_isUnder_26 : decode cX8_isUnder 26 = .ok (.if_icmp .ne 7, 3) := by decide +kernel
theorem dX8_isUnder_29 : decode cX8_isUnder 29 = .ok (.iconst 1, 1) := by decide +kernel
theorem dX8_isUnder_30 : decode cX8_isUnder 30 = .ok (.goto 4, 3) := by decide +kernel
theorem dX8_isUnder_33 : decode cX8_isUnder 33 = .ok (.iconst 0, 1) := by decide +kernel
theorem dX8_isUnder_34 : decode cX8_isUnder 34 = .ok (.ireturn, 1) := by decide +kernel
theorem dX8_as_0 : decode cX8_as 0 = .ok (.aload_n 0, 1) := by decide +kernel
theorem dX8_as_1 : decode cX8_as 1 = .ok (.iload_n 1, 1) := by decide +kernel
theorem dX8_as_2 : decode cX8_as 2 = .ok (.invokevirtual 121, 3) := by decide +kernel
theorem dX8_as_5 : decode cX8_as 5 = .ok (.ifCond .eq 12, 3) := by decide +kernel
theorem dX8_as_8 : decode cX8_as 8 = .ok (.iload_n 2, 1) := by decide +kernel
theorem dX8_as_9 : decode cX8_as 9 = .ok (.iconst 0, 1) := by decide +kernel
theorem dX8_as_10 : decode cX8_as 10 = .ok (.iconst 5, 1) := by decide +kernel
theorem dX8_as_11 : decode cX8_as 11 = .ok (.invokestatic 92, 3) := by decide +kernel
theorem dX8_as_14 : decode cX8_as 14 = .ok (.ifCond .ne 6, 3) := by decide +kernel
theorem dX8_as_17 : decode cX8_as 17 = .ok (.ldc 111, 2) := by decide +kernel
theorem dX8_as_19 : decode cX8_as 19 = .ok (.ireturn, 1) := by decide +kernel
theorem dX8_as_20 : decode cX8_as 20 = .ok (.aload_n 0, 1) := by decide +kernel
theorem dX8_as_21 : decode cX8_as 21 = .ok (.iload_n 1, 1) := by decide +kernel
theorem dX8_as_22 : decode cX8_as 22 = .ok (.iconst 0, 1) := by decide +kernel
theorem dX8_as_23 : decode cX8_as 23 = .ok (.invokevirtual 117, 3) := by decide +kernel
theorem dX8_as_26 : decode cX8_as 26 = .ok (.iload_n 2, 1) := by decide +kernel
theorem dX8_as_27 : decode cX8_as 27 = .ok (.invokestatic 128, 3) := by decide +kernel
theorem dX8_as_30 : decode cX8_as 30 = .ok (.ifCond .eq 12, 3) := by decide +kernel
theorem dX8_as_33 : decode cX8_as 33 = .ok (.aload_n 0, 1) := by decide +kernel
theorem dX8_as_34 : decode cX8_as 34 = .ok (.iload_n 1, 1) := by decide +kernel
theorem dX8_as_35 : decode cX8_as 35 = .ok (.iconst 2, 1) := by decide +kernel
theorem dX8_as_36 : decode cX8_as 36 = .ok (.invokevirtual 117, 3) := by decide +kernel
theorem dX8_as_39 : decode cX8_as 39 = .ok (.goto 5, 3) := by decide +kernel
theorem dX8_as_42 : decode cX8_as 42 = .ok (.ldc 132, 2) := by decide +kernel
theorem dX8_as_44 : decode cX8_as 44 = .ok (.ireturn, 1) := by decide +kernel
theorem dX8_turns_0 : decode cX8_turns 0 = .ok (.aload_n 0, 1) := by decide +kernel
theorem dX8_turns_1 : decode cX8_turns 1 = .ok (.iload_n 1, 1) := by decide +kernel
theorem dX8_turns_2 : decode cX8_turns 2 = .ok (.invokevirtual 121, 3) := by decide +kernel
theorem dX8_turns_5 : decode cX8_turns 5 = .ok (.ifCond .eq 26, 3) := by decide +kernel
theorem dX8_turns_8 : decode cX8_turns 8 = .ok (.iload_n 2, 1) := by decide +kernel
theorem dX8_turns_9 : decode cX8_turns 9 = .ok (.iconst 0, 1) := by decide +kernel
theorem dX8_turns_10 : decode cX8_turns 10 = .ok (.iconst 5, 1) := by decide +kernel
theorem dX8_turns_11 : decode cX8_turns 11 = .ok (.invokestatic 92, 3) := by decide +kernel
theorem dX8_turns_14 : decode cX8_turns 14 = .ok (.ifCond .eq 17, 3) := by decide +kernel
theorem dX8_turns_17 : decode cX8_turns 17 = .ok (.aload_n 0, 1) := by decide +kernel
theorem dX8_turns_18 : decode cX8_turns 18 = .ok (.bipush 21, 2) := by decide +kernel
theorem dX8_turns_20 : decode cX8_turns 20 = .ok (.iconst 5, 1) := by decide +kernel
theorem dX8_turns_21 : decode cX8_turns 21 = .ok (.iload_n 1, 1) := by decide +kernel
theorem dX8_turns_22 : decode cX8_turns 22 = .ok (.imul, 1) := by decide +kernel
theorem dX8_turns_23 : decode cX8_turns 23 = .ok (.iadd, 1) := by decide +kernel
theorem dX8_turns_24 : decode cX8_turns 24 = .ok (.iload_n 2, 1) := by decide +kernel
theorem dX8_turns_25 : decode cX8_turns 25 = .ok (.invokevirtual 133, 3) := by decide +kernel
theorem dX8_turns_28 : decode cX8_turns 28 = .ok (.goto 5, 3) := by decide +kernel
theorem dX8_turns_31 : decode cX8_turns 31 = .ok (.ldc 111, 2) := by decide +kernel
theorem dX8_turns_33 : decode cX8_turns 33 = .ok (.ireturn, 1) := by decide +kernel
theorem dX8_set_0 : decode cX8_set 0 = .ok (.aload_n 0, 1) := by decide +kernel
theorem dX8_set_1 : decode cX8_set 1 = .ok (.iload_n 1, 1) := by decide +kernel
theorem dX8_set_2 : decode cX8_set 2 = .ok (.invokevirtual 121, 3) := by decide +kernel
theorem dX8_set_5 : decode cX8_set 5 = .ok (.ifCond .eq 53, 3) := by decide +kernel
theorem dX8_set_8 : decode cX8_set 8 = .ok (.iload_n 2, 1) := by decide +kernel
theorem dX8_set_9 : decode cX8_set 9 = .ok (.iconst 1, 1) := by decide +kernel
theorem dX8_set_10 : decode cX8_set 10 = .ok (.iconst 4, 1) := by decide +kernel
theorem dX8_set_11 : decode cX8_set 11 = .ok (.invokestatic 92, 3) := by decide +kernel
theorem dX8_set_14 : decode cX8_set 14 = .ok (.ifCond .eq 44, 3) := by decide +kernel
theorem dX8_set_17 : decode cX8_set 17 = .ok (.iload_n 3, 1) := by decide +kernel
theorem dX8_set_18 : decode cX8_set 18 = .ok (.iconst 0, 1) := by decide +kernel
theorem dX8_set_19 : decode cX8_set 19 = .ok (.iload_n 2, 1) := by decide +kernel
theorem dX8_set_20 : decode cX8_set 20 = .ok (.iconst 1, 1) := by decide +kernel
theorem dX8_set_21 : decode cX8_set 21 = .ok (.if_icmp .ne 8, 3) := by decide +kernel
theorem dX8_set_24 : decode cX8_set 24 = .ok (.bipush 29, 2) := by decide +kernel
theorem dX8_set_26 : decode cX8_set 26 = .ok (.goto 26, 3) := by decide +kernel
theorem dX8_set_29 : decode cX8_set 29 = .ok (.iload_n 2, 1) := by decide +kernel
theorem dX8_set_30 : decode cX8_set 30 = .ok (.iconst 2, 1) := by decide +kernel
theorem dX8_set_31 : decode cX8_set 31 = .ok (.if_icmp .ne 8, 3) := by decide +kernel
theorem dX8_set_34 : decode cX8_set 34 = .ok (.bipush 99, 2) := by decide +kernel
theorem dX8_set_36 : decode cX8_set 36 = .ok (.goto 16, 3) := by decide +kernel
theorem dX8_set_39 : decode cX8_set 39 = .ok (.iload_n 2, 1) := by decide +kernel
theorem dX8_set_40 : decode cX8_set 40 = .ok (.iconst 3, 1) := by decide +kernel
theorem dX8_set_41 : decode cX8_set 41 = .ok (.if_icmp .ne 8, 3) := by decide +kernel
theorem dX8_set_44 : decode cX8_set 44 = .ok (.bipush 7, 2) := by decide +kernel
theorem dX8_set_46 : decode cX8_set 46 = .ok (.goto 6, 3) := by decide +kernel
theorem dX8_set_49 : decode cX8_set 49 = .ok (.sipush 999, 3) := by decide +kernel
theorem dX8_set_52 : decode cX8_set 52 = .ok (.invokestatic 92, 3) := by decide +kernel
theorem dX8_set_55 : decode cX8_set 55 = .ok (.ifCond .ne 6, 3) := by decide +kernel
theorem dX8_set_58 : decode cX8_set 58 = .ok (.ldc 111, 2) := by decide +kernel
theorem dX8_set_60 : decode cX8_set 60 = .ok (.ireturn, 1) := by decide +kernel
theorem dX8_set_61 : decode cX8_set 61 = .ok (.aload_n 0, 1) := by decide +kernel
theorem dX8_set_62 : decode cX8_set 62 = .ok (.bipush 21, 2) := by decide +kernel
theorem dX8_set_64 : decode cX8_set 64 = .ok (.iconst 5, 1) := by decide +kernel
theorem dX8_set_65 : decode cX8_set 65 = .ok (.iload_n 1, 1) := by decide +kernel
theorem dX8_set_66 : decode cX8_set 66 = .ok (.imul, 1) := by decide +kernel
theorem dX8_set_67 : decode cX8_set 67 = .ok (.iadd, 1) := by decide +kernel
theorem dX8_set_68 : decode cX8_set 68 = .ok (.iload_n 2, 1) := by decide +kernel
theorem dX8_set_69 : decode cX8_set 69 = .ok (.iadd, 1) := by decide +kernel
theorem dX8_set_70 : decode cX8_set 70 = .ok (.iload_n 3, 1) := by decide +kernel
theorem dX8_set_71 : decode cX8_set 71 = .ok (.invokevirtual 133, 3) := by decide +kernel
theorem dX8_set_74 : decode cX8_set 74 = .ok (.ireturn, 1) := by decide +kernel
theorem dX8_settlesBy_0 : decode cX8_settlesBy 0 = .ok (.aload_n 0, 1) := by decide +kernel
theorem dX8_settlesBy_1 : decode cX8_settlesBy 1 = .ok (.iconst 1, 1) := by decide +kernel
theorem dX8_settlesBy_2 : decode cX8_settlesBy 2 = .ok (.invokevirtual 136, 3) := by decide +kernel
theorem dX8_settlesBy_5 : decode cX8_settlesBy 5 = .ok (.istore_n 3, 1) := by decide +kernel
theorem dX8_settlesBy_6 : decode cX8_settlesBy 6 = .ok (.aload_n 0, 1) := by decide +kernel
theorem dX8_settlesBy_7 : decode cX8_settlesBy 7 = .ok (.getfield 61, 3) := by decide +kernel
theorem dX8_settlesBy_10 : decode cX8_settlesBy 10 = .ok (.iconst 0, 1) := by decide +kernel
theorem dX8_settlesBy_11 : decode cX8_settlesBy 11 = .ok (.iload_n 2, 1) := by decide +kernel
theorem dX8_settlesBy_12 : decode cX8_settlesBy 12 = .ok (.iastore, 1) := by decide +kernel
theorem dX8_settlesBy_13 : decode cX8_settlesBy 13 = .ok (.aload_n 0, 1) := by decide +kernel
theorem dX8_settlesBy_14 : decode cX8_settlesBy 14 = .ok (.getfield 61, 3) := by decide +kernel
theorem dX8_settlesBy_17 : decode cX8_settlesBy 17 = .ok (.iconst 1, 1) := by decide +kernel
theorem dX8_settlesBy_18 : decode cX8_settlesBy 18 = .ok (.aload_n 0, 1) := by decide +kernel
theorem dX8_settlesBy_19 : decode cX8_settlesBy 19 = .ok (.iload_n 1, 1) := by decide +kernel
theorem dX8_settlesBy_20 : decode cX8_settlesBy 20 = .ok (.iconst 2, 1) := by decide +kernel
theorem dX8_settlesBy_21 : decode cX8_settlesBy 21 = .ok (.invokevirtual 117, 3) := by decide +kernel
theorem dX8_settlesBy_24 : decode cX8_settlesBy 24 = .ok (.iastore, 1) := by decide +kernel
theorem dX8_settlesBy_25 : decode cX8_settlesBy 25 = .ok (.aload_n 0, 1) := by decide +kernel
theorem dX8_settlesBy_26 : decode cX8_settlesBy 26 = .ok (.getfield 61, 3) := by decide +kernel
theorem dX8_settlesBy_29 : decode cX8_settlesBy 29 = .ok (.iconst 2, 1) := by decide +kernel
theorem dX8_settlesBy_30 : decode cX8_settlesBy 30 = .ok (.aload_n 0, 1) := by decide +kernel
theorem dX8_settlesBy_31 : decode cX8_settlesBy 31 = .ok (.iload_n 1, 1) := by decide +kernel
theorem dX8_settlesBy_32 : decode cX8_settlesBy 32 = .ok (.iconst 4, 1) := by decide +kernel
theorem dX8_settlesBy_33 : decode cX8_settlesBy 33 = .ok (.invokevirtual 117, 3) := by decide +kernel
theorem dX8_settlesBy_36 : decode cX8_settlesBy 36 = .ok (.iastore, 1) := by decide +kernel
theorem dX8_settlesBy_37 : decode cX8_settlesBy 37 = .ok (.iload_n 3, 1) := by decide +kernel
theorem dX8_settlesBy_38 : decode cX8_settlesBy 38 = .ok (.ifCond .ge 9, 3) := by decide +kernel
theorem dX8_settlesBy_41 : decode cX8_settlesBy 41 = .ok (.iload_n 2, 1) := by decide +kernel
theorem dX8_settlesBy_42 : decode cX8_settlesBy 42 = .ok (.iconst 5, 1) := by decide +kernel
theorem dX8_settlesBy_43 : decode cX8_settlesBy 43 = .ok (.idiv, 1) := by decide +kernel
theorem dX8_settlesBy_44 : decode cX8_settlesBy 44 = .ok (.goto 14, 3) := by decide +kernel
theorem dX8_settlesBy_47 : decode cX8_settlesBy 47 = .ok (.aload_n 0, 1) := by decide +kernel
theorem dX8_settlesBy_48 : decode cX8_settlesBy 48 = .ok (.iload_n 3, 1) := by decide +kernel
theorem dX8_settlesBy_49 : decode cX8_settlesBy 49 = .ok (.invokevirtual 139, 3) := by decide +kernel
theorem dX8_settlesBy_52 : decode cX8_settlesBy 52 = .ok (.iconst 0, 1) := by decide +kernel
theorem dX8_settlesBy_53 : decode cX8_settlesBy 53 = .ok (.bipush 9, 2) := by decide +kernel
theorem dX8_settlesBy_55 : decode cX8_settlesBy 55 = .ok (.invokestatic 142, 3) := by decide +kernel
theorem dX8_settlesBy_58 : decode cX8_settlesBy 58 = .ok (.istore 4, 2) := by decide +kernel
theorem dX8_settlesBy_60 : decode cX8_settlesBy 60 = .ok (.iconst 2, 1) := by decide +kernel
theorem dX8_settlesBy_61 : decode cX8_settlesBy 61 = .ok (.iload 4, 2) := by decide +kernel
theorem dX8_settlesBy_63 : decode cX8_settlesBy 63 = .ok (.imul, 1) := by decide +kernel
theorem dX8_settlesBy_64 : decode cX8_settlesBy 64 = .ok (.iconst 0, 1) := by decide +kernel
theorem dX8_settlesBy_65 : decode cX8_settlesBy 65 = .ok (.bipush 9, 2) := by decide +kernel
theorem dX8_settlesBy_67 : decode cX8_settlesBy 67 = .ok (.invokestatic 142, 3) := by decide +kernel
theorem dX8_settlesBy_70 : decode cX8_settlesBy 70 = .ok (.istore 5, 2) := by decide +kernel
theorem dX8_settlesBy_72 : decode cX8_settlesBy 72 = .ok (.aload_n 0, 1) := by decide +kernel
theorem dX8_settlesBy_73 : decode cX8_settlesBy 73 = .ok (.iload_n 1, 1) := by decide +kernel
theorem dX8_settlesBy_74 : decode cX8_settlesBy 74 = .ok (.iconst 0, 1) := by decide +kernel
theorem dX8_settlesBy_75 : decode cX8_settlesBy 75 = .ok (.invokevirtual 117, 3) := by decide +kernel
theorem dX8_settlesBy_78 : decode cX8_settlesBy 78 = .ok (.tableswitch 54 1 5 #[34, 39, 42, 44, 49], 34) := by decide +kernel
theorem dX8_settlesBy_112 : decode cX8_settlesBy 112 = .ok (.iload 4, 2) := by decide +kernel
theorem dX8_settlesBy_114 : decode cX8_settlesBy 114 = .ok (.iconst 1, 1) := by decide +kernel
theorem dX8_settlesBy_115 : decode cX8_settlesBy 115 = .ok (.iadd, 1) := by decide +kernel
theorem dX8_settlesBy_116 : decode cX8_settlesBy 116 = .ok (.ireturn, 1) := by decide +kernel
theorem dX8_settlesBy_117 : decode cX8_settlesBy 117 = .ok (.iload 5, 2) := by decide +kernel
theorem dX8_settlesBy_119 : decode cX8_settlesBy 119 = .ok (.ireturn, 1) := by decide +kernel
theorem dX8_settlesBy_120 : decode cX8_settlesBy 120 = .ok (.iconst 0, 1) := by decide +kernel
theorem dX8_settlesBy_121 : decode cX8_settlesBy 121 = .ok (.ireturn, 1) := by decide +kernel
theorem dX8_settlesBy_122 : decode cX8_settlesBy 122 = .ok (.iload 5, 2) := by decide +kernel
theorem dX8_settlesBy_124 : decode cX8_settlesBy 124 = .ok (.iconst 2, 1) := by decide +kernel
theorem dX8_settlesBy_125 : decode cX8_settlesBy 125 = .ok (.idiv, 1) := by decide +kernel
theorem dX8_settlesBy_126 : decode cX8_settlesBy 126 = .ok (.ireturn, 1) := by decide +kernel
theorem dX8_settlesBy_127 : decode cX8_settlesBy 127 = .ok (.iload_n 2, 1) := by decide +kernel
theorem dX8_settlesBy_128 : decode cX8_settlesBy 128 = .ok (.bipush 9, 2) := by decide +kernel
theorem dX8_settlesBy_130 : decode cX8_settlesBy 130 = .ok (.idiv, 1) := by decide +kernel
theorem dX8_settlesBy_131 : decode cX8_settlesBy 131 = .ok (.ireturn, 1) := by decide +kernel
theorem dX8_settlesBy_132 : decode cX8_settlesBy 132 = .ok (.iload 4, 2) := by decide +kernel
theorem dX8_settlesBy_134 : decode cX8_settlesBy 134 = .ok (.ireturn, 1) := by decide +kernel
theorem dX8_settles_0 : decode cX8_settles 0 = .ok (.aload_n 0, 1) := by decide +kernel
theorem dX8_settles_1 : decode cX8_settles 1 = .ok (.iload_n 1, 1) := by decide +kernel
theorem dX8_settles_2 : decode cX8_settles 2 = .ok (.invokevirtual 121, 3) := by decide +kernel
theorem dX8_settles_5 : decode cX8_settles 5 = .ok (.ifCond .eq 22, 3) := by decide +kernel
theorem dX8_settles_8 : decode cX8_settles 8 = .ok (.iload_n 2, 1) := by decide +kernel
theorem dX8_settles_9 : decode cX8_settles 9 = .ok (.iconst 0, 1) := by decide +kernel
theorem dX8_settles_10 : decode cX8_settles 10 = .ok (.bipush 9, 2) := by decide +kernel
theorem dX8_settles_12 : decode cX8_settles 12 = .ok (.invokestatic 92, 3) := by decide +kernel
theorem dX8_settles_15 : decode cX8_settles 15 = .ok (.ifCond .eq 12, 3) := by decide +kernel
theorem dX8_settles_18 : decode cX8_settles 18 = .ok (.aload_n 0, 1) := by decide +kernel
theorem dX8_settles_19 : decode cX8_settles 19 = .ok (.iload_n 1, 1) := by decide +kernel
theorem dX8_settles_20 : decode cX8_settles 20 = .ok (.iload_n 2, 1) := by decide +kernel
theorem dX8_settles_21 : decode cX8_settles 21 = .ok (.invokevirtual 146, 3) := by decide +kernel
theorem dX8_settles_24 : decode cX8_settles 24 = .ok (.goto 5, 3) := by decide +kernel
theorem dX8_settles_27 : decode cX8_settles 27 = .ok (.ldc 111, 2) := by decide +kernel
theorem dX8_settles_29 : decode cX8_settles 29 = .ok (.ireturn, 1) := by decide +kernel
theorem dX8_rule_0 : decode cX8_rule 0 = .ok (.iload_n 1, 1) := by decide +kernel
theorem dX8_rule_1 : decode cX8_rule 1 = .ok (.iconst 0, 1) := by decide +kernel
theorem dX8_rule_2 : decode cX8_rule 2 = .ok (.iconst 1, 1) := by decide +kernel
theorem dX8_rule_3 : decode cX8_rule 3 = .ok (.invokestatic 92, 3) := by decide +kernel
theorem dX8_rule_6 : decode cX8_rule 6 = .ok (.ifCond .eq 37, 3) := by decide +kernel
theorem dX8_rule_9 : decode cX8_rule 9 = .ok (.iload_n 2, 1) := by decide +kernel
theorem dX8_rule_10 : decode cX8_rule 10 = .ok (.bipush 50, 2) := by decide +kernel
theorem dX8_rule_12 : decode cX8_rule 12 = .ok (.iload_n 1, 1) := by decide +kernel
theorem dX8_rule_13 : decode cX8_rule 13 = .ok (.imul, 1) := by decide +kernel
theorem dX8_rule_14 : decode cX8_rule 14 = .ok (.iload_n 1, 1) := by decide +kernel
theorem dX8_rule_15 : decode cX8_rule 15 = .ok (.ifCond .ne 8, 3) := by decide +kernel
theorem dX8_rule_18 : decode cX8_rule 18 = .ok (.bipush 29, 2) := by decide +kernel
theorem dX8_rule_20 : decode cX8_rule 20 = .ok (.goto 6, 3) := by decide +kernel
theorem dX8_rule_23 : decode cX8_rule 23 = .ok (.sipush 200, 3) := by decide +kernel
theorem dX8_rule_26 : decode cX8_rule 26 = .ok (.invokestatic 92, 3) := by decide +kernel
theorem dX8_rule_29 : decode cX8_rule 29 = .ok (.ifCond .eq 14, 3) := by decide +kernel
theorem dX8_rule_32 : decode cX8_rule 32 = .ok (.aload_n 0, 1) := by decide +kernel
theorem dX8_rule_33 : decode cX8_rule 33 = .ok (.iconst 3, 1) := by decide +kernel
theorem dX8_rule_34 : decode cX8_rule 34 = .ok (.iload_n 1, 1) := by decide +kernel
theorem dX8_rule_35 : decode cX8_rule 35 = .ok (.iadd, 1) := by decide +kernel
theorem dX8_rule_36 : decode cX8_rule 36 = .ok (.iload_n 2, 1) := by decide +kernel
theorem dX8_rule_37 : decode cX8_rule 37 = .ok (.invokevirtual 133, 3) := by decide +kernel
theorem dX8_rule_40 : decode cX8_rule 40 = .ok (.goto 5, 3) := by decide +kernel
theorem dX8_rule_43 : decode cX8_rule 43 = .ok (.ldc 111, 2) := by decide +kernel
theorem dX8_rule_45 : decode cX8_rule 45 = .ok (.ireturn, 1) := by decide +kernel
theorem dX8_draw_0 : decode cX8_draw 0 = .ok (.aload_n 0, 1) := by decide +kernel
theorem dX8_draw_1 : decode cX8_draw 1 = .ok (.getfield 9, 3) := by decide +kernel
theorem dX8_draw_4 : decode cX8_draw 4 = .ok (.iconst 0, 1) := by decide +kernel
theorem dX8_draw_5 : decode cX8_draw 5 = .ok (.aload_n 0, 1) := by decide +kernel
theorem dX8_draw_6 : decode cX8_draw 6 = .ok (.getfield 9, 3) := by decide +kernel
theorem dX8_draw_9 : decode cX8_draw 9 = .ok (.iconst 0, 1) := by decide +kernel
theorem dX8_draw_10 : decode cX8_draw 10 = .ok (.iaload, 1) := by decide +kernel
theorem dX8_draw_11 : decode cX8_draw 11 = .ok (.ldc 149, 2) := by decide +kernel
theorem dX8_draw_13 : decode cX8_draw 13 = .ok (.imul, 1) := by decide +kernel
theorem dX8_draw_14 : decode cX8_draw 14 = .ok (.sipush 12345, 3) := by decide +kernel
theorem dX8_draw_17 : decode cX8_draw 17 = .ok (.iadd, 1) := by decide +kernel
theorem dX8_draw_18 : decode cX8_draw 18 = .ok (.iastore, 1) := by decide +kernel
theorem dX8_draw_19 : decode cX8_draw 19 = .ok (.aload_n 0, 1) := by decide +kernel
theorem dX8_draw_20 : decode cX8_draw 20 = .ok (.getfield 9, 3) := by decide +kernel
theorem dX8_draw_23 : decode cX8_draw 23 = .ok (.iconst 0, 1) := by decide +kernel
theorem dX8_draw_24 : decode cX8_draw 24 = .ok (.iaload, 1) := by decide +kernel
theorem dX8_draw_25 : decode cX8_draw 25 = .ok (.bipush 8, 2) := by decide +kernel
theorem dX8_draw_27 : decode cX8_draw 27 = .ok (.iushr, 1) := by decide +kernel
theorem dX8_draw_28 : decode cX8_draw 28 = .ok (.ireturn, 1) := by decide +kernel
theorem dX8_deal_0 : decode cX8_deal 0 = .ok (.iload_n 1, 1) := by decide +kernel
theorem dX8_deal_1 : decode cX8_deal 1 = .ok (.iconst 1, 1) := by decide +kernel
theorem dX8_deal_2 : decode cX8_deal 2 = .ok (.bipush 10, 2) := by decide +kernel
theorem dX8_deal_4 : decode cX8_deal 4 = .ok (.invokestatic 92, 3) := by decide +kernel
theorem dX8_deal_7 : decode cX8_deal 7 = .ok (.ifCond .ne 6, 3) := by decide +kernel
theorem dX8_deal_10 : decode cX8_deal 10 = .ok (.ldc 111, 2) := by decide +kernel
theorem dX8_deal_12 : decode cX8_deal 12 = .ok (.ireturn, 1) := by decide +kernel
theorem dX8_deal_13 : decode cX8_deal 13 = .ok (.iconst 0, 1) := by decide +kernel
theorem dX8_deal_14 : decode cX8_deal 14 = .ok (.istore_n 2, 1) := by decide +kernel
theorem dX8_deal_15 : decode cX8_deal 15 = .ok (.iload_n 2, 1) := by decide +kernel
theorem dX8_deal_16 : decode cX8_deal 16 = .ok (.iload_n 1, 1) := by decide +kernel
theorem dX8_deal_17 : decode cX8_deal 17 = .ok (.if_icmp .ge 66, 3) := by decide +kernel
theorem dX8_deal_20 : decode cX8_deal 20 = .ok (.aload_n 0, 1) := by decide +kernel
theorem dX8_deal_21 : decode cX8_deal 21 = .ok (.getfield 9, 3) := by decide +kernel
theorem dX8_deal_24 : decode cX8_deal 24 = .ok (.iconst 1, 1) := by decide +kernel
theorem dX8_deal_25 : decode cX8_deal 25 = .ok (.iaload, 1) := by decide +kernel
theorem dX8_deal_26 : decode cX8_deal 26 = .ok (.bipush 10, 2) := by decide +kernel
theorem dX8_deal_28 : decode cX8_deal 28 = .ok (.if_icmp .ge 55, 3) := by decide +kernel
theorem dX8_deal_31 : decode cX8_deal 31 = .ok (.aload_n 0, 1) := by decide +kernel
theorem dX8_deal_32 : decode cX8_deal 32 = .ok (.invokevirtual 150, 3) := by decide +kernel
theorem dX8_deal_35 : decode cX8_deal 35 = .ok (.bipush 6, 2) := by decide +kernel
theorem dX8_deal_37 : decode cX8_deal 37 = .ok (.irem, 1) := by decide +kernel
theorem dX8_deal_38 : decode cX8_deal 38 = .ok (.istore_n 3, 1) := by decide +kernel
theorem dX8_deal_39 : decode cX8_deal 39 = .ok (.aload_n 0, 1) := by decide +kernel
theorem dX8_deal_40 : decode cX8_deal 40 = .ok (.invokevirtual 150, 3) := by decide +kernel
theorem dX8_deal_43 : decode cX8_deal 43 = .ok (.bipush 30, 2) := by decide +kernel
theorem dX8_deal_45 : decode cX8_deal 45 = .ok (.irem, 1) := by decide +kernel
theorem dX8_deal_46 : decode cX8_deal 46 = .ok (.istore 4, 2) := by decide +kernel
theorem dX8_deal_48 : decode cX8_deal 48 = .ok (.iconst 1, 1) := by decide +kernel
theorem dX8_deal_49 : decode cX8_deal 49 = .ok (.aload_n 0, 1) := by decide +kernel
theorem dX8_deal_50 : decode cX8_deal 50 = .ok (.invokevirtual 150, 3) := by decide +kernel
theorem dX8_deal_53 : decode cX8_deal 53 = .ok (.bipush 60, 2) := by decide +kernel
theorem dX8_deal_55 : decode cX8_deal 55 = .ok (.irem, 1) := by decide +kernel
theorem dX8_deal_56 : decode cX8_deal 56 = .ok (.iadd, 1) := by decide +kernel
theorem dX8_deal_57 : decode cX8_deal 57 = .ok (.istore 5, 2) := by decide +kernel
theorem dX8_deal_59 : decode cX8_deal 59 = .ok (.aload_n 0, 1) := by decide +kernel
theorem dX8_deal_60 : decode cX8_deal 60 = .ok (.iload_n 3, 1) := by decide +kernel
theorem dX8_deal_61 : decode cX8_deal 61 = .ok (.iload 4, 2) := by decide +kernel
theorem dX8_deal_63 : decode cX8_deal 63 = .ok (.iload 5, 2) := by decide +kernel
theorem dX8_deal_65 : decode cX8_deal 65 = .ok (.aload_n 0, 1) := by decide +kernel
theorem dX8_deal_66 : decode cX8_deal 66 = .ok (.invokevirtual 150, 3) := by decide +kernel
theorem dX8_deal_69 : decode cX8_deal 69 = .ok (.bipush 8, 2) := by decide +kernel
theorem dX8_deal_71 : decode cX8_deal 71 = .ok (.irem, 1) := by decide +kernel
theorem dX8_deal_72 : decode cX8_deal 72 = .ok (.invokevirtual 113, 3) := by decide +kernel
theorem dX8_deal_75 : decode cX8_deal 75 = .ok (.istore 6, 2) := by decide +kernel
theorem dX8_deal_77 : decode cX8_deal 77 = .ok (.iinc 2 1, 3) := by decide +kernel
theorem dX8_deal_80 : decode cX8_deal 80 = .ok (.goto (-65), 3) := by decide +kernel
theorem dX8_deal_83 : decode cX8_deal 83 = .ok (.iload_n 2, 1) := by decide +kernel
theorem dX8_deal_84 : decode cX8_deal 84 = .ok (.ireturn, 1) := by decide +kernel
theorem dX8_seed_0 : decode cX8_seed 0 = .ok (.aload_n 0, 1) := by decide +kernel
theorem dX8_seed_1 : decode cX8_seed 1 = .ok (.iconst 0, 1) := by decide +kernel
theorem dX8_seed_2 : decode cX8_seed 2 = .ok (.iload_n 1, 1) := by decide +kernel
theorem dX8_seed_3 : decode cX8_seed 3 = .ok (.invokevirtual 133, 3) := by decide +kernel
theorem dX8_seed_6 : decode cX8_seed 6 = .ok (.ireturn, 1) := by decide +kernel
theorem dX8_earthOf_0 : decode cX8_earthOf 0 = .ok (.iload_n 1, 1) := by decide +kernel
theorem dX8_earthOf_1 : decode cX8_earthOf 1 = .ok (.aload_n 0, 1) := by decide +kernel
theorem dX8_earthOf_2 : decode cX8_earthOf 2 = .ok (.getfield 9, 3) := by decide +kernel
theorem dX8_earthOf_5 : decode cX8_earthOf 5 = .ok (.iconst 4, 1) := by decide +kernel
theorem dX8_earthOf_6 : decode cX8_earthOf 6 = .ok (.iaload, 1) := by decide +kernel
theorem dX8_earthOf_7 : decode cX8_earthOf 7 = .ok (.imul, 1) := by decide +kernel
theorem dX8_earthOf_8 : decode cX8_earthOf 8 = .ok (.bipush 100, 2) := by decide +kernel
theorem dX8_earthOf_10 : decode cX8_earthOf 10 = .ok (.idiv, 1) := by decide +kernel
theorem dX8_earthOf_11 : decode cX8_earthOf 11 = .ok (.ireturn, 1) := by decide +kernel
theorem dX8_apart_0 : decode cX8_apart 0 = .ok (.aload_n 0, 1) := by decide +kernel
theorem dX8_apart_1 : decode cX8_apart 1 = .ok (.iload_n 1, 1) := by decide +kernel
theorem dX8_apart_2 : decode cX8_apart 2 = .ok (.iconst 1, 1) := by decide +kernel
theorem dX8_apart_3 : decode cX8_apart 3 = .ok (.invokevirtual 117, 3) := by decide +kernel
theorem dX8_apart_6 : decode cX8_apart 6 = .ok (.iload_n 2, 1) := by decide +kernel
theorem dX8_apart_7 : decode cX8_apart 7 = .ok (.isub, 1) := by decide +kernel
theorem dX8_apart_8 : decode cX8_apart 8 = .ok (.istore_n 3, 1) := by decide +kernel
theorem dX8_apart_9 : decode cX8_apart 9 = .ok (.iload_n 3, 1) := by decide +kernel
theorem dX8_apart_10 : decode cX8_apart 10 = .ok (.ifCond .ge 8, 3) := by decide +kernel
theorem dX8_apart_13 : decode cX8_apart 13 = .ok (.iload_n 3, 1) := by decide +kernel
theorem dX8_apart_14 : decode cX8_apart 14 = .ok (.ineg, 1) := by decide +kernel
theorem dX8_apart_15 : decode cX8_apart 15 = .ok (.goto 4, 3) := by decide +kernel
theorem dX8_apart_18 : decode cX8_apart 18 = .ok (.iload_n 3, 1) := by decide +kernel
theorem dX8_apart_19 : decode cX8_apart 19 = .ok (.ireturn, 1) := by decide +kernel
theorem dX8_lawOf_0 : decode cX8_lawOf 0 = .ok (.aload_n 0, 1) := by decide +kernel
theorem dX8_lawOf_1 : decode cX8_lawOf 1 = .ok (.iconst 0, 1) := by decide +kernel
theorem dX8_lawOf_2 : decode cX8_lawOf 2 = .ok (.invokevirtual 136, 3) := by decide +kernel
theorem dX8_lawOf_5 : decode cX8_lawOf 5 = .ok (.istore_n 2, 1) := by decide +kernel
theorem dX8_lawOf_6 : decode cX8_lawOf 6 = .ok (.aload_n 0, 1) := by decide +kernel
theorem dX8_lawOf_7 : decode cX8_lawOf 7 = .ok (.getfield 61, 3) := by decide +kernel
theorem dX8_lawOf_10 : decode cX8_lawOf 10 = .ok (.iconst 0, 1) := by decide +kernel
theorem dX8_lawOf_11 : decode cX8_lawOf 11 = .ok (.aload_n 0, 1) := by decide +kernel
theorem dX8_lawOf_12 : decode cX8_lawOf 12 = .ok (.iload_n 1, 1) := by decide +kernel
theorem dX8_lawOf_13 : decode cX8_lawOf 13 = .ok (.iconst 2, 1) := by decide +kernel
theorem dX8_lawOf_14 : decode cX8_lawOf 14 = .ok (.invokevirtual 117, 3) := by decide +kernel
theorem dX8_lawOf_17 : decode cX8_lawOf 17 = .ok (.iastore, 1) := by decide +kernel
theorem dX8_lawOf_18 : decode cX8_lawOf 18 = .ok (.aload_n 0, 1) := by decide +kernel
theorem dX8_lawOf_19 : decode cX8_lawOf 19 = .ok (.getfield 61, 3) := by decide +kernel
theorem dX8_lawOf_22 : decode cX8_lawOf 22 = .ok (.iconst 1, 1) := by decide +kernel
theorem dX8_lawOf_23 : decode cX8_lawOf 23 = .ok (.aload_n 0, 1) := by decide +kernel
theorem dX8_lawOf_24 : decode cX8_lawOf 24 = .ok (.iload_n 1, 1) := by decide +kernel
theorem dX8_lawOf_25 : decode cX8_lawOf 25 = .ok (.iconst 3, 1) := by decide +kernel
theorem dX8_lawOf_26 : decode cX8_lawOf 26 = .ok (.invokevirtual 117, 3) := by decide +kernel
theorem dX8_lawOf_29 : decode cX8_lawOf 29 = .ok (.iastore, 1) := by decide +kernel
theorem dX8_lawOf_30 : decode cX8_lawOf 30 = .ok (.iload_n 2, 1) := by decide +kernel
theorem dX8_lawOf_31 : decode cX8_lawOf 31 = .ok (.ifCond .ge 7, 3) := by decide +kernel
theorem dX8_lawOf_34 : decode cX8_lawOf 34 = .ok (.iconst 3, 1) := by decide +kernel
theorem dX8_lawOf_35 : decode cX8_lawOf 35 = .ok (.goto 14, 3) := by decide +kernel
theorem dX8_lawOf_38 : decode cX8_lawOf 38 = .ok (.aload_n 0, 1) := by decide +kernel
theorem dX8_lawOf_39 : decode cX8_lawOf 39 = .ok (.iload_n 2, 1) := by decide +kernel
theorem dX8_lawOf_40 : decode cX8_lawOf 40 = .ok (.invokevirtual 139, 3) := by decide +kernel
theorem dX8_lawOf_43 : decode cX8_lawOf 43 = .ok (.iconst 0, 1) := by decide +kernel
theorem dX8_lawOf_44 : decode cX8_lawOf 44 = .ok (.bipush 99, 2) := by decide +kernel
theorem dX8_lawOf_46 : decode cX8_lawOf 46 = .ok (.invokestatic 142, 3) := by decide +kernel
theorem dX8_lawOf_49 : decode cX8_lawOf 49 = .ok (.ireturn, 1) := by decide +kernel
theorem dX8_doesTake_0 : decode cX8_doesTake 0 = .ok (.iload_n 2, 1) := by decide +kernel
theorem dX8_doesTake_1 : decode cX8_doesTake 1 = .ok (.aload_n 0, 1) := by decide +kernel
theorem dX8_doesTake_2 : decode cX8_doesTake 2 = .ok (.iload_n 1, 1) := by decide +kernel
theorem dX8_doesTake_3 : decode cX8_doesTake 3 = .ok (.iconst 2, 1) := by decide +kernel
theorem dX8_doesTake_4 : decode cX8_doesTake 4 = .ok (.invokevirtual 117, 3) := by decide +kernel
theorem dX8_doesTake_7 : decode cX8_doesTake 7 = .ok (.if_icmp .gt 7, 3) := by decide +kernel
theorem dX8_doesTake_10 : decode cX8_doesTake 10 = .ok (.iconst 1, 1) := by decide +kernel
theorem dX8_doesTake_11 : decode cX8_doesTake 11 = .ok (.goto 4, 3) := by decide +kernel
theorem dX8_doesTake_14 : decode cX8_doesTake 14 = .ok (.iconst 0, 1) := by decide +kernel
theorem dX8_doesTake_15 : decode cX8_doesTake 15 = .ok (.istore 4, 2) := by decide +kernel
theorem dX8_doesTake_17 : decode cX8_doesTake 17 = .ok (.iload 4, 2) := by decide +kernel
theorem dX8_doesTake_19 : decode cX8_doesTake 19 = .ok (.ifCond .eq 22, 3) := by decide +kernel
theorem dX8_doesTake_22 : decode cX8_doesTake 22 = .ok (.aload_n 0, 1) := by decide +kernel
theorem dX8_doesTake_23 : decode cX8_doesTake 23 = .ok (.iload_n 1, 1) := by decide +kernel
theorem dX8_doesTake_24 : decode cX8_doesTake 24 = .ok (.iload_n 3, 1) := by decide +kernel
theorem dX8_doesTake_25 : decode cX8_doesTake 25 = .ok (.invokevirtual 154, 3) := by decide +kernel
theorem dX8_doesTake_28 : decode cX8_doesTake 28 = .ok (.aload_n 0, 1) := by decide +kernel
theorem dX8_doesTake_29 : decode cX8_doesTake 29 = .ok (.getfield 9, 3) := by decide +kernel
theorem dX8_doesTake_32 : decode cX8_doesTake 32 = .ok (.iconst 3, 1) := by decide +kernel
theorem dX8_doesTake_33 : decode cX8_doesTake 33 = .ok (.iaload, 1) := by decide +kernel
theorem dX8_doesTake_34 : decode cX8_doesTake 34 = .ok (.if_icmp .gt 7, 3) := by decide +kernel
theorem dX8_doesTake_37 : decode cX8_doesTake 37 = .ok (.iconst 1, 1) := by decide +kernel
theorem dX8_doesTake_38 : decode cX8_doesTake 38 = .ok (.goto 4, 3) := by decide +kernel
theorem dX8_doesTake_41 : decode cX8_doesTake 41 = .ok (.iconst 0, 1) := by decide +kernel
theorem dX8_doesTake_42 : decode cX8_doesTake 42 = .ok (.istore 5, 2) := by decide +kernel
theorem dX8_doesTake_44 : decode cX8_doesTake 44 = .ok (.aload_n 0, 1) := by decide +kernel
theorem dX8_doesTake_45 : decode cX8_doesTake 45 = .ok (.iload_n 1, 1) := by decide +kernel
theorem dX8_doesTake_46 : decode cX8_doesTake 46 = .ok (.iconst 0, 1) := by decide +kernel
theorem dX8_doesTake_47 : decode cX8_doesTake 47 = .ok (.invokevirtual 117, 3) := by decide +kernel
theorem dX8_doesTake_50 : decode cX8_doesTake 50 = .ok (.tableswitch 145 1 5 #[34, 59, 76, 111, 142], 34) := by decide +kernel
theorem dX8_doesTake_84 : decode cX8_doesTake 84 = .ok (.iload 5, 2) := by decide +kernel
theorem dX8_doesTake_86 : decode cX8_doesTake 86 = .ok (.ifCond .eq 21, 3) := by decide +kernel
theorem dX8_doesTake_89 : decode cX8_doesTake 89 = .ok (.aload_n 0, 1) := by decide +kernel
theorem dX8_doesTake_90 : decode cX8_doesTake 90 = .ok (.iload_n 1, 1) := by decide +kernel
theorem dX8_doesTake_91 : decode cX8_doesTake 91 = .ok (.iconst 4, 1) := by decide +kernel
theorem dX8_doesTake_92 : decode cX8_doesTake 92 = .ok (.invokevirtual 117, 3) := by decide +kernel
theorem dX8_doesTake_95 : decode cX8_doesTake 95 = .ok (.aload_n 0, 1) := by decide +kernel
theorem dX8_doesTake_96 : decode cX8_doesTake 96 = .ok (.iload_n 1, 1) := by decide +kernel
theorem dX8_doesTake_97 : decode cX8_doesTake 97 = .ok (.invokevirtual 157, 3) := by decide +kernel
theorem dX8_doesTake_100 : decode cX8_doesTake 100 = .ok (.if_icmp .lt 7, 3) := by decide +kernel
theorem dX8_doesTake_103 : decode cX8_doesTake 103 = .ok (.iconst 1, 1) := by decide +kernel
theorem dX8_doesTake_104 : decode cX8_doesTake 104 = .ok (.goto 4, 3) := by decide +kernel
theorem dX8_doesTake_107 : decode cX8_doesTake 107 = .ok (.iconst 0, 1) := by decide +kernel
theorem dX8_doesTake_108 : decode cX8_doesTake 108 = .ok (.ireturn, 1) := by decide +kernel
theorem dX8_doesTake_109 : decode cX8_doesTake 109 = .ok (.iload 5, 2) := by decide +kernel
theorem dX8_doesTake_111 : decode cX8_doesTake 111 = .ok (.ifCond .eq 13, 3) := by decide +kernel
theorem dX8_doesTake_114 : decode cX8_doesTake 114 = .ok (.iload_n 2, 1) := by decide +kernel
theorem dX8_doesTake_115 : decode cX8_doesTake 115 = .ok (.iconst 2, 1) := by decide +kernel
theorem dX8_doesTake_116 : decode cX8_doesTake 116 = .ok (.irem, 1) := by decide +kernel
theorem dX8_doesTake_117 : decode cX8_doesTake 117 = .ok (.ifCond .ne 7, 3) := by decide +kernel
theorem dX8_doesTake_120 : decode cX8_doesTake 120 = .ok (.iconst 1, 1) := by decide +kernel
theorem dX8_doesTake_121 : decode cX8_doesTake 121 = .ok (.goto 4, 3) := by decide +kernel
theorem dX8_doesTake_124 : decode cX8_doesTake 124 = .ok (.iconst 0, 1) := by decide +kernel
theorem dX8_doesTake_125 : decode cX8_doesTake 125 = .ok (.ireturn, 1) := by decide +kernel
theorem dX8_doesTake_126 : decode cX8_doesTake 126 = .ok (.iload 5, 2) := by decide +kernel
theorem dX8_doesTake_128 : decode cX8_doesTake 128 = .ok (.ifCond .eq 31, 3) := by decide +kernel
theorem dX8_doesTake_131 : decode cX8_doesTake 131 = .ok (.aload_n 0, 1) := by decide +kernel
theorem dX8_doesTake_132 : decode cX8_doesTake 132 = .ok (.iload_n 1, 1) := by decide +kernel
theorem dX8_doesTake_133 : decode cX8_doesTake 133 = .ok (.iconst 4, 1) := by decide +kernel
theorem dX8_doesTake_134 : decode cX8_doesTake 134 = .ok (.invokevirtual 117, 3) := by decide +kernel
theorem dX8_doesTake_137 : decode cX8_doesTake 137 = .ok (.aload_n 0, 1) := by decide +kernel
theorem dX8_doesTake_138 : decode cX8_doesTake 138 = .ok (.iload_n 1, 1) := by decide +kernel
theorem dX8_doesTake_139 : decode cX8_doesTake 139 = .ok (.invokevirtual 157, 3) := by decide +kernel
theorem dX8_doesTake_142 : decode cX8_doesTake 142 = .ok (.if_icmp .lt 17, 3) := by decide +kernel
theorem dX8_doesTake_145 : decode cX8_doesTake 145 = .ok (.iload_n 2, 1) := by decide +kernel
theorem dX8_doesTake_146 : decode cX8_doesTake 146 = .ok (.aload_n 0, 1) := by decide +kernel
theorem dX8_doesTake_147 : decode cX8_doesTake 147 = .ok (.iload_n 1, 1) := by decide +kernel
theorem dX8_doesTake_148 : decode cX8_doesTake 148 = .ok (.iconst 2, 1) := by decide +kernel
theorem dX8_doesTake_149 : decode cX8_doesTake 149 = .ok (.invokevirtual 117, 3) := by decide +kernel
theorem dX8_doesTake_152 : decode cX8_doesTake 152 = .ok (.if_icmp .ne 7, 3) := by decide +kernel
theorem dX8_doesTake_155 : decode cX8_doesTake 155 = .ok (.iconst 1, 1) := by decide +kernel
theorem dX8_doesTake_156 : decode cX8_doesTake 156 = .ok (.goto 4, 3) := by decide +kernel
theorem dX8_doesTake_159 : decode cX8_doesTake 159 = .ok (.iconst 0, 1) := by decide +kernel
theorem dX8_doesTake_160 : decode cX8_doesTake 160 = .ok (.ireturn, 1) := by decide +kernel
theorem dX8_doesTake_161 : decode cX8_doesTake 161 = .ok (.iload 5, 2) := by decide +kernel
theorem dX8_doesTake_163 : decode cX8_doesTake 163 = .ok (.ifCond .eq 9, 3) := by decide +kernel
theorem dX8_doesTake_166 : decode cX8_doesTake 166 = .ok (.iload_n 2, 1) := by decide +kernel
theorem dX8_doesTake_167 : decode cX8_doesTake 167 = .ok (.iconst 2, 1) := by decide +kernel
theorem dX8_doesTake_168 : decode cX8_doesTake 168 = .ok (.irem, 1) := by decide +kernel
theorem dX8_doesTake_169 : decode cX8_doesTake 169 = .ok (.ifCond .eq 17, 3) := by decide +kernel
theorem dX8_doesTake_172 : decode cX8_doesTake 172 = .ok (.iload 4, 2) := by decide +kernel
theorem dX8_doesTake_174 : decode cX8_doesTake 174 = .ok (.ifCond .eq 16, 3) := by decide +kernel
theorem dX8_doesTake_177 : decode cX8_doesTake 177 = .ok (.aload_n 0, 1) := by decide +kernel
theorem dX8_doesTake_178 : decode cX8_doesTake 178 = .ok (.iload_n 1, 1) := by decide +kernel
theorem dX8_doesTake_179 : decode cX8_doesTake 179 = .ok (.iload_n 3, 1) := by decide +kernel
theorem dX8_doesTake_180 : decode cX8_doesTake 180 = .ok (.invokevirtual 154, 3) := by decide +kernel
theorem dX8_doesTake_183 : decode cX8_doesTake 183 = .ok (.ifCond .ne 7, 3) := by decide +kernel
theorem dX8_doesTake_186 : decode cX8_doesTake 186 = .ok (.iconst 1, 1) := by decide +kernel
theorem dX8_doesTake_187 : decode cX8_doesTake 187 = .ok (.goto 4, 3) := by decide +kernel
theorem dX8_doesTake_190 : decode cX8_doesTake 190 = .ok (.iconst 0, 1) := by decide +kernel
theorem dX8_doesTake_191 : decode cX8_doesTake 191 = .ok (.ireturn, 1) := by decide +kernel
theorem dX8_doesTake_192 : decode cX8_doesTake 192 = .ok (.iload 4, 2) := by decide +kernel
theorem dX8_doesTake_194 : decode cX8_doesTake 194 = .ok (.ireturn, 1) := by decide +kernel
theorem dX8_doesTake_195 : decode cX8_doesTake 195 = .ok (.iload 5, 2) := by decide +kernel
theorem dX8_doesTake_197 : decode cX8_doesTake 197 = .ok (.ireturn, 1) := by decide +kernel
theorem dX8_takes_0 : decode cX8_takes 0 = .ok (.iload_n 1, 1) := by decide +kernel
theorem dX8_takes_1 : decode cX8_takes 1 = .ok (.invokestatic 104, 3) := by decide +kernel
theorem dX8_takes_4 : decode cX8_takes 4 = .ok (.ifCond .eq 10, 3) := by decide +kernel
theorem dX8_takes_7 : decode cX8_takes 7 = .ok (.iload_n 2, 1) := by decide +kernel
theorem dX8_takes_8 : decode cX8_takes 8 = .ok (.invokestatic 160, 3) := by decide +kernel
theorem dX8_takes_11 : decode cX8_takes 11 = .ok (.ifCond .ne 6, 3) := by decide +kernel
theorem dX8_takes_14 : decode cX8_takes 14 = .ok (.ldc 111, 2) := by decide +kernel
theorem dX8_takes_16 : decode cX8_takes 16 = .ok (.ireturn, 1) := by decide +kernel
theorem dX8_takes_17 : decode cX8_takes 17 = .ok (.iconst 0, 1) := by decide +kernel
theorem dX8_takes_18 : decode cX8_takes 18 = .ok (.istore_n 3, 1) := by decide +kernel
theorem dX8_takes_19 : decode cX8_takes 19 = .ok (.iconst 0, 1) := by decide +kernel
theorem dX8_takes_20 : decode cX8_takes 20 = .ok (.istore 4, 2) := by decide +kernel
theorem dX8_takes_22 : decode cX8_takes 22 = .ok (.iload 4, 2) := by decide +kernel
theorem dX8_takes_24 : decode cX8_takes 24 = .ok (.aload_n 0, 1) := by decide +kernel
theorem dX8_takes_25 : decode cX8_takes 25 = .ok (.getfield 9, 3) := by decide +kernel
theorem dX8_takes_28 : decode cX8_takes 28 = .ok (.iconst 1, 1) := by decide +kernel
theorem dX8_takes_29 : decode cX8_takes 29 = .ok (.iaload, 1) := by decide +kernel
theorem dX8_takes_30 : decode cX8_takes 30 = .ok (.if_icmp .ge 35, 3) := by decide +kernel
theorem dX8_takes_33 : decode cX8_takes 33 = .ok (.iload_n 3, 1) := by decide +kernel
theorem dX8_takes_34 : decode cX8_takes 34 = .ok (.aload_n 0, 1) := by decide +kernel
theorem dX8_takes_35 : decode cX8_takes 35 = .ok (.iload 4, 2) := by decide +kernel
theorem dX8_takes_37 : decode cX8_takes 37 = .ok (.aload_n 0, 1) := by decide +kernel
theorem dX8_takes_38 : decode cX8_takes 38 = .ok (.iload_n 2, 1) := by decide +kernel
theorem dX8_takes_39 : decode cX8_takes 39 = .ok (.invokevirtual 163, 3) := by decide +kernel
theorem dX8_takes_42 : decode cX8_takes 42 = .ok (.iload_n 1, 1) := by decide +kernel
theorem dX8_takes_43 : decode cX8_takes 43 = .ok (.invokevirtual 166, 3) := by decide +kernel
theorem dX8_takes_46 : decode cX8_takes 46 = .ok (.ifCond .eq 10, 3) := by decide +kernel
theorem dX8_takes_49 : decode cX8_takes 49 = .ok (.iconst 1, 1) := by decide +kernel
theorem dX8_takes_50 : decode cX8_takes 50 = .ok (.iload 4, 2) := by decide +kernel
theorem dX8_takes_52 : decode cX8_takes 52 = .ok (.ishl, 1) := by decide +kernel
theorem dX8_takes_53 : decode cX8_takes 53 = .ok (.goto 4, 3) := by decide +kernel
theorem dX8_takes_56 : decode cX8_takes 56 = .ok (.iconst 0, 1) := by decide +kernel
theorem dX8_takes_57 : decode cX8_takes 57 = .ok (.ior, 1) := by decide +kernel
theorem dX8_takes_58 : decode cX8_takes 58 = .ok (.istore_n 3, 1) := by decide +kernel
theorem dX8_takes_59 : decode cX8_takes 59 = .ok (.iinc 4 1, 3) := by decide +kernel
theorem dX8_takes_62 : decode cX8_takes 62 = .ok (.goto (-40), 3) := by decide +kernel
theorem dX8_takes_65 : decode cX8_takes 65 = .ok (.iload_n 3, 1) := by decide +kernel
theorem dX8_takes_66 : decode cX8_takes 66 = .ok (.ireturn, 1) := by decide +kernel
theorem dX8_dig_0 : decode cX8_dig 0 = .ok (.iload_n 1, 1) := by decide +kernel
theorem dX8_dig_1 : decode cX8_dig 1 = .ok (.invokestatic 104, 3) := by decide +kernel
theorem dX8_dig_4 : decode cX8_dig 4 = .ok (.ifCond .eq 26, 3) := by decide +kernel
theorem dX8_dig_7 : decode cX8_dig 7 = .ok (.iload_n 2, 1) := by decide +kernel
theorem dX8_dig_8 : decode cX8_dig 8 = .ok (.invokestatic 160, 3) := by decide +kernel
theorem dX8_dig_11 : decode cX8_dig 11 = .ok (.ifCond .eq 19, 3) := by decide +kernel
theorem dX8_dig_14 : decode cX8_dig 14 = .ok (.aload_n 0, 1) := by decide +kernel
theorem dX8_dig_15 : decode cX8_dig 15 = .ok (.iload_n 3, 1) := by decide +kernel
theorem dX8_dig_16 : decode cX8_dig 16 = .ok (.invokevirtual 121, 3) := by decide +kernel
theorem dX8_dig_19 : decode cX8_dig 19 = .ok (.ifCond .eq 11, 3) := by decide +kernel
theorem dX8_dig_22 : decode cX8_dig 22 = .ok (.iload 4, 2) := by decide +kernel
theorem dX8_dig_24 : decode cX8_dig 24 = .ok (.invokestatic 108, 3) := by decide +kernel
theorem dX8_dig_27 : decode cX8_dig 27 = .ok (.ifCond .ne 6, 3) := by decide +kernel
theorem dX8_dig_30 : decode cX8_dig 30 = .ok (.ldc 111, 2) := by decide +kernel
theorem dX8_dig_32 : decode cX8_dig 32 = .ok (.ireturn, 1) := by decide +kernel
theorem dX8_dig_33 : decode cX8_dig 33 = .ok (.aload_n 0, 1) := by decide +kernel
theorem dX8_dig_34 : decode cX8_dig 34 = .ok (.iload_n 2, 1) := by decide +kernel
theorem dX8_dig_35 : decode cX8_dig 35 = .ok (.invokevirtual 163, 3) := by decide +kernel
theorem dX8_dig_38 : decode cX8_dig 38 = .ok (.istore 5, 2) := by decide +kernel
theorem dX8_dig_40 : decode cX8_dig 40 = .ok (.aload_n 0, 1) := by decide +kernel
theorem dX8_dig_41 : decode cX8_dig 41 = .ok (.iload_n 3, 1) := by decide +kernel
theorem dX8_dig_42 : decode cX8_dig 42 = .ok (.iload 5, 2) := by decide +kernel
theorem dX8_dig_44 : decode cX8_dig 44 = .ok (.iload_n 1, 1) := by decide +kernel
theorem dX8_dig_45 : decode cX8_dig 45 = .ok (.invokevirtual 166, 3) := by decide +kernel
theorem dX8_dig_48 : decode cX8_dig 48 = .ok (.ifCond .ne 6, 3) := by decide +kernel
theorem dX8_dig_51 : decode cX8_dig 51 = .ok (.ldc 169, 2) := by decide +kernel
theorem dX8_dig_53 : decode cX8_dig 53 = .ok (.ireturn, 1) := by decide +kernel
theorem dX8_dig_54 : decode cX8_dig 54 = .ok (.iconst 0, 1) := by decide +kernel
theorem dX8_dig_55 : decode cX8_dig 55 = .ok (.istore 6, 2) := by decide +kernel
theorem dX8_dig_57 : decode cX8_dig 57 = .ok (.iload 6, 2) := by decide +kernel
theorem dX8_dig_59 : decode cX8_dig 59 = .ok (.aload_n 0, 1) := by decide +kernel
theorem dX8_dig_60 : decode cX8_dig 60 = .ok (.getfield 9, 3) := by decide +kernel
theorem dX8_dig_63 : decode cX8_dig 63 = .ok (.iconst 1, 1) := by decide +kernel
theorem dX8_dig_64 : decode cX8_dig 64 = .ok (.iaload, 1) := by decide +kernel
theorem dX8_dig_65 : decode cX8_dig 65 = .ok (.if_icmp .ge 43, 3) := by decide +kernel
theorem dX8_dig_68 : decode cX8_dig 68 = .ok (.aload_n 0, 1) := by decide +kernel
theorem dX8_dig_69 : decode cX8_dig 69 = .ok (.getfield 9, 3) := by decide +kernel
theorem dX8_dig_72 : decode cX8_dig 72 = .ok (.iconst 1, 1) := by decide +kernel
theorem dX8_dig_73 : decode cX8_dig 73 = .ok (.iaload, 1) := by decide +kernel
theorem dX8_dig_74 : decode cX8_dig 74 = .ok (.bipush 10, 2) := by decide +kernel
theorem dX8_dig_76 : decode cX8_dig 76 = .ok (.if_icmp .lt 26, 3) := by decide +kernel
theorem dX8_dig_79 : decode cX8_dig 79 = .ok (.aload_n 0, 1) := by decide +kernel
theorem dX8_dig_80 : decode cX8_dig 80 = .ok (.iload 6, 2) := by decide +kernel
theorem dX8_dig_82 : decode cX8_dig 82 = .ok (.iconst 2, 1) := by decide +kernel
theorem dX8_dig_83 : decode cX8_dig 83 = .ok (.invokevirtual 117, 3) := by decide +kernel
theorem dX8_dig_86 : decode cX8_dig 86 = .ok (.iload 6, 2) := by decide +kernel
theorem dX8_dig_88 : decode cX8_dig 88 = .ok (.iload_n 3, 1) := by decide +kernel
theorem dX8_dig_89 : decode cX8_dig 89 = .ok (.if_icmp .ne 8, 3) := by decide +kernel
theorem dX8_dig_92 : decode cX8_dig 92 = .ok (.iload 5, 2) := by decide +kernel
theorem dX8_dig_94 : decode cX8_dig 94 = .ok (.goto 4, 3) := by decide +kernel
theorem dX8_dig_97 : decode cX8_dig 97 = .ok (.iconst 0, 1) := by decide +kernel
theorem dX8_dig_98 : decode cX8_dig 98 = .ok (.isub, 1) := by decide +kernel
theorem dX8_dig_99 : decode cX8_dig 99 = .ok (.ifCond .le 9, 3) := by decide +kernel
theorem dX8_dig_102 : decode cX8_dig 102 = .ok (.iinc 6 1, 3) := by decide +kernel
theorem dX8_dig_105 : decode cX8_dig 105 = .ok (.goto (-48), 3) := by decide +kernel
theorem dX8_dig_108 : decode cX8_dig 108 = .ok (.iload 6, 2) := by decide +kernel
theorem dX8_dig_110 : decode cX8_dig 110 = .ok (.bipush 10, 2) := by decide +kernel
theorem dX8_dig_112 : decode cX8_dig 112 = .ok (.if_icmp .ne 6, 3) := by decide +kernel
theorem dX8_dig_115 : decode cX8_dig 115 = .ok (.ldc 112, 2) := by decide +kernel
theorem dX8_dig_117 : decode cX8_dig 117 = .ok (.ireturn, 1) := by decide +kernel
theorem dX8_dig_118 : decode cX8_dig 118 = .ok (.aload_n 0, 1) := by decide +kernel
theorem dX8_dig_119 : decode cX8_dig 119 = .ok (.iload_n 3, 1) := by decide +kernel
theorem dX8_dig_120 : decode cX8_dig 120 = .ok (.iconst 2, 1) := by decide +kernel
theorem dX8_dig_121 : decode cX8_dig 121 = .ok (.aload_n 0, 1) := by decide +kernel
theorem dX8_dig_122 : decode cX8_dig 122 = .ok (.iload_n 3, 1) := by decide +kernel
theorem dX8_dig_123 : decode cX8_dig 123 = .ok (.iconst 2, 1) := by decide +kernel
theorem dX8_dig_124 : decode cX8_dig 124 = .ok (.invokevirtual 117, 3) := by decide +kernel
theorem dX8_dig_127 : decode cX8_dig 127 = .ok (.iload 5, 2) := by decide +kernel
theorem dX8_dig_129 : decode cX8_dig 129 = .ok (.isub, 1) := by decide +kernel
theorem dX8_dig_130 : decode cX8_dig 130 = .ok (.invokevirtual 96, 3) := by decide +kernel
theorem dX8_dig_133 : decode cX8_dig 133 = .ok (.aload_n 0, 1) := by decide +kernel
theorem dX8_dig_134 : decode cX8_dig 134 = .ok (.getfield 9, 3) := by decide +kernel
theorem dX8_dig_137 : decode cX8_dig 137 = .ok (.iconst 5, 1) := by decide +kernel
theorem dX8_dig_138 : decode cX8_dig 138 = .ok (.dup2, 1) := by decide +kernel
theorem dX8_dig_139 : decode cX8_dig 139 = .ok (.iaload, 1) := by decide +kernel
theorem dX8_dig_140 : decode cX8_dig 140 = .ok (.iload_n 2, 1) := by decide +kernel
theorem dX8_dig_141 : decode cX8_dig 141 = .ok (.iadd, 1) := by decide +kernel
theorem dX8_dig_142 : decode cX8_dig 142 = .ok (.iastore, 1) := by decide +kernel
theorem dX8_dig_143 : decode cX8_dig 143 = .ok (.aload_n 0, 1) := by decide +kernel
theorem dX8_dig_144 : decode cX8_dig 144 = .ok (.iload 6, 2) := by decide +kernel
theorem dX8_dig_146 : decode cX8_dig 146 = .ok (.iconst 0, 1) := by decide +kernel
theorem dX8_dig_147 : decode cX8_dig 147 = .ok (.iload_n 1, 1) := by decide +kernel
theorem dX8_dig_148 : decode cX8_dig 148 = .ok (.iload_n 2, 1) := by decide +kernel
theorem dX8_dig_149 : decode cX8_dig 149 = .ok (.iload 4, 2) := by decide +kernel
theorem dX8_dig_151 : decode cX8_dig 151 = .ok (.invokevirtual 100, 3) := by decide +kernel
theorem dX8_dig_154 : decode cX8_dig 154 = .ok (.aload_n 0, 1) := by decide +kernel
theorem dX8_dig_155 : decode cX8_dig 155 = .ok (.getfield 9, 3) := by decide +kernel
theorem dX8_dig_158 : decode cX8_dig 158 = .ok (.iconst 1, 1) := by decide +kernel
theorem dX8_dig_159 : decode cX8_dig 159 = .ok (.dup2, 1) := by decide +kernel
theorem dX8_dig_160 : decode cX8_dig 160 = .ok (.iaload, 1) := by decide +kernel
theorem dX8_dig_161 : decode cX8_dig 161 = .ok (.iload 6, 2) := by decide +kernel
theorem dX8_dig_163 : decode cX8_dig 163 = .ok (.aload_n 0, 1) := by decide +kernel
theorem dX8_dig_164 : decode cX8_dig 164 = .ok (.getfield 9, 3) := by decide +kernel
theorem dX8_dig_167 : decode cX8_dig 167 = .ok (.iconst 1, 1) := by decide +kernel
theorem dX8_dig_168 : decode cX8_dig 168 = .ok (.iaload, 1) := by decide +kernel
theorem dX8_dig_169 : decode cX8_dig 169 = .ok (.if_icmp .ne 7, 3) := by decide +kernel
theorem dX8_dig_172 : decode cX8_dig 172 = .ok (.iconst 1, 1) := by decide +kernel
theorem dX8_dig_173 : decode cX8_dig 173 = .ok (.goto 4, 3) := by decide +kernel
theorem dX8_dig_176 : decode cX8_dig 176 = .ok (.iconst 0, 1) := by decide +kernel
theorem dX8_dig_177 : decode cX8_dig 177 = .ok (.iadd, 1) := by decide +kernel
theorem dX8_dig_178 : decode cX8_dig 178 = .ok (.iastore, 1) := by decide +kernel
theorem dX8_dig_179 : decode cX8_dig 179 = .ok (.iload 6, 2) := by decide +kernel
theorem dX8_dig_181 : decode cX8_dig 181 = .ok (.ireturn, 1) := by decide +kernel
theorem dX8_want_0 : decode cX8_want 0 = .ok (.iload_n 1, 1) := by decide +kernel
theorem dX8_want_1 : decode cX8_want 1 = .ok (.invokestatic 104, 3) := by decide +kernel
theorem dX8_want_4 : decode cX8_want 4 = .ok (.ifCond .eq 10, 3) := by decide +kernel
theorem dX8_want_7 : decode cX8_want 7 = .ok (.iload_n 2, 1) := by decide +kernel
theorem dX8_want_8 : decode cX8_want 8 = .ok (.invokestatic 160, 3) := by decide +kernel
theorem dX8_want_11 : decode cX8_want 11 = .ok (.ifCond .ne 6, 3) := by decide +kernel
theorem dX8_want_14 : decode cX8_want 14 = .ok (.ldc 111, 2) := by decide +kernel
theorem dX8_want_16 : decode cX8_want 16 = .ok (.ireturn, 1) := by decide +kernel
theorem dX8_want_17 : decode cX8_want 17 = .ok (.aload_n 0, 1) := by decide +kernel
theorem dX8_want_18 : decode cX8_want 18 = .ok (.getfield 9, 3) := by decide +kernel
theorem dX8_want_21 : decode cX8_want 21 = .ok (.bipush 7, 2) := by decide +kernel
theorem dX8_want_23 : decode cX8_want 23 = .ok (.iaload, 1) := by decide +kernel
theorem dX8_want_24 : decode cX8_want 24 = .ok (.bipush 6, 2) := by decide +kernel
theorem dX8_want_26 : decode cX8_want 26 = .ok (.if_icmp .ne 6, 3) := by decide +kernel
theorem dX8_want_29 : decode cX8_want 29 = .ok (.ldc 112, 2) := by decide +kernel
theorem dX8_want_31 : decode cX8_want 31 = .ok (.ireturn, 1) := by decide +kernel
theorem dX8_want_32 : decode cX8_want 32 = .ok (.aload_n 0, 1) := by decide +kernel
theorem dX8_want_33 : decode cX8_want 33 = .ok (.getfield 9, 3) := by decide +kernel
theorem dX8_want_36 : decode cX8_want 36 = .ok (.bipush 9, 2) := by decide +kernel
theorem dX8_want_38 : decode cX8_want 38 = .ok (.iconst 2, 1) := by decide +kernel
theorem dX8_want_39 : decode cX8_want 39 = .ok (.aload_n 0, 1) := by decide +kernel
theorem dX8_want_40 : decode cX8_want 40 = .ok (.getfield 9, 3) := by decide +kernel
theorem dX8_want_43 : decode cX8_want 43 = .ok (.bipush 7, 2) := by decide +kernel
theorem dX8_want_45 : decode cX8_want 45 = .ok (.iaload, 1) := by decide +kernel
theorem dX8_want_46 : decode cX8_want 46 = .ok (.imul, 1) := by decide +kernel
theorem dX8_want_47 : decode cX8_want 47 = .ok (.iadd, 1) := by decide +kernel
theorem dX8_want_48 : decode cX8_want 48 = .ok (.iload_n 1, 1) := by decide +kernel
theorem dX8_want_49 : decode cX8_want 49 = .ok (.iastore, 1) := by decide +kernel
theorem dX8_want_50 : decode cX8_want 50 = .ok (.aload_n 0, 1) := by decide +kernel
theorem dX8_want_51 : decode cX8_want 51 = .ok (.getfield 9, 3) := by decide +kernel
theorem dX8_want_54 : decode cX8_want 54 = .ok (.bipush 9, 2) := by decide +kernel
theorem dX8_want_56 : decode cX8_want 56 = .ok (.iconst 2, 1) := by decide +kernel
theorem dX8_want_57 : decode cX8_want 57 = .ok (.aload_n 0, 1) := by decide +kernel
theorem dX8_want_58 : decode cX8_want 58 = .ok (.getfield 9, 3) := by decide +kernel
theorem dX8_want_61 : decode cX8_want 61 = .ok (.bipush 7, 2) := by decide +kernel
theorem dX8_want_63 : decode cX8_want 63 = .ok (.iaload, 1) := by decide +kernel
theorem dX8_want_64 : decode cX8_want 64 = .ok (.imul, 1) := by decide +kernel
theorem dX8_want_65 : decode cX8_want 65 = .ok (.iadd, 1) := by decide +kernel
theorem dX8_want_66 : decode cX8_want 66 = .ok (.iconst 1, 1) := by decide +kernel
theorem dX8_want_67 : decode cX8_want 67 = .ok (.iadd, 1) := by decide +kernel
theorem dX8_want_68 : decode cX8_want 68 = .ok (.iload_n 2, 1) := by decide +kernel
theorem dX8_want_69 : decode cX8_want 69 = .ok (.iastore, 1) := by decide +kernel
theorem dX8_want_70 : decode cX8_want 70 = .ok (.aload_n 0, 1) := by decide +kernel
theorem dX8_want_71 : decode cX8_want 71 = .ok (.getfield 9, 3) := by decide +kernel
theorem dX8_want_74 : decode cX8_want 74 = .ok (.bipush 7, 2) := by decide +kernel
theorem dX8_want_76 : decode cX8_want 76 = .ok (.dup2, 1) := by decide +kernel
theorem dX8_want_77 : decode cX8_want 77 = .ok (.iaload, 1) := by decide +kernel
theorem dX8_want_78 : decode cX8_want 78 = .ok (.iconst 1, 1) := by decide +kernel
theorem dX8_want_79 : decode cX8_want 79 = .ok (.iadd, 1) := by decide +kernel
theorem dX8_want_80 : decode cX8_want 80 = .ok (.iastore, 1) := by decide +kernel
theorem dX8_want_81 : decode cX8_want 81 = .ok (.aload_n 0, 1) := by decide +kernel
theorem dX8_want_82 : decode cX8_want 82 = .ok (.getfield 9, 3) := by decide +kernel
theorem dX8_want_85 : decode cX8_want 85 = .ok (.bipush 7, 2) := by decide +kernel
theorem dX8_want_87 : decode cX8_want 87 = .ok (.iaload, 1) := by decide +kernel
theorem dX8_want_88 : decode cX8_want 88 = .ok (.iconst 1, 1) := by decide +kernel
theorem dX8_want_89 : decode cX8_want 89 = .ok (.isub, 1) := by decide +kernel
theorem dX8_want_90 : decode cX8_want 90 = .ok (.ireturn, 1) := by decide +kernel
theorem dX8_forget_0 : decode cX8_forget 0 = .ok (.aload_n 0, 1) := by decide +kernel
theorem dX8_forget_1 : decode cX8_forget 1 = .ok (.bipush 7, 2) := by decide +kernel
theorem dX8_forget_3 : decode cX8_forget 3 = .ok (.iconst 0, 1) := by decide +kernel
theorem dX8_forget_4 : decode cX8_forget 4 = .ok (.invokevirtual 133, 3) := by decide +kernel
theorem dX8_forget_7 : decode cX8_forget 7 = .ok (.ireturn, 1) := by decide +kernel
theorem dX8_doesMeet_0 : decode cX8_doesMeet 0 = .ok (.aload_n 0, 1) := by decide +kernel
theorem dX8_doesMeet_1 : decode cX8_doesMeet 1 = .ok (.iload_n 2, 1) := by decide +kernel
theorem dX8_doesMeet_2 : decode cX8_doesMeet 2 = .ok (.aload_n 0, 1) := by decide +kernel
theorem dX8_doesMeet_3 : decode cX8_doesMeet 3 = .ok (.aload_n 0, 1) := by decide +kernel
theorem dX8_doesMeet_4 : decode cX8_doesMeet 4 = .ok (.getfield 9, 3) := by decide +kernel
theorem dX8_doesMeet_7 : decode cX8_doesMeet 7 = .ok (.bipush 9, 2) := by decide +kernel
theorem dX8_doesMeet_9 : decode cX8_doesMeet 9 = .ok (.iconst 2, 1) := by decide +kernel
theorem dX8_doesMeet_10 : decode cX8_doesMeet 10 = .ok (.iload_n 1, 1) := by decide +kernel
theorem dX8_doesMeet_11 : decode cX8_doesMeet 11 = .ok (.imul, 1) := by decide +kernel
theorem dX8_doesMeet_12 : decode cX8_doesMeet 12 = .ok (.iadd, 1) := by decide +kernel
theorem dX8_doesMeet_13 : decode cX8_doesMeet 13 = .ok (.iconst 1, 1) := by decide +kernel
theorem dX8_doesMeet_14 : decode cX8_doesMeet 14 = .ok (.iadd, 1) := by decide +kernel
theorem dX8_doesMeet_15 : decode cX8_doesMeet 15 = .ok (.iaload, 1) := by decide +kernel
theorem dX8_doesMeet_16 : decode cX8_doesMeet 16 = .ok (.invokevirtual 163, 3) := by decide +kernel
theorem dX8_doesMeet_19 : decode cX8_doesMeet 19 = .ok (.aload_n 0, 1) := by decide +kernel
theorem dX8_doesMeet_20 : decode cX8_doesMeet 20 = .ok (.getfield 9, 3) := by decide +kernel
theorem dX8_doesMeet_23 : decode cX8_doesMeet 23 = .ok (.bipush 9, 2) := by decide +kernel
theorem dX8_doesMeet_25 : decode cX8_doesMeet 25 = .ok (.iconst 2, 1) := by decide +kernel
theorem dX8_doesMeet_26 : decode cX8_doesMeet 26 = .ok (.iload_n 1, 1) := by decide +kernel
theorem dX8_doesMeet_27 : decode cX8_doesMeet 27 = .ok (.imul, 1) := by decide +kernel
theorem dX8_doesMeet_28 : decode cX8_doesMeet 28 = .ok (.iadd, 1) := by decide +kernel
theorem dX8_doesMeet_29 : decode cX8_doesMeet 29 = .ok (.iaload, 1) := by decide +kernel
theorem dX8_doesMeet_30 : decode cX8_doesMeet 30 = .ok (.invokevirtual 166, 3) := by decide +kernel
theorem dX8_doesMeet_33 : decode cX8_doesMeet 33 = .ok (.ireturn, 1) := by decide +kernel
theorem dX8_findsHole_0 : decode cX8_findsHole 0 = .ok (.iconst 0, 1) := by decide +kernel
theorem dX8_findsHole_1 : decode cX8_findsHole 1 = .ok (.istore_n 3, 1) := by decide +kernel
theorem dX8_findsHole_2 : decode cX8_findsHole 2 = .ok (.iload_n 3, 1) := by decide +kernel
theorem dX8_findsHole_3 : decode cX8_findsHole 3 = .ok (.aload_n 0, 1) := by decide +kernel
theorem dX8_findsHole_4 : decode cX8_findsHole 4 = .ok (.getfield 9, 3) := by decide +kernel
theorem dX8_findsHole_7 : decode cX8_findsHole 7 = .ok (.iconst 1, 1) := by decide +kernel
theorem dX8_findsHole_8 : decode cX8_findsHole 8 = .ok (.iaload, 1) := by decide +kernel
theorem dX8_findsHole_9 : decode cX8_findsHole 9 = .ok (.if_icmp .ge 74, 3) := by decide +kernel
theorem dX8_findsHole_12 : decode cX8_findsHole 12 = .ok (.iload_n 3, 1) := by decide +kernel
theorem dX8_findsHole_13 : decode cX8_findsHole 13 = .ok (.iload_n 2, 1) := by decide +kernel
theorem dX8_findsHole_14 : decode cX8_findsHole 14 = .ok (.if_icmp .eq 63, 3) := by decide +kernel
theorem dX8_findsHole_17 : decode cX8_findsHole 17 = .ok (.aload_n 0, 1) := by decide +kernel
theorem dX8_findsHole_18 : decode cX8_findsHole 18 = .ok (.getfield 22, 3) := by decide +kernel
theorem dX8_findsHole_21 : decode cX8_findsHole 21 = .ok (.iload_n 3, 1) := by decide +kernel
theorem dX8_findsHole_22 : decode cX8_findsHole 22 = .ok (.baload, 1) := by decide +kernel
theorem dX8_findsHole_23 : decode cX8_findsHole 23 = .ok (.ifCond .ne 54, 3) := by decide +kernel
theorem dX8_findsHole_26 : decode cX8_findsHole 26 = .ok (.aload_n 0, 1) := by decide +kernel
theorem dX8_findsHole_27 : decode cX8_findsHole 27 = .ok (.iload_n 1, 1) := by decide +kernel
theorem dX8_findsHole_28 : decode cX8_findsHole 28 = .ok (.iload_n 3, 1) := by decide +kernel
theorem dX8_findsHole_29 : decode cX8_findsHole 29 = .ok (.invokevirtual 170, 3) := by decide +kernel
theorem dX8_findsHole_32 : decode cX8_findsHole 32 = .ok (.ifCond .ne 6, 3) := by decide +kernel
theorem dX8_findsHole_35 : decode cX8_findsHole 35 = .ok (.goto 42, 3) := by decide +kernel
theorem dX8_findsHole_38 : decode cX8_findsHole 38 = .ok (.aload_n 0, 1) := by decide +kernel
theorem dX8_findsHole_39 : decode cX8_findsHole 39 = .ok (.getfield 22, 3) := by decide +kernel
theorem dX8_findsHole_42 : decode cX8_findsHole 42 = .ok (.iload_n 3, 1) := by decide +kernel
theorem dX8_findsHole_43 : decode cX8_findsHole 43 = .ok (.iconst 1, 1) := by decide +kernel
theorem dX8_findsHole_44 : decode cX8_findsHole 44 = .ok (.bastore, 1) := by decide +kernel
theorem dX8_findsHole_45 : decode cX8_findsHole 45 = .ok (.aload_n 0, 1) := by decide +kernel
theorem dX8_findsHole_46 : decode cX8_findsHole 46 = .ok (.getfield 19, 3) := by decide +kernel
theorem dX8_findsHole_49 : decode cX8_findsHole 49 = .ok (.iload_n 3, 1) := by decide +kernel
theorem dX8_findsHole_50 : decode cX8_findsHole 50 = .ok (.iaload, 1) := by decide +kernel
theorem dX8_findsHole_51 : decode cX8_findsHole 51 = .ok (.ifCond .lt 17, 3) := by decide +kernel
theorem dX8_findsHole_54 : decode cX8_findsHole 54 = .ok (.aload_n 0, 1) := by decide +kernel
theorem dX8_findsHole_55 : decode cX8_findsHole 55 = .ok (.aload_n 0, 1) := by decide +kernel
theorem dX8_findsHole_56 : decode cX8_findsHole 56 = .ok (.getfield 19, 3) := by decide +kernel
theorem dX8_findsHole_59 : decode cX8_findsHole 59 = .ok (.iload_n 3, 1) := by decide +kernel
theorem dX8_findsHole_60 : decode cX8_findsHole 60 = .ok (.iaload, 1) := by decide +kernel
theorem dX8_findsHole_61 : decode cX8_findsHole 61 = .ok (.iload_n 2, 1) := by decide +kernel
theorem dX8_findsHole_62 : decode cX8_findsHole 62 = .ok (.invokevirtual 173, 3) := by decide +kernel
theorem dX8_findsHole_65 : decode cX8_findsHole 65 = .ok (.ifCond .eq 12, 3) := by decide +kernel
theorem dX8_findsHole_68 : decode cX8_findsHole 68 = .ok (.aload_n 0, 1) := by decide +kernel
theorem dX8_findsHole_69 : decode cX8_findsHole 69 = .ok (.getfield 19, 3) := by decide +kernel
theorem dX8_findsHole_72 : decode cX8_findsHole 72 = .ok (.iload_n 3, 1) := by decide +kernel
theorem dX8_findsHole_73 : decode cX8_findsHole 73 = .ok (.iload_n 1, 1) := by decide +kernel
theorem dX8_findsHole_74 : decode cX8_findsHole 74 = .ok (.iastore, 1) := by decide +kernel
theorem dX8_findsHole_75 : decode cX8_findsHole 75 = .ok (.iconst 1, 1) := by decide +kernel
theorem dX8_findsHole_76 : decode cX8_findsHole 76 = .ok (.ireturn, 1) := by decide +kernel
theorem dX8_findsHole_77 : decode cX8_findsHole 77 = .ok (.iinc 3 1, 3) := by decide +kernel
theorem dX8_findsHole_80 : decode cX8_findsHole 80 = .ok (.goto (-78), 3) := by decide +kernel
theorem dX8_findsHole_83 : decode cX8_findsHole 83 = .ok (.iconst 0, 1) := by decide +kernel
theorem dX8_findsHole_84 : decode cX8_findsHole 84 = .ok (.ireturn, 1) := by decide +kernel
theorem dX8_metBut_0 : decode cX8_metBut 0 = .ok (.iconst 0, 1) := by decide +kernel
theorem dX8_metBut_1 : decode cX8_metBut 1 = .ok (.istore_n 2, 1) := by decide +kernel
theorem dX8_metBut_2 : decode cX8_metBut 2 = .ok (.iload_n 2, 1) := by decide +kernel
theorem dX8_metBut_3 : decode cX8_metBut 3 = .ok (.bipush 11, 2) := by decide +kernel
theorem dX8_metBut_5 : decode cX8_metBut 5 = .ok (.if_icmp .ge 16, 3) := by decide +kernel
theorem dX8_metBut_8 : decode cX8_metBut 8 = .ok (.aload_n 0, 1) := by decide +kernel
theorem dX8_metBut_9 : decode cX8_metBut 9 = .ok (.getfield 19, 3) := by decide +kernel
theorem dX8_metBut_12 : decode cX8_metBut 12 = .ok (.iload_n 2, 1) := by decide +kernel
theorem dX8_metBut_13 : decode cX8_metBut 13 = .ok (.iconst (-1), 1) := by decide +kernel
theorem dX8_metBut_14 : decode cX8_metBut 14 = .ok (.iastore, 1) := by decide +kernel
theorem dX8_metBut_15 : decode cX8_metBut 15 = .ok (.iinc 2 1, 3) := by decide +kernel
theorem dX8_metBut_18 : decode cX8_metBut 18 = .ok (.goto (-16), 3) := by decide +kernel
theorem dX8_metBut_21 : decode cX8_metBut 21 = .ok (.iconst 0, 1) := by decide +kernel
theorem dX8_metBut_22 : decode cX8_metBut 22 = .ok (.istore_n 2, 1) := by decide +kernel
theorem dX8_metBut_23 : decode cX8_metBut 23 = .ok (.iconst 0, 1) := by decide +kernel
theorem dX8_metBut_24 : decode cX8_metBut 24 = .ok (.istore_n 3, 1) := by decide +kernel
theorem dX8_metBut_25 : decode cX8_metBut 25 = .ok (.iload_n 3, 1) := by decide +kernel
theorem dX8_metBut_26 : decode cX8_metBut 26 = .ok (.aload_n 0, 1) := by decide +kernel
theorem dX8_metBut_27 : decode cX8_metBut 27 = .ok (.getfield 9, 3) := by decide +kernel
theorem dX8_metBut_30 : decode cX8_metBut 30 = .ok (.bipush 7, 2) := by decide +kernel
theorem dX8_metBut_32 : decode cX8_metBut 32 = .ok (.iaload, 1) := by decide +kernel
theorem dX8_metBut_33 : decode cX8_metBut 33 = .ok (.if_icmp .ge 50, 3) := by decide +kernel
theorem dX8_metBut_36 : decode cX8_metBut 36 = .ok (.iconst 0, 1) := by decide +kernel
theorem dX8_metBut_37 : decode cX8_metBut 37 = .ok (.istore 4, 2) := by decide +kernel
theorem dX8_metBut_39 : decode cX8_metBut 39 = .ok (.iload 4, 2) := by decide +kernel
theorem dX8_metBut_41 : decode cX8_metBut 41 = .ok (.bipush 11, 2) := by decide +kernel
theorem dX8_metBut_43 : decode cX8_metBut 43 = .ok (.if_icmp .ge 17, 3) := by decide +kernel
theorem dX8_metBut_46 : decode cX8_metBut 46 = .ok (.aload_n 0, 1) := by decide +kernel
theorem dX8_metBut_47 : decode cX8_metBut 47 = .ok (.getfield 22, 3) := by decide +kernel
theorem dX8_metBut_50 : decode cX8_metBut 50 = .ok (.iload 4, 2) := by decide +kernel
theorem dX8_metBut_52 : decode cX8_metBut 52 = .ok (.iconst 0, 1) := by decide +kernel
theorem dX8_metBut_53 : decode cX8_metBut 53 = .ok (.bastore, 1) := by decide +kernel
theorem dX8_metBut_54 : decode cX8_metBut 54 = .ok (.iinc 4 1, 3) := by decide +kernel
theorem dX8_metBut_57 : decode cX8_metBut 57 = .ok (.goto (-18), 3) := by decide +kernel
theorem dX8_metBut_60 : decode cX8_metBut 60 = .ok (.iload_n 2, 1) := by decide +kernel
theorem dX8_metBut_61 : decode cX8_metBut 61 = .ok (.aload_n 0, 1) := by decide +kernel
theorem dX8_metBut_62 : decode cX8_metBut 62 = .ok (.iload_n 3, 1) := by decide +kernel
theorem dX8_metBut_63 : decode cX8_metBut 63 = .ok (.iload_n 1, 1) := by decide +kernel
theorem dX8_metBut_64 : decode cX8_metBut 64 = .ok (.invokevirtual 173, 3) := by decide +kernel
theorem dX8_metBut_67 : decode cX8_metBut 67 = .ok (.ifCond .eq 7, 3) := by decide +kernel
theorem dX8_metBut_70 : decode cX8_metBut 70 = .ok (.iconst 1, 1) := by decide +kernel
theorem dX8_metBut_71 : decode cX8_metBut 71 = .ok (.goto 4, 3) := by decide +kernel
theorem dX8_metBut_74 : decode cX8_metBut 74 = .ok (.iconst 0, 1) := by decide +kernel
theorem dX8_metBut_75 : decode cX8_metBut 75 = .ok (.iadd, 1) := by decide +kernel
theorem dX8_metBut_76 : decode cX8_metBut 76 = .ok (.istore_n 2, 1) := by decide +kernel
theorem dX8_metBut_77 : decode cX8_metBut 77 = .ok (.iinc 3 1, 3) := by decide +kernel
theorem dX8_metBut_80 : decode cX8_metBut 80 = .ok (.goto (-55), 3) := by decide +kernel
theorem dX8_metBut_83 : decode cX8_metBut 83 = .ok (.iload_n 2, 1) := by decide +kernel
theorem dX8_metBut_84 : decode cX8_metBut 84 = .ok (.ireturn, 1) := by decide +kernel
theorem dX8_scoreOf_0 : decode cX8_scoreOf 0 = .ok (.aload_n 0, 1) := by decide +kernel
theorem dX8_scoreOf_1 : decode cX8_scoreOf 1 = .ok (.getfield 26, 3) := by decide +kernel
theorem dX8_scoreOf_4 : decode cX8_scoreOf 4 = .ok (.sipush 1024, 3) := by decide +kernel
theorem dX8_scoreOf_7 : decode cX8_scoreOf 7 = .ok (.iload_n 1, 1) := by decide +kernel
theorem dX8_scoreOf_8 : decode cX8_scoreOf 8 = .ok (.iconst 1, 1) := by decide +kernel
theorem dX8_scoreOf_9 : decode cX8_scoreOf 9 = .ok (.iadd, 1) := by decide +kernel
theorem dX8_scoreOf_10 : decode cX8_scoreOf 10 = .ok (.imul, 1) := by decide +kernel
theorem dX8_scoreOf_11 : decode cX8_scoreOf 11 = .ok (.iload_n 2, 1) := by decide +kernel
theorem dX8_scoreOf_12 : decode cX8_scoreOf 12 = .ok (.iconst 1, 1) := by decide +kernel
theorem dX8_scoreOf_13 : decode cX8_scoreOf 13 = .ok (.iload_n 3, 1) := by decide +kernel
theorem dX8_scoreOf_14 : decode cX8_scoreOf 14 = .ok (.ishl, 1) := by decide +kernel
theorem dX8_scoreOf_15 : decode cX8_scoreOf 15 = .ok (.ior, 1) := by decide +kernel
theorem dX8_scoreOf_16 : decode cX8_scoreOf 16 = .ok (.iadd, 1) := by decide +kernel
theorem dX8_scoreOf_17 : decode cX8_scoreOf 17 = .ok (.iaload, 1) := by decide +kernel
theorem dX8_scoreOf_18 : decode cX8_scoreOf 18 = .ok (.sipush 1000, 3) := by decide +kernel
theorem dX8_scoreOf_21 : decode cX8_scoreOf 21 = .ok (.iadd, 1) := by decide +kernel
theorem dX8_scoreOf_22 : decode cX8_scoreOf 22 = .ok (.aload_n 0, 1) := by decide +kernel
theorem dX8_scoreOf_23 : decode cX8_scoreOf 23 = .ok (.iload_n 3, 1) := by decide +kernel
theorem dX8_scoreOf_24 : decode cX8_scoreOf 24 = .ok (.aload_n 0, 1) := by decide +kernel
theorem dX8_scoreOf_25 : decode cX8_scoreOf 25 = .ok (.getfield 9, 3) := by decide +kernel
theorem dX8_scoreOf_28 : decode cX8_scoreOf 28 = .ok (.bipush 9, 2) := by decide +kernel
theorem dX8_scoreOf_30 : decode cX8_scoreOf 30 = .ok (.iconst 2, 1) := by decide +kernel
theorem dX8_scoreOf_31 : decode cX8_scoreOf 31 = .ok (.iload_n 1, 1) := by decide +kernel
theorem dX8_scoreOf_32 : decode cX8_scoreOf 32 = .ok (.imul, 1) := by decide +kernel
theorem dX8_scoreOf_33 : decode cX8_scoreOf 33 = .ok (.iadd, 1) := by decide +kernel
theorem dX8_scoreOf_34 : decode cX8_scoreOf 34 = .ok (.iaload, 1) := by decide +kernel
theorem dX8_scoreOf_35 : decode cX8_scoreOf 35 = .ok (.invokevirtual 154, 3) := by decide +kernel
theorem dX8_scoreOf_38 : decode cX8_scoreOf 38 = .ok (.isub, 1) := by decide +kernel
theorem dX8_scoreOf_39 : decode cX8_scoreOf 39 = .ok (.ireturn, 1) := by decide +kernel
theorem dX8_findDealing_0 : decode cX8_findDealing 0 = .ok (.aload_n 0, 1) := by decide +kernel
theorem dX8_findDealing_1 : decode cX8_findDealing 1 = .ok (.getfield 9, 3) := by decide +kernel
theorem dX8_findDealing_4 : decode cX8_findDealing 4 = .ok (.bipush 7, 2) := by decide +kernel
theorem dX8_findDealing_6 : decode cX8_findDealing 6 = .ok (.iaload, 1) := by decide +kernel
theorem dX8_findDealing_7 : decode cX8_findDealing 7 = .ok (.istore_n 1, 1) := by decide +kernel
theorem dX8_findDealing_8 : decode cX8_findDealing 8 = .ok (.iconst 0, 1) := by decide +kernel
theorem dX8_findDealing_9 : decode cX8_findDealing 9 = .ok (.istore_n 2, 1) := by decide +kernel
theorem dX8_findDealing_10 : decode cX8_findDealing 10 = .ok (.iload_n 2, 1) := by decide +kernel
theorem dX8_findDealing_11 : decode cX8_findDealing 11 = .ok (.iconst 1, 1) := by decide +kernel
theorem dX8_findDealing_12 : decode cX8_findDealing 12 = .ok (.aload_n 0, 1) := by decide +kernel
theorem dX8_findDealing_13 : decode cX8_findDealing 13 = .ok (.getfield 9, 3) := by decide +kernel
theorem dX8_findDealing_16 : decode cX8_findDealing 16 = .ok (.iconst 1, 1) := by decide +kernel
theorem dX8_findDealing_17 : decode cX8_findDealing 17 = .ok (.iaload, 1) := by decide +kernel
theorem dX8_findDealing_18 : decode cX8_findDealing 18 = .ok (.ishl, 1) := by decide +kernel
theorem dX8_findDealing_19 : decode cX8_findDealing 19 = .ok (.if_icmp .ge 22, 3) := by decide +kernel
theorem dX8_findDealing_22 : decode cX8_findDealing 22 = .ok (.aload_n 0, 1) := by decide +kernel
theorem dX8_findDealing_23 : decode cX8_findDealing 23 = .ok (.getfield 26, 3) := by decide +kernel
theorem dX8_findDealing_26 : decode cX8_findDealing 26 = .ok (.sipush 1024, 3) := by decide +kernel
theorem dX8_findDealing_29 : decode cX8_findDealing 29 = .ok (.iload_n 1, 1) := by decide +kernel
theorem dX8_findDealing_30 : decode cX8_findDealing 30 = .ok (.imul, 1) := by decide +kernel
theorem dX8_findDealing_31 : decode cX8_findDealing 31 = .ok (.iload_n 2, 1) := by decide +kernel
theorem dX8_findDealing_32 : decode cX8_findDealing 32 = .ok (.iadd, 1) := by decide +kernel
theorem dX8_findDealing_33 : decode cX8_findDealing 33 = .ok (.iconst 0, 1) := by decide +kernel
theorem dX8_findDealing_34 : decode cX8_findDealing 34 = .ok (.iastore, 1) := by decide +kernel
theorem dX8_findDealing_35 : decode cX8_findDealing 35 = .ok (.iinc 2 1, 3) := by decide +kernel
theorem dX8_findDealing_38 : decode cX8_findDealing 38 = .ok (.goto (-28), 3) := by decide +kernel
theorem dX8_findDealing_41 : decode cX8_findDealing 41 = .ok (.iload_n 1, 1) := by decide +kernel
theorem dX8_findDealing_42 : decode cX8_findDealing 42 = .ok (.iconst 1, 1) := by decide +kernel
theorem dX8_findDealing_43 : decode cX8_findDealing 43 = .ok (.isub, 1) := by decide +kernel
theorem dX8_findDealing_44 : decode cX8_findDealing 44 = .ok (.istore_n 2, 1) := by decide +kernel
theorem dX8_findDealing_45 : decode cX8_findDealing 45 = .ok (.iload_n 2, 1) := by decide +kernel
theorem dX8_findDealing_46 : decode cX8_findDealing 46 = .ok (.ifCond .lt 167, 3) := by decide +kernel
theorem dX8_findDealing_49 : decode cX8_findDealing 49 = .ok (.iconst 0, 1) := by decide +kernel
theorem dX8_findDealing_50 : decode cX8_findDealing 50 = .ok (.istore_n 3, 1) := by decide +kernel
theorem dX8_findDealing_51 : decode cX8_findDealing 51 = .ok (.iconst 0, 1) := by decide +kernel
theorem dX8_findDealing_52 : decode cX8_findDealing 52 = .ok (.istore 4, 2) := by decide +kernel
theorem dX8_findDealing_54 : decode cX8_findDealing 54 = .ok (.iload 4, 2) := by decide +kernel
theorem dX8_findDealing_56 : decode cX8_findDealing 56 = .ok (.aload_n 0, 1) := by decide +kernel
theorem dX8_findDealing_57 : decode cX8_findDealing 57 = .ok (.getfield 9, 3) := by decide +kernel
theorem dX8_findDealing_60 : decode cX8_findDealing 60 = .ok (.iconst 1, 1) := by decide +kernel
theorem dX8_findDealing_61 : decode cX8_findDealing 61 = .ok (.iaload, 1) := by decide +kernel
theorem dX8_findDealing_62 : decode cX8_findDealing 62 = .ok (.if_icmp .ge 30, 3) := by decide +kernel
theorem dX8_findDealing_65 : decode cX8_findDealing 65 = .ok (.iload_n 3, 1) := by decide +kernel
theorem dX8_findDealing_66 : decode cX8_findDealing 66 = .ok (.aload_n 0, 1) := by decide +kernel
theorem dX8_findDealing_67 : decode cX8_findDealing 67 = .ok (.iload_n 2, 1) := by decide +kernel
theorem dX8_findDealing_68 : decode cX8_findDealing 68 = .ok (.iload 4, 2) := by decide +kernel
theorem dX8_findDealing_70 : decode cX8_findDealing 70 = .ok (.invokevirtual 170, 3) := by decide +kernel
theorem dX8_findDealing_73 : decode cX8_findDealing 73 = .ok (.ifCond .eq 10, 3) := by decide +kernel
theorem dX8_findDealing_76 : decode cX8_findDealing 76 = .ok (.iconst 1, 1) := by decide +kernel
theorem dX8_findDealing_77 : decode cX8_findDealing 77 = .ok (.iload 4, 2) := by decide +kernel
theorem dX8_findDealing_79 : decode cX8_findDealing 79 = .ok (.ishl, 1) := by decide +kernel
theorem dX8_findDealing_80 : decode cX8_findDealing 80 = .ok (.goto 4, 3) := by decide +kernel
theorem dX8_findDealing_83 : decode cX8_findDealing 83 = .ok (.iconst 0, 1) := by decide +kernel
theorem dX8_findDealing_84 : decode cX8_findDealing 84 = .ok (.ior, 1) := by decide +kernel
theorem dX8_findDealing_85 : decode cX8_findDealing 85 = .ok (.istore_n 3, 1) := by decide +kernel
theorem dX8_findDealing_86 : decode cX8_findDealing 86 = .ok (.iinc 4 1, 3) := by decide +kernel
theorem dX8_findDealing_89 : decode cX8_findDealing 89 = .ok (.goto (-35), 3) := by decide +kernel
theorem dX8_findDealing_92 : decode cX8_findDealing 92 = .ok (.iconst 0, 1) := by decide +kernel
theorem dX8_findDealing_93 : decode cX8_findDealing 93 = .ok (.istore 4, 2) := by decide +kernel
theorem dX8_findDealing_95 : decode cX8_findDealing 95 = .ok (.iload 4, 2) := by decide +kernel
theorem dX8_findDealing_97 : decode cX8_findDealing 97 = .ok (.iconst 1, 1) := by decide +kernel
theorem dX8_findDealing_98 : decode cX8_findDealing 98 = .ok (.aload_n 0, 1) := by decide +kernel
theorem dX8_findDealing_99 : decode cX8_findDealing 99 = .ok (.getfield 9, 3) := by decide +kernel
theorem dX8_findDealing_102 : decode cX8_findDealing 102 = .ok (.iconst 1, 1) := by decide +kernel
theorem dX8_findDealing_103 : decode cX8_findDealing 103 = .ok (.iaload, 1) := by decide +kernel
theorem dX8_findDealing_104 : decode cX8_findDealing 104 = .ok (.ishl, 1) := by decide +kernel
theorem dX8_findDealing_105 : decode cX8_findDealing 105 = .ok (.if_icmp .ge 102, 3) := by decide +kernel
theorem dX8_findDealing_108 : decode cX8_findDealing 108 = .ok (.aload_n 0, 1) := by decide +kernel
theorem dX8_findDealing_109 : decode cX8_findDealing 109 = .ok (.getfield 26, 3) := by decide +kernel
theorem dX8_findDealing_112 : decode cX8_findDealing 112 = .ok (.sipush 1024, 3) := by decide +kernel
theorem dX8_findDealing_115 : decode cX8_findDealing 115 = .ok (.iload_n 2, 1) := by decide +kernel
theorem dX8_findDealing_116 : decode cX8_findDealing 116 = .ok (.iconst 1, 1) := by decide +kernel
theorem dX8_findDealing_117 : decode cX8_findDealing 117 = .ok (.iadd, 1) := by decide +kernel
theorem dX8_findDealing_118 : decode cX8_findDealing 118 = .ok (.imul, 1) := by decide +kernel
theorem dX8_findDealing_119 : decode cX8_findDealing 119 = .ok (.iload 4, 2) := by decide +kernel
theorem dX8_findDealing_121 : decode cX8_findDealing 121 = .ok (.iadd, 1) := by decide +kernel
theorem dX8_findDealing_122 : decode cX8_findDealing 122 = .ok (.iaload, 1) := by decide +kernel
theorem dX8_findDealing_123 : decode cX8_findDealing 123 = .ok (.istore 5, 2) := by decide +kernel
theorem dX8_findDealing_125 : decode cX8_findDealing 125 = .ok (.iconst 0, 1) := by decide +kernel
theorem dX8_findDealing_126 : decode cX8_findDealing 126 = .ok (.istore 6, 2) := by decide +kernel
theorem dX8_findDealing_128 : decode cX8_findDealing 128 = .ok (.iload 6, 2) := by decide +kernel
theorem dX8_findDealing_130 : decode cX8_findDealing 130 = .ok (.aload_n 0, 1) := by decide +kernel
theorem dX8_findDealing_131 : decode cX8_findDealing 131 = .ok (.getfield 9, 3) := by decide +kernel
theorem dX8_findDealing_134 : decode cX8_findDealing 134 = .ok (.iconst 1, 1) := by decide +kernel
theorem dX8_findDealing_135 : decode cX8_findDealing 135 = .ok (.iaload, 1) := by decide +kernel
theorem dX8_findDealing_136 : decode cX8_findDealing 136 = .ok (.if_icmp .ge 50, 3) := by decide +kernel
theorem dX8_findDealing_139 : decode cX8_findDealing 139 = .ok (.iload_n 3, 1) := by decide +kernel
theorem dX8_findDealing_140 : decode cX8_findDealing 140 = .ok (.iload 4, 2) := by decide +kernel
theorem dX8_findDealing_142 : decode cX8_findDealing 142 = .ok (.iconst (-1), 1) := by decide +kernel
theorem dX8_findDealing_143 : decode cX8_findDealing 143 = .ok (.ixor, 1) := by decide +kernel
theorem dX8_findDealing_144 : decode cX8_findDealing 144 = .ok (.iand, 1) := by decide +kernel
theorem dX8_findDealing_145 : decode cX8_findDealing 145 = .ok (.iconst 1, 1) := by decide +kernel
theorem dX8_findDealing_146 : decode cX8_findDealing 146 = .ok (.iload 6, 2) := by decide +kernel
theorem dX8_findDealing_148 : decode cX8_findDealing 148 = .ok (.ishl, 1) := by decide +kernel
theorem dX8_findDealing_149 : decode cX8_findDealing 149 = .ok (.iand, 1) := by decide +kernel
theorem dX8_findDealing_150 : decode cX8_findDealing 150 = .ok (.ifCond .eq 30, 3) := by decide +kernel
theorem dX8_findDealing_153 : decode cX8_findDealing 153 = .ok (.aload_n 0, 1) := by decide +kernel
theorem dX8_findDealing_154 : decode cX8_findDealing 154 = .ok (.iload_n 2, 1) := by decide +kernel
theorem dX8_findDealing_155 : decode cX8_findDealing 155 = .ok (.iload 4, 2) := by decide +kernel
theorem dX8_findDealing_157 : decode cX8_findDealing 157 = .ok (.iload 6, 2) := by decide +kernel
theorem dX8_findDealing_159 : decode cX8_findDealing 159 = .ok (.invokevirtual 176, 3) := by decide +kernel
theorem dX8_findDealing_162 : decode cX8_findDealing 162 = .ok (.istore 7, 2) := by decide +kernel
theorem dX8_findDealing_164 : decode cX8_findDealing 164 = .ok (.iload 7, 2) := by decide +kernel
theorem dX8_findDealing_166 : decode cX8_findDealing 166 = .ok (.iload 5, 2) := by decide +kernel
theorem dX8_findDealing_168 : decode cX8_findDealing 168 = .ok (.if_icmp .le 8, 3) := by decide +kernel
theorem dX8_findDealing_171 : decode cX8_findDealing 171 = .ok (.iload 7, 2) := by decide +kernel
theorem dX8_findDealing_173 : decode cX8_findDealing 173 = .ok (.goto 5, 3) := by decide +kernel
theorem dX8_findDealing_176 : decode cX8_findDealing 176 = .ok (.iload 5, 2) := by decide +kernel
theorem dX8_findDealing_178 : decode cX8_findDealing 178 = .ok (.istore 5, 2) := by decide +kernel
theorem dX8_findDealing_180 : decode cX8_findDealing 180 = .ok (.iinc 6 1, 3) := by decide +kernel
theorem dX8_findDealing_183 : decode cX8_findDealing 183 = .ok (.goto (-55), 3) := by decide +kernel
theorem dX8_findDealing_186 : decode cX8_findDealing 186 = .ok (.aload_n 0, 1) := by decide +kernel
theorem dX8_findDealing_187 : decode cX8_findDealing 187 = .ok (.getfield 26, 3) := by decide +kernel
theorem dX8_findDealing_190 : decode cX8_findDealing 190 = .ok (.sipush 1024, 3) := by decide +kernel
theorem dX8_findDealing_193 : decode cX8_findDealing 193 = .ok (.iload_n 2, 1) := by decide +kernel
theorem dX8_findDealing_194 : decode cX8_findDealing 194 = .ok (.imul, 1) := by decide +kernel
theorem dX8_findDealing_195 : decode cX8_findDealing 195 = .ok (.iload 4, 2) := by decide +kernel
theorem dX8_findDealing_197 : decode cX8_findDealing 197 = .ok (.iadd, 1) := by decide +kernel
theorem dX8_findDealing_198 : decode cX8_findDealing 198 = .ok (.iload 5, 2) := by decide +kernel
theorem dX8_findDealing_200 : decode cX8_findDealing 200 = .ok (.iastore, 1) := by decide +kernel
theorem dX8_findDealing_201 : decode cX8_findDealing 201 = .ok (.iinc 4 1, 3) := by decide +kernel
theorem dX8_findDealing_204 : decode cX8_findDealing 204 = .ok (.goto (-109), 3) := by decide +kernel
theorem dX8_findDealing_207 : decode cX8_findDealing 207 = .ok (.iinc 2 (-1), 3) := by decide +kernel
theorem dX8_findDealing_210 : decode cX8_findDealing 210 = .ok (.goto (-165), 3) := by decide +kernel
theorem dX8_findDealing_213 : decode cX8_findDealing 213 = .ok (.iconst 0, 1) := by decide +kernel
theorem dX8_findDealing_214 : decode cX8_findDealing 214 = .ok (.istore_n 2, 1) := by decide +kernel
theorem dX8_findDealing_215 : decode cX8_findDealing 215 = .ok (.iconst 0, 1) := by decide +kernel
theorem dX8_findDealing_216 : decode cX8_findDealing 216 = .ok (.istore_n 3, 1) := by decide +kernel
theorem dX8_findDealing_217 : decode cX8_findDealing 217 = .ok (.iload_n 3, 1) := by decide +kernel
theorem dX8_findDealing_218 : decode cX8_findDealing 218 = .ok (.iload_n 1, 1) := by decide +kernel
theorem dX8_findDealing_219 : decode cX8_findDealing 219 = .ok (.if_icmp .ge 132, 3) := by decide +kernel
theorem dX8_findDealing_222 : decode cX8_findDealing 222 = .ok (.aload_n 0, 1) := by decide +kernel
theorem dX8_findDealing_223 : decode cX8_findDealing 223 = .ok (.getfield 29, 3) := by decide +kernel
theorem dX8_findDealing_226 : decode cX8_findDealing 226 = .ok (.iload_n 3, 1) := by decide +kernel
theorem dX8_findDealing_227 : decode cX8_findDealing 227 = .ok (.iconst (-1), 1) := by decide +kernel
theorem dX8_findDealing_228 : decode cX8_findDealing 228 = .ok (.iastore, 1) := by decide +kernel
theorem dX8_findDealing_229 : decode cX8_findDealing 229 = .ok (.aload_n 0, 1) := by decide +kernel
theorem dX8_findDealing_230 : decode cX8_findDealing 230 = .ok (.getfield 9, 3) := by decide +kernel
theorem dX8_findDealing_233 : decode cX8_findDealing 233 = .ok (.iconst 1, 1) := by decide +kernel
theorem dX8_findDealing_234 : decode cX8_findDealing 234 = .ok (.iaload, 1) := by decide +kernel
theorem dX8_findDealing_235 : decode cX8_findDealing 235 = .ok (.iconst 1, 1) := by decide +kernel
theorem dX8_findDealing_236 : decode cX8_findDealing 236 = .ok (.isub, 1) := by decide +kernel
theorem dX8_findDealing_237 : decode cX8_findDealing 237 = .ok (.istore 4, 2) := by decide +kernel
theorem dX8_findDealing_239 : decode cX8_findDealing 239 = .ok (.iload 4, 2) := by decide +kernel
theorem dX8_findDealing_241 : decode cX8_findDealing 241 = .ok (.ifCond .lt 80, 3) := by decide +kernel
theorem dX8_findDealing_244 : decode cX8_findDealing 244 = .ok (.iload_n 2, 1) := by decide +kernel
theorem dX8_findDealing_245 : decode cX8_findDealing 245 = .ok (.iload 4, 2) := by decide +kernel
theorem dX8_findDealing_247 : decode cX8_findDealing 247 = .ok (.ishr, 1) := by decide +kernel
theorem dX8_findDealing_248 : decode cX8_findDealing 248 = .ok (.iconst 1, 1) := by decide +kernel
theorem dX8_findDealing_249 : decode cX8_findDealing 249 = .ok (.iand, 1) := by decide +kernel
theorem dX8_findDealing_250 : decode cX8_findDealing 250 = .ok (.ifCond .ne 40, 3) := by decide +kernel
theorem dX8_findDealing_253 : decode cX8_findDealing 253 = .ok (.aload_n 0, 1) := by decide +kernel
theorem dX8_findDealing_254 : decode cX8_findDealing 254 = .ok (.iload_n 3, 1) := by decide +kernel
theorem dX8_findDealing_255 : decode cX8_findDealing 255 = .ok (.iload 4, 2) := by decide +kernel
theorem dX8_findDealing_257 : decode cX8_findDealing 257 = .ok (.invokevirtual 170, 3) := by decide +kernel
theorem dX8_findDealing_260 : decode cX8_findDealing 260 = .ok (.ifCond .eq 30, 3) := by decide +kernel
theorem dX8_findDealing_263 : decode cX8_findDealing 263 = .ok (.aload_n 0, 1) := by decide +kernel
theorem dX8_findDealing_264 : decode cX8_findDealing 264 = .ok (.iload_n 3, 1) := by decide +kernel
theorem dX8_findDealing_265 : decode cX8_findDealing 265 = .ok (.iload_n 2, 1) := by decide +kernel
theorem dX8_findDealing_266 : decode cX8_findDealing 266 = .ok (.iload 4, 2) := by decide +kernel
theorem dX8_findDealing_268 : decode cX8_findDealing 268 = .ok (.invokevirtual 176, 3) := by decide +kernel
theorem dX8_findDealing_271 : decode cX8_findDealing 271 = .ok (.aload_n 0, 1) := by decide +kernel
theorem dX8_findDealing_272 : decode cX8_findDealing 272 = .ok (.getfield 26, 3) := by decide +kernel
theorem dX8_findDealing_275 : decode cX8_findDealing 275 = .ok (.sipush 1024, 3) := by decide +kernel
theorem dX8_findDealing_278 : decode cX8_findDealing 278 = .ok (.iload_n 3, 1) := by decide +kernel
theorem dX8_findDealing_279 : decode cX8_findDealing 279 = .ok (.imul, 1) := by decide +kernel
theorem dX8_findDealing_280 : decode cX8_findDealing 280 = .ok (.iload_n 2, 1) := by decide +kernel
theorem dX8_findDealing_281 : decode cX8_findDealing 281 = .ok (.iadd, 1) := by decide +kernel
theorem dX8_findDealing_282 : decode cX8_findDealing 282 = .ok (.iaload, 1) := by decide +kernel
theorem dX8_findDealing_283 : decode cX8_findDealing 283 = .ok (.if_icmp .ne 7, 3) := by decide +kernel
theorem dX8_findDealing_286 : decode cX8_findDealing 286 = .ok (.iconst 1, 1) := by decide +kernel
theorem dX8_findDealing_287 : decode cX8_findDealing 287 = .ok (.goto 4, 3) := by decide +kernel
theorem dX8_findDealing_290 : decode cX8_findDealing 290 = .ok (.iconst 0, 1) := by decide +kernel
theorem dX8_findDealing_291 : decode cX8_findDealing 291 = .ok (.istore 5, 2) := by decide +kernel
theorem dX8_findDealing_293 : decode cX8_findDealing 293 = .ok (.aload_n 0, 1) := by decide +kernel
theorem dX8_findDealing_294 : decode cX8_findDealing 294 = .ok (.getfield 29, 3) := by decide +kernel
theorem dX8_findDealing_297 : decode cX8_findDealing 297 = .ok (.iload_n 3, 1) := by decide +kernel
theorem dX8_findDealing_298 : decode cX8_findDealing 298 = .ok (.iload 5, 2) := by decide +kernel
theorem dX8_findDealing_300 : decode cX8_findDealing 300 = .ok (.ifCond .eq 8, 3) := by decide +kernel
theorem dX8_findDealing_303 : decode cX8_findDealing 303 = .ok (.iload 4, 2) := by decide +kernel
theorem dX8_findDealing_305 : decode cX8_findDealing 305 = .ok (.goto 9, 3) := by decide +kernel
theorem dX8_findDealing_308 : decode cX8_findDealing 308 = .ok (.aload_n 0, 1) := by decide +kernel
theorem dX8_findDealing_309 : decode cX8_findDealing 309 = .ok (.getfield 29, 3) := by decide +kernel
theorem dX8_findDealing_312 : decode cX8_findDealing 312 = .ok (.iload_n 3, 1) := by decide +kernel
theorem dX8_findDealing_313 : decode cX8_findDealing 313 = .ok (.iaload, 1) := by decide +kernel
theorem dX8_findDealing_314 : decode cX8_findDealing 314 = .ok (.iastore, 1) := by decide +kernel
theorem dX8_findDealing_315 : decode cX8_findDealing 315 = .ok (.iinc 4 (-1), 3) := by decide +kernel
theorem dX8_findDealing_318 : decode cX8_findDealing 318 = .ok (.goto (-79), 3) := by decide +kernel
theorem dX8_findDealing_321 : decode cX8_findDealing 321 = .ok (.iload_n 2, 1) := by decide +kernel
theorem dX8_findDealing_322 : decode cX8_findDealing 322 = .ok (.aload_n 0, 1) := by decide +kernel
theorem dX8_findDealing_323 : decode cX8_findDealing 323 = .ok (.getfield 29, 3) := by decide +kernel
theorem dX8_findDealing_326 : decode cX8_findDealing 326 = .ok (.iload_n 3, 1) := by decide +kernel
theorem dX8_findDealing_327 : decode cX8_findDealing 327 = .ok (.iaload, 1) := by decide +kernel
theorem dX8_findDealing_328 : decode cX8_findDealing 328 = .ok (.ifCond .ge 7, 3) := by decide +kernel
theorem dX8_findDealing_331 : decode cX8_findDealing 331 = .ok (.iconst 0, 1) := by decide +kernel
theorem dX8_findDealing_332 : decode cX8_findDealing 332 = .ok (.goto 11, 3) := by decide +kernel
theorem dX8_findDealing_335 : decode cX8_findDealing 335 = .ok (.iconst 1, 1) := by decide +kernel
theorem dX8_findDealing_336 : decode cX8_findDealing 336 = .ok (.aload_n 0, 1) := by decide +kernel
theorem dX8_findDealing_337 : decode cX8_findDealing 337 = .ok (.getfield 29, 3) := by decide +kernel
theorem dX8_findDealing_340 : decode cX8_findDealing 340 = .ok (.iload_n 3, 1) := by decide +kernel
theorem dX8_findDealing_341 : decode cX8_findDealing 341 = .ok (.iaload, 1) := by decide +kernel
theorem dX8_findDealing_342 : decode cX8_findDealing 342 = .ok (.ishl, 1) := by decide +kernel
theorem dX8_findDealing_343 : decode cX8_findDealing 343 = .ok (.ior, 1) := by decide +kernel
theorem dX8_findDealing_344 : decode cX8_findDealing 344 = .ok (.istore_n 2, 1) := by decide +kernel
theorem dX8_findDealing_345 : decode cX8_findDealing 345 = .ok (.iinc 3 1, 3) := by decide +kernel
theorem dX8_findDealing_348 : decode cX8_findDealing 348 = .ok (.goto (-131), 3) := by decide +kernel
theorem dX8_findDealing_351 : decode cX8_findDealing 351 = .ok (.return_, 1) := by decide +kernel
theorem dX8_dealing_0 : decode cX8_dealing 0 = .ok (.iload_n 1, 1) := by decide +kernel
theorem dX8_dealing_1 : decode cX8_dealing 1 = .ok (.iconst 0, 1) := by decide +kernel
theorem dX8_dealing_2 : decode cX8_dealing 2 = .ok (.iconst 1, 1) := by decide +kernel
theorem dX8_dealing_3 : decode cX8_dealing 3 = .ok (.aload_n 0, 1) := by decide +kernel
theorem dX8_dealing_4 : decode cX8_dealing 4 = .ok (.getfield 9, 3) := by decide +kernel
theorem dX8_dealing_7 : decode cX8_dealing 7 = .ok (.bipush 7, 2) := by decide +kernel
theorem dX8_dealing_9 : decode cX8_dealing 9 = .ok (.iaload, 1) := by decide +kernel
theorem dX8_dealing_10 : decode cX8_dealing 10 = .ok (.iadd, 1) := by decide +kernel
theorem dX8_dealing_11 : decode cX8_dealing 11 = .ok (.invokestatic 92, 3) := by decide +kernel
theorem dX8_dealing_14 : decode cX8_dealing 14 = .ok (.ifCond .ne 6, 3) := by decide +kernel
theorem dX8_dealing_17 : decode cX8_dealing 17 = .ok (.ldc 111, 2) := by decide +kernel
theorem dX8_dealing_19 : decode cX8_dealing 19 = .ok (.ireturn, 1) := by decide +kernel
theorem dX8_dealing_20 : decode cX8_dealing 20 = .ok (.iload_n 1, 1) := by decide +kernel
theorem dX8_dealing_21 : decode cX8_dealing 21 = .ok (.ifCond .ne 9, 3) := by decide +kernel
theorem dX8_dealing_24 : decode cX8_dealing 24 = .ok (.aload_n 0, 1) := by decide +kernel
theorem dX8_dealing_25 : decode cX8_dealing 25 = .ok (.iconst (-1), 1) := by decide +kernel
theorem dX8_dealing_26 : decode cX8_dealing 26 = .ok (.invokevirtual 179, 3) := by decide +kernel
theorem dX8_dealing_29 : decode cX8_dealing 29 = .ok (.ireturn, 1) := by decide +kernel
theorem dX8_dealing_30 : decode cX8_dealing 30 = .ok (.aload_n 0, 1) := by decide +kernel
theorem dX8_dealing_31 : decode cX8_dealing 31 = .ok (.invokevirtual 182, 3) := by decide +kernel
theorem dX8_dealing_34 : decode cX8_dealing 34 = .ok (.iload_n 1, 1) := by decide +kernel
theorem dX8_dealing_35 : decode cX8_dealing 35 = .ok (.iconst 1, 1) := by decide +kernel
theorem dX8_dealing_36 : decode cX8_dealing 36 = .ok (.if_icmp .le 15, 3) := by decide +kernel
theorem dX8_dealing_39 : decode cX8_dealing 39 = .ok (.aload_n 0, 1) := by decide +kernel
theorem dX8_dealing_40 : decode cX8_dealing 40 = .ok (.getfield 29, 3) := by decide +kernel
theorem dX8_dealing_43 : decode cX8_dealing 43 = .ok (.iload_n 1, 1) := by decide +kernel
theorem dX8_dealing_44 : decode cX8_dealing 44 = .ok (.iconst 2, 1) := by decide +kernel
theorem dX8_dealing_45 : decode cX8_dealing 45 = .ok (.isub, 1) := by decide +kernel
theorem dX8_dealing_46 : decode cX8_dealing 46 = .ok (.iaload, 1) := by decide +kernel
theorem dX8_dealing_47 : decode cX8_dealing 47 = .ok (.invokestatic 185, 3) := by decide +kernel
theorem dX8_dealing_50 : decode cX8_dealing 50 = .ok (.ireturn, 1) := by decide +kernel
theorem dX8_dealing_51 : decode cX8_dealing 51 = .ok (.iconst 0, 1) := by decide +kernel
theorem dX8_dealing_52 : decode cX8_dealing 52 = .ok (.istore_n 2, 1) := by decide +kernel
theorem dX8_dealing_53 : decode cX8_dealing 53 = .ok (.iconst 0, 1) := by decide +kernel
theorem dX8_dealing_54 : decode cX8_dealing 54 = .ok (.istore_n 3, 1) := by decide +kernel
theorem dX8_dealing_55 : decode cX8_dealing 55 = .ok (.iload_n 3, 1) := by decide +kernel
theorem dX8_dealing_56 : decode cX8_dealing 56 = .ok (.aload_n 0, 1) := by decide +kernel
theorem dX8_dealing_57 : decode cX8_dealing 57 = .ok (.getfield 9, 3) := by decide +kernel
theorem dX8_dealing_60 : decode cX8_dealing 60 = .ok (.bipush 7, 2) := by decide +kernel
theorem dX8_dealing_62 : decode cX8_dealing 62 = .ok (.iaload, 1) := by decide +kernel
theorem dX8_dealing_63 : decode cX8_dealing 63 = .ok (.if_icmp .ge 46, 3) := by decide +kernel
theorem dX8_dealing_66 : decode cX8_dealing 66 = .ok (.iload_n 2, 1) := by decide +kernel
theorem dX8_dealing_67 : decode cX8_dealing 67 = .ok (.aload_n 0, 1) := by decide +kernel
theorem dX8_dealing_68 : decode cX8_dealing 68 = .ok (.getfield 29, 3) := by decide +kernel
theorem dX8_dealing_71 : decode cX8_dealing 71 = .ok (.iload_n 3, 1) := by decide +kernel
theorem dX8_dealing_72 : decode cX8_dealing 72 = .ok (.iaload, 1) := by decide +kernel
theorem dX8_dealing_73 : decode cX8_dealing 73 = .ok (.ifCond .ge 7, 3) := by decide +kernel
theorem dX8_dealing_76 : decode cX8_dealing 76 = .ok (.iconst 0, 1) := by decide +kernel
theorem dX8_dealing_77 : decode cX8_dealing 77 = .ok (.goto 24, 3) := by decide +kernel
theorem dX8_dealing_80 : decode cX8_dealing 80 = .ok (.aload_n 0, 1) := by decide +kernel
theorem dX8_dealing_81 : decode cX8_dealing 81 = .ok (.aload_n 0, 1) := by decide +kernel
theorem dX8_dealing_82 : decode cX8_dealing 82 = .ok (.getfield 29, 3) := by decide +kernel
theorem dX8_dealing_85 : decode cX8_dealing 85 = .ok (.iload_n 3, 1) := by decide +kernel
theorem dX8_dealing_86 : decode cX8_dealing 86 = .ok (.iaload, 1) := by decide +kernel
theorem dX8_dealing_87 : decode cX8_dealing 87 = .ok (.aload_n 0, 1) := by decide +kernel
theorem dX8_dealing_88 : decode cX8_dealing 88 = .ok (.getfield 9, 3) := by decide +kernel
theorem dX8_dealing_91 : decode cX8_dealing 91 = .ok (.bipush 9, 2) := by decide +kernel
theorem dX8_dealing_93 : decode cX8_dealing 93 = .ok (.iconst 2, 1) := by decide +kernel
theorem dX8_dealing_94 : decode cX8_dealing 94 = .ok (.iload_n 3, 1) := by decide +kernel
theorem dX8_dealing_95 : decode cX8_dealing 95 = .ok (.imul, 1) := by decide +kernel
theorem dX8_dealing_96 : decode cX8_dealing 96 = .ok (.iadd, 1) := by decide +kernel
theorem dX8_dealing_97 : decode cX8_dealing 97 = .ok (.iaload, 1) := by decide +kernel
theorem dX8_dealing_98 : decode cX8_dealing 98 = .ok (.invokevirtual 154, 3) := by decide +kernel
theorem dX8_dealing_101 : decode cX8_dealing 101 = .ok (.iadd, 1) := by decide +kernel
theorem dX8_dealing_102 : decode cX8_dealing 102 = .ok (.istore_n 2, 1) := by decide +kernel
theorem dX8_dealing_103 : decode cX8_dealing 103 = .ok (.iinc 3 1, 3) := by decide +kernel
theorem dX8_dealing_106 : decode cX8_dealing 106 = .ok (.goto (-51), 3) := by decide +kernel
theorem dX8_dealing_109 : decode cX8_dealing 109 = .ok (.iload_n 2, 1) := by decide +kernel
theorem dX8_dealing_110 : decode cX8_dealing 110 = .ok (.ireturn, 1) := by decide +kernel
theorem dX8_adds_0 : decode cX8_adds 0 = .ok (.aload_n 0, 1) := by decide +kernel
theorem dX8_adds_1 : decode cX8_adds 1 = .ok (.iload_n 1, 1) := by decide +kernel
theorem dX8_adds_2 : decode cX8_adds 2 = .ok (.invokevirtual 121, 3) := by decide +kernel
theorem dX8_adds_5 : decode cX8_adds 5 = .ok (.ifCond .eq 17, 3) := by decide +kernel
theorem dX8_adds_8 : decode cX8_adds 8 = .ok (.aload_n 0, 1) := by decide +kernel
theorem dX8_adds_9 : decode cX8_adds 9 = .ok (.iconst (-1), 1) := by decide +kernel
theorem dX8_adds_10 : decode cX8_adds 10 = .ok (.invokevirtual 179, 3) := by decide +kernel
theorem dX8_adds_13 : decode cX8_adds 13 = .ok (.aload_n 0, 1) := by decide +kernel
theorem dX8_adds_14 : decode cX8_adds 14 = .ok (.iload_n 1, 1) := by decide +kernel
theorem dX8_adds_15 : decode cX8_adds 15 = .ok (.invokevirtual 179, 3) := by decide +kernel
theorem dX8_adds_18 : decode cX8_adds 18 = .ok (.isub, 1) := by decide +kernel
theorem dX8_adds_19 : decode cX8_adds 19 = .ok (.goto 5, 3) := by decide +kernel
theorem dX8_adds_22 : decode cX8_adds 22 = .ok (.ldc 111, 2) := by decide +kernel
theorem dX8_adds_24 : decode cX8_adds 24 = .ok (.ireturn, 1) := by decide +kernel
theorem dX8_frees_0 : decode cX8_frees 0 = .ok (.iload_n 1, 1) := by decide +kernel
theorem dX8_frees_1 : decode cX8_frees 1 = .ok (.invokestatic 104, 3) := by decide +kernel
theorem dX8_frees_4 : decode cX8_frees 4 = .ok (.ifCond .ne 6, 3) := by decide +kernel
theorem dX8_frees_7 : decode cX8_frees 7 = .ok (.ldc 111, 2) := by decide +kernel
theorem dX8_frees_9 : decode cX8_frees 9 = .ok (.ireturn, 1) := by decide +kernel
theorem dX8_frees_10 : decode cX8_frees 10 = .ok (.aload_n 0, 1) := by decide +kernel
theorem dX8_frees_11 : decode cX8_frees 11 = .ok (.iconst (-1), 1) := by decide +kernel
theorem dX8_frees_12 : decode cX8_frees 12 = .ok (.invokevirtual 179, 3) := by decide +kernel
theorem dX8_frees_15 : decode cX8_frees 15 = .ok (.istore_n 2, 1) := by decide +kernel
theorem dX8_frees_16 : decode cX8_frees 16 = .ok (.ldc 91, 2) := by decide +kernel
theorem dX8_frees_18 : decode cX8_frees 18 = .ok (.istore_n 3, 1) := by decide +kernel
theorem dX8_frees_19 : decode cX8_frees 19 = .ok (.bipush 99, 2) := by decide +kernel
theorem dX8_frees_21 : decode cX8_frees 21 = .ok (.istore 4, 2) := by decide +kernel
theorem dX8_frees_23 : decode cX8_frees 23 = .ok (.iload 4, 2) := by decide +kernel
theorem dX8_frees_25 : decode cX8_frees 25 = .ok (.ifCond .le 46, 3) := by decide +kernel
theorem dX8_frees_28 : decode cX8_frees 28 = .ok (.aload_n 0, 1) := by decide +kernel
theorem dX8_frees_29 : decode cX8_frees 29 = .ok (.iconst 0, 1) := by decide +kernel
theorem dX8_frees_30 : decode cX8_frees 30 = .ok (.iload_n 1, 1) := by decide +kernel
theorem dX8_frees_31 : decode cX8_frees 31 = .ok (.iload 4, 2) := by decide +kernel
theorem dX8_frees_33 : decode cX8_frees 33 = .ok (.iconst 0, 1) := by decide +kernel
theorem dX8_frees_34 : decode cX8_frees 34 = .ok (.invokevirtual 113, 3) := by decide +kernel
theorem dX8_frees_37 : decode cX8_frees 37 = .ok (.istore 5, 2) := by decide +kernel
theorem dX8_frees_39 : decode cX8_frees 39 = .ok (.aload_n 0, 1) := by decide +kernel
theorem dX8_frees_40 : decode cX8_frees 40 = .ok (.iconst (-1), 1) := by decide +kernel
theorem dX8_frees_41 : decode cX8_frees 41 = .ok (.invokevirtual 179, 3) := by decide +kernel
theorem dX8_frees_44 : decode cX8_frees 44 = .ok (.iload_n 2, 1) := by decide +kernel
theorem dX8_frees_45 : decode cX8_frees 45 = .ok (.if_icmp .le 8, 3) := by decide +kernel
theorem dX8_frees_48 : decode cX8_frees 48 = .ok (.iload 4, 2) := by decide +kernel
theorem dX8_frees_50 : decode cX8_frees 50 = .ok (.goto 4, 3) := by decide +kernel
theorem dX8_frees_53 : decode cX8_frees 53 = .ok (.iload_n 3, 1) := by decide +kernel
theorem dX8_frees_54 : decode cX8_frees 54 = .ok (.istore_n 3, 1) := by decide +kernel
theorem dX8_frees_55 : decode cX8_frees 55 = .ok (.aload_n 0, 1) := by decide +kernel
theorem dX8_frees_56 : decode cX8_frees 56 = .ok (.getfield 9, 3) := by decide +kernel
theorem dX8_frees_59 : decode cX8_frees 59 = .ok (.iconst 1, 1) := by decide +kernel
theorem dX8_frees_60 : decode cX8_frees 60 = .ok (.dup2, 1) := by decide +kernel
theorem dX8_frees_61 : decode cX8_frees 61 = .ok (.iaload, 1) := by decide +kernel
theorem dX8_frees_62 : decode cX8_frees 62 = .ok (.iconst 1, 1) := by decide +kernel
theorem dX8_frees_63 : decode cX8_frees 63 = .ok (.isub, 1) := by decide +kernel
theorem dX8_frees_64 : decode cX8_frees 64 = .ok (.iastore, 1) := by decide +kernel
theorem dX8_frees_65 : decode cX8_frees 65 = .ok (.iinc 4 (-1), 3) := by decide +kernel
theorem dX8_frees_68 : decode cX8_frees 68 = .ok (.goto (-45), 3) := by decide +kernel
theorem dX8_frees_71 : decode cX8_frees 71 = .ok (.iload_n 3, 1) := by decide +kernel
theorem dX8_frees_72 : decode cX8_frees 72 = .ok (.ireturn, 1) := by decide +kernel
theorem dX8_filled_0 : decode cX8_filled 0 = .ok (.iconst 0, 1) := by decide +kernel
theorem dX8_filled_1 : decode cX8_filled 1 = .ok (.istore_n 1, 1) := by decide +kernel
theorem dX8_filled_2 : decode cX8_filled 2 = .ok (.iconst 0, 1) := by decide +kernel
theorem dX8_filled_3 : decode cX8_filled 3 = .ok (.istore_n 2, 1) := by decide +kernel
theorem dX8_filled_4 : decode cX8_filled 4 = .ok (.iload_n 2, 1) := by decide +kernel
theorem dX8_filled_5 : decode cX8_filled 5 = .ok (.aload_n 0, 1) := by decide +kernel
theorem dX8_filled_6 : decode cX8_filled 6 = .ok (.getfield 9, 3) := by decide +kernel
theorem dX8_filled_9 : decode cX8_filled 9 = .ok (.iconst 1, 1) := by decide +kernel
theorem dX8_filled_10 : decode cX8_filled 10 = .ok (.iaload, 1) := by decide +kernel
theorem dX8_filled_11 : decode cX8_filled 11 = .ok (.if_icmp .ge 26, 3) := by decide +kernel
theorem dX8_filled_14 : decode cX8_filled 14 = .ok (.iload_n 1, 1) := by decide +kernel
theorem dX8_filled_15 : decode cX8_filled 15 = .ok (.aload_n 0, 1) := by decide +kernel
theorem dX8_filled_16 : decode cX8_filled 16 = .ok (.iload_n 2, 1) := by decide +kernel
theorem dX8_filled_17 : decode cX8_filled 17 = .ok (.iconst 2, 1) := by decide +kernel
theorem dX8_filled_18 : decode cX8_filled 18 = .ok (.invokevirtual 117, 3) := by decide +kernel
theorem dX8_filled_21 : decode cX8_filled 21 = .ok (.ifCond .ne 7, 3) := by decide +kernel
theorem dX8_filled_24 : decode cX8_filled 24 = .ok (.iconst 1, 1) := by decide +kernel
theorem dX8_filled_25 : decode cX8_filled 25 = .ok (.goto 4, 3) := by decide +kernel
theorem dX8_filled_28 : decode cX8_filled 28 = .ok (.iconst 0, 1) := by decide +kernel
theorem dX8_filled_29 : decode cX8_filled 29 = .ok (.iadd, 1) := by decide +kernel
theorem dX8_filled_30 : decode cX8_filled 30 = .ok (.istore_n 1, 1) := by decide +kernel
theorem dX8_filled_31 : decode cX8_filled 31 = .ok (.iinc 2 1, 3) := by decide +kernel
theorem dX8_filled_34 : decode cX8_filled 34 = .ok (.goto (-30), 3) := by decide +kernel
theorem dX8_filled_37 : decode cX8_filled 37 = .ok (.iload_n 1, 1) := by decide +kernel
theorem dX8_filled_38 : decode cX8_filled 38 = .ok (.ireturn, 1) := by decide +kernel
theorem dX8_depthAll_0 : decode cX8_depthAll 0 = .ok (.iconst 0, 1) := by decide +kernel
theorem dX8_depthAll_1 : decode cX8_depthAll 1 = .ok (.istore_n 1, 1) := by decide +kernel
theorem dX8_depthAll_2 : decode cX8_depthAll 2 = .ok (.iconst 0, 1) := by decide +kernel
theorem dX8_depthAll_3 : decode cX8_depthAll 3 = .ok (.istore_n 2, 1) := by decide +kernel
theorem dX8_depthAll_4 : decode cX8_depthAll 4 = .ok (.iload_n 2, 1) := by decide +kernel
theorem dX8_depthAll_5 : decode cX8_depthAll 5 = .ok (.aload_n 0, 1) := by decide +kernel
theorem dX8_depthAll_6 : decode cX8_depthAll 6 = .ok (.getfield 9, 3) := by decide +kernel
theorem dX8_depthAll_9 : decode cX8_depthAll 9 = .ok (.iconst 1, 1) := by decide +kernel
theorem dX8_depthAll_10 : decode cX8_depthAll 10 = .ok (.iaload, 1) := by decide +kernel
theorem dX8_depthAll_11 : decode cX8_depthAll 11 = .ok (.if_icmp .ge 18, 3) := by decide +kernel
theorem dX8_depthAll_14 : decode cX8_depthAll 14 = .ok (.iload_n 1, 1) := by decide +kernel
theorem dX8_depthAll_15 : decode cX8_depthAll 15 = .ok (.aload_n 0, 1) := by decide +kernel
theorem dX8_depthAll_16 : decode cX8_depthAll 16 = .ok (.iload_n 2, 1) := by decide +kernel
theorem dX8_depthAll_17 : decode cX8_depthAll 17 = .ok (.iconst 2, 1) := by decide +kernel
theorem dX8_depthAll_18 : decode cX8_depthAll 18 = .ok (.invokevirtual 117, 3) := by decide +kernel
theorem dX8_depthAll_21 : decode cX8_depthAll 21 = .ok (.iadd, 1) := by decide +kernel
theorem dX8_depthAll_22 : decode cX8_depthAll 22 = .ok (.istore_n 1, 1) := by decide +kernel
theorem dX8_depthAll_23 : decode cX8_depthAll 23 = .ok (.iinc 2 1, 3) := by decide +kernel
theorem dX8_depthAll_26 : decode cX8_depthAll 26 = .ok (.goto (-22), 3) := by decide +kernel
theorem dX8_depthAll_29 : decode cX8_depthAll 29 = .ok (.iload_n 1, 1) := by decide +kernel
theorem dX8_depthAll_30 : decode cX8_depthAll 30 = .ok (.ireturn, 1) := by decide +kernel
end AM13d
