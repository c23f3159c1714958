theorem dX5_init_0 : decode cX5_init 0 = .ok (.aload_n 0, 1) := by decide +kernel
theorem dX5_init_1 : decode cX5_init 1 = .ok (.invokespecial 1, 3) := by decide +kernel
theorem dX5_init_4 : decode cX5_init 4 = .ok (.aload_n 0, 1) := by decide +kernel
theorem dX5_init_5 : decode cX5_init 5 = .ok (.sipush 312, 3) := by decide +kernel
theorem dX5_init_8 : decode cX5_init 8 = .ok (.newarray .int, 2) := by decide +kernel
theorem dX5_init_10 : decode cX5_init 10 = .ok (.putfield 7, 3) := by decide +kernel
theorem dX5_init_13 : decode cX5_init 13 = .ok (.aload_n 0, 1) := by decide +kernel
theorem dX5_init_14 : decode cX5_init 14 = .ok (.bipush 52, 2) := by decide +kernel
theorem dX5_init_16 : decode cX5_init 16 = .ok (.newarray .int, 2) := by decide +kernel
theorem dX5_init_18 : decode cX5_init 18 = .ok (.putfield 13, 3) := by decide +kernel
theorem dX5_init_21 : decode cX5_init 21 = .ok (.aload_n 0, 1) := by decide +kernel
theorem dX5_init_22 : decode cX5_init 22 = .ok (.sipush 160, 3) := by decide +kernel
theorem dX5_init_25 : decode cX5_init 25 = .ok (.newarray .int, 2) := by decide +kernel
theorem dX5_init_27 : decode cX5_init 27 = .ok (.putfield 16, 3) := by decide +kernel
theorem dX5_init_30 : decode cX5_init 30 = .ok (.aload_n 0, 1) := by decide +kernel
theorem dX5_init_31 : decode cX5_init 31 = .ok (.bipush 8, 2) := by decide +kernel
theorem dX5_init_33 : decode cX5_init 33 = .ok (.newarray .int, 2) := by decide +kernel
theorem dX5_init_35 : decode cX5_init 35 = .ok (.dup, 1) := by decide +kernel
theorem dX5_init_36 : decode cX5_init 36 = .ok (.iconst 0, 1) := by decide +kernel
theorem dX5_init_37 : decode cX5_init 37 = .ok (.iconst 0, 1) := by decide +kernel
theorem dX5_init_38 : decode cX5_init 38 = .ok (.iastore, 1) := by decide +kernel
theorem dX5_init_39 : decode cX5_init 39 = .ok (.dup, 1) := by decide +kernel
theorem dX5_init_40 : decode cX5_init 40 = .ok (.iconst 1, 1) := by decide +kernel
theorem dX5_init_41 : decode cX5_init 41 = .ok (.iconst 5, 1) := by decide +kernel
theorem dX5_init_42 : decode cX5_init 42 = .ok (.iastore, 1) := by decide +kernel
theorem dX5_init_43 : decode cX5_init 43 = .ok (.dup, 1) := by decide +kernel
theorem dX5_init_44 : decode cX5_init 44 = .ok (.iconst 2, 1) := by decide +kernel
theorem dX5_init_45 : decode cX5_init 45 = .ok (.bipush 9, 2) := by decide +kernel
theorem dX5_init_47 : decode cX5_init 47 = .ok (.iastore, 1) := by decide +kernel
theorem dX5_init_48 : decode cX5_init 48 = .ok (.dup, 1) := by decide +kernel
theorem dX5_init_49 : decode cX5_init 49 = .ok (.iconst 3, 1) := by decide +kernel
theorem dX5_init_50 : decode cX5_init 50 = .ok (.bipush 14, 2) := by decide +kernel
theorem dX5_init_52 : decode cX5_init 52 = .ok (.iastore, 1) := by decide +kernel
theorem dX5_init_53 : decode cX5_init 53 = .ok (.dup, 1) := by decide +kernel
theorem dX5_init_54 : decode cX5_init 54 = .ok (.iconst 4, 1) := by decide +kernel
theorem dX5_init_55 : decode cX5_init 55 = .ok (.bipush 19, 2) := by decide +kernel
theorem dX5_init_57 : decode cX5_init 57 = .ok (.iastore, 1) := by decide +kernel
theorem dX5_init_58 : decode cX5_init 58 = .ok (.dup, 1) := by decide +kernel
theorem dX5_init_59 : decode cX5_init 59 = .ok (.iconst 5, 1) := by decide +kernel
theorem dX5_init_60 : decode cX5_init 60 = .ok (.bipush 23, 2) := by decide +kernel
theorem dX5_init_62 : decode cX5_init 62 = .ok (.iastore, 1) := by decide +kernel
theorem dX5_init_63 : decode cX5_init 63 = .ok (.dup, 1) := by decide +kernel
theorem dX5_init_64 : decode cX5_init 64 = .ok (.bipush 6, 2) := by decide +kernel
theorem dX5_init_66 : decode cX5_init 66 = .ok (.bipush 25, 2) := by decide +kernel
theorem dX5_init_68 : decode cX5_init 68 = .ok (.iastore, 1) := by decide +kernel
theorem dX5_init_69 : decode cX5_init 69 = .ok (.dup, 1) := by decide +kernel
theorem dX5_init_70 : decode cX5_init 70 = .ok (.bipush 7, 2) := by decide +kernel
theorem dX5_init_72 : decode cX5_init 72 = .ok (.bipush 29, 2) := by decide +kernel
theorem dX5_init_74 : decode cX5_init 74 = .ok (.iastore, 1) := by decide +kernel
theorem dX5_init_75 : decode cX5_init 75 = .ok (.putfield 19, 3) := by decide +kernel
theorem dX5_init_78 : decode cX5_init 78 = .ok (.aload_n 0, 1) := by decide +kernel
theorem dX5_init_79 : decode cX5_init 79 = .ok (.bipush 29, 2) := by decide +kernel
theorem dX5_init_81 : decode cX5_init 81 = .ok (.newarray .int, 2) := by decide +kernel
theorem dX5_init_83 : decode cX5_init 83 = .ok (.dup, 1) := by decide +kernel
theorem dX5_init_84 : decode cX5_init 84 = .ok (.iconst 0, 1) := by decide +kernel
theorem dX5_init_85 : decode cX5_init 85 = .ok (.bipush 112, 2) := by decide +kernel
theorem dX5_init_87 : decode cX5_init 87 = .ok (.iastore, 1) := by decide +kernel
theorem dX5_init_88 : decode cX5_init 88 = .ok (.dup, 1) := by decide +kernel
theorem dX5_init_89 : decode cX5_init 89 = .ok (.iconst 1, 1) := by decide +kernel
theorem dX5_init_90 : decode cX5_init 90 = .ok (.bipush 108, 2) := by decide +kernel
theorem dX5_init_92 : decode cX5_init 92 = .ok (.iastore, 1) := by decide +kernel
theorem dX5_init_93 : decode cX5_init 93 = .ok (.dup, 1) := by decide +kernel
theorem dX5_init_94 : decode cX5_init 94 = .ok (.iconst 2, 1) := by decide +kernel
theorem dX5_init_95 : decode cX5_init 95 = .ok (.bipush 97, 2) := by decide +kernel
theorem dX5_init_97 : decode cX5_init 97 = .ok (.iastore, 1) := by decide +kernel
theorem dX5_init_98 : decode cX5_init 98 = .ok (.dup, 1) := by decide +kernel
theorem dX5_init_99 : decode cX5_init 99 = .ok (.iconst 3, 1) := by decide +kernel
theorem dX5_init_100 : decode cX5_init 100 = .ok (.bipush 105, 2) := by decide +kernel
theorem dX5_init_102 : decode cX5_init 102 = .ok (.iastore, 1) := by decide +kernel
theorem dX5_init_103 : decode cX5_init 103 = .ok (.dup, 1) := by decide +kernel
theorem dX5_init_104 : decode cX5_init 104 = .ok (.iconst 4, 1) := by decide +kernel
theorem dX5_init_105 : decode cX5_init 105 = .ok (.bipush 110, 2) := by decide +kernel
theorem dX5_init_107 : decode cX5_init 107 = .ok (.iastore, 1) := by decide +kernel
theorem dX5_init_108 : decode cX5_init 108 = .ok (.dup, 1) := by decide +kernel
theorem dX5_init_109 : decode cX5_init 109 = .ok (.iconst 5, 1) := by decide +kernel
theorem dX5_init_110 : decode cX5_init 110 = .ok (.bipush 114, 2) := by decide +kernel
theorem dX5_init_112 : decode cX5_init 112 = .ok (.iastore, 1) := by decide +kernel
theorem dX5_init_113 : decode cX5_init 113 = .ok (.dup, 1) := by decide +kernel
theorem dX5_init_114 : decode cX5_init 114 = .ok (.bipush 6, 2) := by decide +kernel
theorem dX5_init_116 : decode cX5_init 116 = .ok (.bipush 111, 2) := by decide +kernel
theorem dX5_init_118 : decode cX5_init 118 = .ok (.iastore, 1) := by decide +kernel
theorem dX5_init_119 : decode cX5_init 119 = .ok (.dup, 1) := by decide +kernel
theorem dX5_init_120 : decode cX5_init 120 = .ok (.bipush 7, 2) := by decide +kernel
theorem dX5_init_122 : decode cX5_init 122 = .ok (.bipush 112, 2) := by decide +kernel
theorem dX5_init_124 : decode cX5_init 124 = .ok (.iastore, 1) := by decide +kernel
theorem dX5_init_125 : decode cX5_init 125 = .ok (.dup, 1) := by decide +kernel
theorem dX5_init_126 : decode cX5_init 126 = .ok (.bipush 8, 2) := by decide +kernel
theorem dX5_init_128 : decode cX5_init 128 = .ok (.bipush 101, 2) := by decide +kernel
theorem dX5_init_130 : decode cX5_init 130 = .ok (.iastore, 1) := by decide +kernel
theorem dX5_init_131 : decode cX5_init 131 = .ok (.dup, 1) := by decide +kernel
theorem dX5_init_132 : decode cX5_init 132 = .ok (.bipush 9, 2) := by decide +kernel
theorem dX5_init_134 : decode cX5_init 134 = .ok (.bipush 98, 2) := by decide +kernel
theorem dX5_init_136 : decode cX5_init 136 = .ok (.iastore, 1) := by decide +kernel
theorem dX5_init_137 : decode cX5_init 137 = .ok (.dup, 1) := by decide +kernel
theorem dX5_init_138 : decode cX5_init 138 = .ok (.bipush 10, 2) := by decide +kernel
theorem dX5_init_140 : decode cX5_init 140 = .ok (.bipush 108, 2) := by decide +kernel
theorem dX5_init_142 : decode cX5_init 142 = .ok (.iastore, 1) := by decide +kernel
theorem dX5_init_143 : decode cX5_init 143 = .ok (.dup, 1) := by decide +kernel
theorem dX5_init_144 : decode cX5_init 144 = .ok (.bipush 11, 2) := by decide +kernel
theorem dX5_init_146 : decode cX5_init 146 = .ok (.bipush 111, 2) := by decide +kernel
theorem dX5_init_148 : decode cX5_init 148 = .ok (.iastore, 1) := by decide +kernel
theorem dX5_init_149 : decode cX5_init 149 = .ok (.dup, 1) := by decide +kernel
theorem dX5_init_150 : decode cX5_init 150 = .ok (.bipush 12, 2) := by decide +kernel
theorem dX5_init_152 : decode cX5_init 152 = .ok (.bipush 99, 2) := by decide +kernel
theorem dX5_init_154 : decode cX5_init 154 = .ok (.iastore, 1) := by decide +kernel
theorem dX5_init_155 : decode cX5_init 155 = .ok (.dup, 1) := by decide +kernel
theorem dX5_init_156 : decode cX5_init 156 = .ok (.bipush 13, 2) := by decide +kernel
theorem dX5_init_158 : decode cX5_init 158 = .ok (.bipush 107, 2) := by decide +kernel
theorem dX5_init_160 : decode cX5_init 160 = .ok (.iastore, 1) := by decide +kernel
theorem dX5_init_161 : decode cX5_init 161 = .ok (.dup, 1) := by decide +kernel
theorem dX5_init_162 : decode cX5_init 162 = .ok (.bipush 14, 2) := by decide +kernel
theorem dX5_init_164 : decode cX5_init 164 = .ok (.bipush 115, 2) := by decide +kernel
theorem dX5_init_166 : decode cX5_init 166 = .ok (.iastore, 1) := by decide +kernel
theorem dX5_init_167 : decode cX5_init 167 = .ok (.dup, 1) := by decide +kernel
theorem dX5_init_168 : decode cX5_init 168 = .ok (.bipush 15, 2) := by decide +kernel
theorem dX5_init_170 : decode cX5_init 170 = .ok (.bipush 108, 2) := by decide +kernel
theorem dX5_init_172 : decode cX5_init 172 = .ok (.iastore, 1) := by decide +kernel
theorem dX5_init_173 : decode cX5_init 173 = .ok (.dup, 1) := by decide +kernel
theorem dX5_init_174 : decode cX5_init 174 = .ok (.bipush 16, 2) := by decide +kernel
theorem dX5_init_176 : decode cX5_init 176 = .ok (.bipush 97, 2) := by decide +kernel
theorem dX5_init_178 : decode cX5_init 178 = .ok (.iastore, 1) := by decide +kernel
theorem dX5_init_179 : decode cX5_init 179 = .ok (.dup, 1) := by decide +kernel
theorem dX5_init_180 : decode cX5_init 180 = .ok (.bipush 17, 2) := by decide +kernel
theorem dX5_init_182 : decode cX5_init 182 = .ok (.bipush 99, 2) := by decide +kernel
theorem dX5_init_184 : decode cX5_init 184 = .ok (.iastore, 1) := by decide +kernel
theorem dX5_init_185 : decode cX5_init 185 = .ok (.dup, 1) := by decide +kernel
theorem dX5_init_186 : decode cX5_init 186 = .ok (.bipush 18, 2) := by decide +kernel
theorem dX5_init_188 : decode cX5_init 188 = .ok (.bipush 107, 2) := by decide +kernel
theorem dX5_init_190 : decode cX5_init 190 = .ok (.iastore, 1) := by decide +kernel
theorem dX5_init_191 : decode cX5_init 191 = .ok (.dup, 1) := by decide +kernel
theorem dX5_init_192 : decode cX5_init 192 = .ok (.bipush 19, 2) := by decide +kernel
theorem dX5_init_194 : decode cX5_init 194 = .ok (.bipush 100, 2) := by decide +kernel
theorem dX5_init_196 : decode cX5_init 196 = .ok (.iastore, 1) := by decide +kernel
theorem dX5_init_197 : decode cX5_init 197 = .ok (.dup, 1) := by decide +kernel
theorem dX5_init_198 : decode cX5_init 198 = .ok (.bipush 20, 2) := by decide +kernel
theorem dX5_init_200 : decode cX5_init 200 = .ok (.bipush 114, 2) := by decide +kernel
theorem dX5_init_202 : decode cX5_init 202 = .ok (.iastore, 1) := by decide +kernel
theorem dX5_init_203 : decode cX5_init 203 = .ok (.dup, 1) := by decide +kernel
theorem dX5_init_204 : decode cX5_init 204 = .ok (.bipush 21, 2) := by decide +kernel
theorem dX5_init_206 : decode cX5_init 206 = .ok (.bipush 97, 2) := by decide +kernel
theorem dX5_init_208 : decode cX5_init 208 = .ok (.iastore, 1) := by decide +kernel
theorem dX5_init_209 : decode cX5_init 209 = .ok (.dup, 1) := by decide +kernel
theorem dX5_init_210 : decode cX5_init 210 = .ok (.bipush 22, 2) := by decide +kernel
theorem dX5_init_212 : decode cX5_init 212 = .ok (.bipush 103, 2) := by decide +kernel
theorem dX5_init_214 : decode cX5_init 214 = .ok (.iastore, 1) := by decide +kernel
theorem dX5_init_215 : decode cX5_init 215 = .ok (.dup, 1) := by decide +kernel
theorem dX5_init_216 : decode cX5_init 216 = .ok (.bipush 23, 2) := by decide +kernel
theorem dX5_init_218 : decode cX5_init 218 = .ok (.bipush 111, 2) := by decide +kernel
theorem dX5_init_220 : decode cX5_init 220 = .ok (.iastore, 1) := by decide +kernel
theorem dX5_init_221 : decode cX5_init 221 = .ok (.dup, 1) := by decide +kernel
theorem dX5_init_222 : decode cX5_init 222 = .ok (.bipush 24, 2) := by decide +kernel
theorem dX5_init_224 : decode cX5_init 224 = .ok (.bipush 110, 2) := by decide +kernel
theorem dX5_init_226 : decode cX5_init 226 = .ok (.iastore, 1) := by decide +kernel
theorem dX5_init_227 : decode cX5_init 227 = .ok (.dup, 1) := by decide +kernel
theorem dX5_init_228 : decode cX5_init 228 = .ok (.bipush 25, 2) := by decide +kernel
theorem dX5_init_230 : decode cX5_init 230 = .ok (.bipush 98, 2) := by decide +kernel
theorem dX5_init_232 : decode cX5_init 232 = .ok (.iastore, 1) := by decide +kernel
theorem dX5_init_233 : decode cX5_init 233 = .ok (.dup, 1) := by decide +kernel
theorem dX5_init_234 : decode cX5_init 234 = .ok (.bipush 26, 2) := by decide +kernel
theorem dX5_init_236 : decode cX5_init 236 = .ok (.bipush 97, 2) := by decide +kernel
theorem dX5_init_238 : decode cX5_init 238 = .ok (.iastore, 1) := by decide +kernel
theorem dX5_init_239 : decode cX5_init 239 = .ok (.dup, 1) := by decide +kernel
theorem dX5_init_240 : decode cX5_init 240 = .ok (.bipush 27, 2) := by decide +kernel
theorem dX5_init_242 : decode cX5_init 242 = .ok (.bipush 99, 2) := by decide +kernel
theorem dX5_init_244 : decode cX5_init 244 = .ok (.iastore, 1) := by decide +kernel
theorem dX5_init_245 : decode cX5_init 245 = .ok (.dup, 1) := by decide +kernel
theorem dX5_init_246 : decode cX5_init 246 = .ok (.bipush 28, 2) := by decide +kernel
theorem dX5_init_248 : decode cX5_init 248 = .ok (.bipush 107, 2) := by decide +kernel
theorem dX5_init_250 : decode cX5_init 250 = .ok (.iastore, 1) := by decide +kernel
theorem dX5_init_251 : decode cX5_init 251 = .ok (.putfield 22, 3) := by decide +kernel
theorem dX5_init_254 : decode cX5_init 254 = .ok (.aload_n 0, 1) := by decide +kernel
theorem dX5_init_255 : decode cX5_init 255 = .ok (.iconst 4, 1) := by decide +kernel
theorem dX5_init_256 : decode cX5_init 256 = .ok (.newarray .int, 2) := by decide +kernel
theorem dX5_init_258 : decode cX5_init 258 = .ok (.putfield 25, 3) := by decide +kernel
theorem dX5_init_261 : decode cX5_init 261 = .ok (.aload_n 0, 1) := by decide +kernel
theorem dX5_init_262 : decode cX5_init 262 = .ok (.bipush (-4), 2) := by decide +kernel
theorem dX5_init_264 : decode cX5_init 264 = .ok (.putfield 28, 3) := by decide +kernel
theorem dX5_init_267 : decode cX5_init 267 = .ok (.aload_n 0, 1) := by decide +kernel
theorem dX5_init_268 : decode cX5_init 268 = .ok (.bipush 18, 2) := by decide +kernel
theorem dX5_init_270 : decode cX5_init 270 = .ok (.newarray .int, 2) := by decide +kernel
theorem dX5_init_272 : decode cX5_init 272 = .ok (.putfield 32, 3) := by decide +kernel
theorem dX5_init_275 : decode cX5_init 275 = .ok (.aload_n 0, 1) := by decide +kernel
theorem dX5_init_276 : decode cX5_init 276 = .ok (.sipush 410, 3) := by decide +kernel
theorem dX5_init_279 : decode cX5_init 279 = .ok (.newarray .int, 2) := by decide +kernel
theorem dX5_init_281 : decode cX5_init 281 = .ok (.putfield 35, 3) := by decide +kernel
theorem dX5_init_284 : decode cX5_init 284 = .ok (.aload_n 0, 1) := by decide +kernel
theorem dX5_init_285 : decode cX5_init 285 = .ok (.iconst 2, 1) := by decide +kernel
theorem dX5_init_286 : decode cX5_init 286 = .ok (.newarray .boolean, 2) := by decide +kernel
theorem dX5_init_288 : decode cX5_init 288 = .ok (.putfield 38, 3) := by decide +kernel
theorem dX5_init_291 : decode cX5_init 291 = .ok (.aload_n 0, 1) := by decide +kernel
theorem dX5_init_292 : decode cX5_init 292 = .ok (.iconst 4, 1) := by decide +kernel
theorem dX5_init_293 : decode cX5_init 293 = .ok (.newarray .int, 2) := by decide +kernel
theorem dX5_init_295 : decode cX5_init 295 = .ok (.dup, 1) := by decide +kernel
theorem dX5_init_296 : decode cX5_init 296 = .ok (.iconst 0, 1) := by decide +kernel
theorem dX5_init_297 : decode cX5_init 297 = .ok (.bipush (-4), 2) := by decide +kernel
theorem dX5_init_299 : decode cX5_init 299 = .ok (.iastore, 1) := by decide +kernel
theorem dX5_init_300 : decode cX5_init 300 = .ok (.dup, 1) := by decide +kernel
theorem dX5_init_301 : decode cX5_init 301 = .ok (.iconst 1, 1) := by decide +kernel
theorem dX5_init_302 : decode cX5_init 302 = .ok (.bipush (-4), 2) := by decide +kernel
theorem dX5_init_304 : decode cX5_init 304 = .ok (.iastore, 1) := by decide +kernel
theorem dX5_init_305 : decode cX5_init 305 = .ok (.dup, 1) := by decide +kernel
theorem dX5_init_306 : decode cX5_init 306 = .ok (.iconst 2, 1) := by decide +kernel
theorem dX5_init_307 : decode cX5_init 307 = .ok (.bipush (-4), 2) := by decide +kernel
theorem dX5_init_309 : decode cX5_init 309 = .ok (.iastore, 1) := by decide +kernel
theorem dX5_init_310 : decode cX5_init 310 = .ok (.dup, 1) := by decide +kernel
theorem dX5_init_311 : decode cX5_init 311 = .ok (.iconst 3, 1) := by decide +kernel
theorem dX5_init_312 : decode cX5_init 312 = .ok (.bipush (-4), 2) := by decide +kernel
theorem dX5_init_314 : decode cX5_init 314 = .ok (.iastore, 1) := by decide +kernel
theorem dX5_init_315 : decode cX5_init 315 = .ok (.putfield 42, 3) := by decide +kernel
theorem dX5_init_318 : decode cX5_init 318 = .ok (.aload_n 0, 1) := by decide +kernel
theorem dX5_init_319 : decode cX5_init 319 = .ok (.iconst 4, 1) := by decide +kernel
theorem dX5_init_320 : decode cX5_init 320 = .ok (.newarray .int, 2) := by decide +kernel
theorem dX5_init_322 : decode cX5_init 322 = .ok (.putfield 45, 3) := by decide +kernel
theorem dX5_init_325 : decode cX5_init 325 = .ok (.aload_n 0, 1) := by decide +kernel
theorem dX5_init_326 : decode cX5_init 326 = .ok (.sipush 160, 3) := by decide +kernel
theorem dX5_init_329 : decode cX5_init 329 = .ok (.newarray .int, 2) := by decide +kernel
theorem dX5_init_331 : decode cX5_init 331 = .ok (.putfield 48, 3) := by decide +kernel
theorem dX5_init_334 : decode cX5_init 334 = .ok (.return_, 1) := by decide +kernel
theorem dX5_in_0 : decode cX5_in 0 = .ok (.lload_n 0, 1) := by decide +kernel
theorem dX5_in_1 : decode cX5_in 1 = .ok (.lload_n 2, 1) := by decide +kernel
theorem dX5_in_2 : decode cX5_in 2 = .ok (.lcmp, 1) := by decide +kernel
theorem dX5_in_3 : decode cX5_in 3 = .ok (.ifCond .lt 14, 3) := by decide +kernel
theorem dX5_in_6 : decode cX5_in 6 = .ok (.lload_n 0, 1) := by decide +kernel
theorem dX5_in_7 : decode cX5_in 7 = .ok (.lload 4, 2) := by decide +kernel
theorem dX5_in_9 : decode cX5_in 9 = .ok (.lcmp, 1) := by decide +kernel
theorem dX5_in_10 : decode cX5_in 10 = .ok (.ifCond .gt 7, 3) := by decide +kernel
theorem dX5_in_13 : decode cX5_in 13 = .ok (.iconst 1, 1) := by decide +kernel
theorem dX5_in_14 : decode cX5_in 14 = .ok (.goto 4, 3) := by decide +kernel
theorem dX5_in_17 : decode cX5_in 17 = .ok (.iconst 0, 1) := by decide +kernel
theorem dX5_in_18 : decode cX5_in 18 = .ok (.ireturn, 1) := by decide +kernel
theorem dX5_amount_0 : decode cX5_amount 0 = .ok (.iload_n 0, 1) := by decide +kernel
theorem dX5_amount_1 : decode cX5_amount 1 = .ok (.ifCond .ge 8, 3) := by decide +kernel
theorem dX5_amount_4 : decode cX5_amount 4 = .ok (.iload_n 0, 1) := by decide +kernel
theorem dX5_amount_5 : decode cX5_amount 5 = .ok (.ineg, 1) := by decide +kernel
theorem dX5_amount_6 : decode cX5_amount 6 = .ok (.goto 4, 3) := by decide +kernel
theorem dX5_amount_9 : decode cX5_amount 9 = .ok (.iload_n 0, 1) := by decide +kernel
theorem dX5_amount_10 : decode cX5_amount 10 = .ok (.ireturn, 1) := by decide +kernel
theorem dX5_feed_0 : decode cX5_feed 0 = .ok (.iload_n 1, 1) := by decide +kernel
theorem dX5_feed_1 : decode cX5_feed 1 = .ok (.i2l, 1) := by decide +kernel
theorem dX5_feed_2 : decode cX5_feed 2 = .ok (.lconst 0, 1) := by decide +kernel
theorem dX5_feed_3 : decode cX5_feed 3 = .ok (.ldc2_w 51, 3) := by decide +kernel
theorem dX5_feed_6 : decode cX5_feed 6 = .ok (.invokestatic 53, 3) := by decide +kernel
theorem dX5_feed_9 : decode cX5_feed 9 = .ok (.ifCond .ne 5, 3) := by decide +kernel
theorem dX5_feed_12 : decode cX5_feed 12 = .ok (.iconst (-1), 1) := by decide +kernel
theorem dX5_feed_13 : decode cX5_feed 13 = .ok (.ireturn, 1) := by decide +kernel
theorem dX5_feed_14 : decode cX5_feed 14 = .ok (.aload_n 0, 1) := by decide +kernel
theorem dX5_feed_15 : decode cX5_feed 15 = .ok (.getfield 57, 3) := by decide +kernel
theorem dX5_feed_18 : decode cX5_feed 18 = .ok (.sipush 160, 3) := by decide +kernel
theorem dX5_feed_21 : decode cX5_feed 21 = .ok (.if_icmp .ne 6, 3) := by decide +kernel
theorem dX5_feed_24 : decode cX5_feed 24 = .ok (.bipush (-3), 2) := by decide +kernel
theorem dX5_feed_26 : decode cX5_feed 26 = .ok (.ireturn, 1) := by decide +kernel
theorem dX5_feed_27 : decode cX5_feed 27 = .ok (.aload_n 0, 1) := by decide +kernel
theorem dX5_feed_28 : decode cX5_feed 28 = .ok (.getfield 16, 3) := by decide +kernel
theorem dX5_feed_31 : decode cX5_feed 31 = .ok (.aload_n 0, 1) := by decide +kernel
theorem dX5_feed_32 : decode cX5_feed 32 = .ok (.getfield 57, 3) := by decide +kernel
theorem dX5_feed_35 : decode cX5_feed 35 = .ok (.iload_n 1, 1) := by decide +kernel
theorem dX5_feed_36 : decode cX5_feed 36 = .ok (.iastore, 1) := by decide +kernel
theorem dX5_feed_37 : decode cX5_feed 37 = .ok (.aload_n 0, 1) := by decide +kernel
theorem dX5_feed_38 : decode cX5_feed 38 = .ok (.dup, 1) := by decide +kernel
theorem dX5_feed_39 : decode cX5_feed 39 = .ok (.getfield 57, 3) := by decide +kernel
theorem dX5_feed_42 : decode cX5_feed 42 = .ok (.iconst 1, 1) := by decide +kernel
theorem dX5_feed_43 : decode cX5_feed 43 = .ok (.iadd, 1) := by decide +kernel
theorem dX5_feed_44 : decode cX5_feed 44 = .ok (.putfield 57, 3) := by decide +kernel
theorem dX5_feed_47 : decode cX5_feed 47 = .ok (.aload_n 0, 1) := by decide +kernel
theorem dX5_feed_48 : decode cX5_feed 48 = .ok (.getfield 57, 3) := by decide +kernel
theorem dX5_feed_51 : decode cX5_feed 51 = .ok (.ireturn, 1) := by decide +kernel
theorem dX5_end_0 : decode cX5_end 0 = .ok (.iload_n 1, 1) := by decide +kernel
theorem dX5_end_1 : decode cX5_end 1 = .ok (.i2l, 1) := by decide +kernel
theorem dX5_end_2 : decode cX5_end 2 = .ok (.lconst 0, 1) := by decide +kernel
theorem dX5_end_3 : decode cX5_end 3 = .ok (.aload_n 0, 1) := by decide +kernel
theorem dX5_end_4 : decode cX5_end 4 = .ok (.getfield 57, 3) := by decide +kernel
theorem dX5_end_7 : decode cX5_end 7 = .ok (.i2l, 1) := by decide +kernel
theorem dX5_end_8 : decode cX5_end 8 = .ok (.invokestatic 53, 3) := by decide +kernel
theorem dX5_end_11 : decode cX5_end 11 = .ok (.ifCond .ne 5, 3) := by decide +kernel
theorem dX5_end_14 : decode cX5_end 14 = .ok (.iconst (-1), 1) := by decide +kernel
theorem dX5_end_15 : decode cX5_end 15 = .ok (.ireturn, 1) := by decide +kernel
theorem dX5_end_16 : decode cX5_end 16 = .ok (.aload_n 0, 1) := by decide +kernel
theorem dX5_end_17 : decode cX5_end 17 = .ok (.getfield 57, 3) := by decide +kernel
theorem dX5_end_20 : decode cX5_end 20 = .ok (.istore_n 2, 1) := by decide +kernel
theorem dX5_end_21 : decode cX5_end 21 = .ok (.aload_n 0, 1) := by decide +kernel
theorem dX5_end_22 : decode cX5_end 22 = .ok (.iload_n 1, 1) := by decide +kernel
theorem dX5_end_23 : decode cX5_end 23 = .ok (.putfield 57, 3) := by decide +kernel
theorem dX5_end_26 : decode cX5_end 26 = .ok (.iload_n 2, 1) := by decide +kernel
theorem dX5_end_27 : decode cX5_end 27 = .ok (.ireturn, 1) := by decide +kernel
theorem dX5_byteAt_0 : decode cX5_byteAt 0 = .ok (.iload_n 1, 1) := by decide +kernel
theorem dX5_byteAt_1 : decode cX5_byteAt 1 = .ok (.aload_n 0, 1) := by decide +kernel
theorem dX5_byteAt_2 : decode cX5_byteAt 2 = .ok (.getfield 57, 3) := by decide +kernel
theorem dX5_byteAt_5 : decode cX5_byteAt 5 = .ok (.if_icmp .ge 12, 3) := by decide +kernel
theorem dX5_byteAt_8 : decode cX5_byteAt 8 = .ok (.aload_n 0, 1) := by decide +kernel
theorem dX5_byteAt_9 : decode cX5_byteAt 9 = .ok (.getfield 16, 3) := by decide +kernel
theorem dX5_byteAt_12 : decode cX5_byteAt 12 = .ok (.iload_n 1, 1) := by decide +kernel
theorem dX5_byteAt_13 : decode cX5_byteAt 13 = .ok (.iaload, 1) := by decide +kernel
theorem dX5_byteAt_14 : decode cX5_byteAt 14 = .ok (.goto 5, 3) := by decide +kernel
theorem dX5_byteAt_17 : decode cX5_byteAt 17 = .ok (.bipush (-4), 2) := by decide +kernel
theorem dX5_byteAt_19 : decode cX5_byteAt 19 = .ok (.ireturn, 1) := by decide +kernel
theorem dX5_fails_0 : decode cX5_fails 0 = .ok (.aload_n 0, 1) := by decide +kernel
theorem dX5_fails_1 : decode cX5_fails 1 = .ok (.getfield 60, 3) := by decide +kernel
theorem dX5_fails_4 : decode cX5_fails 4 = .ok (.ifCond .ne 16, 3) := by decide +kernel
theorem dX5_fails_7 : decode cX5_fails 7 = .ok (.aload_n 0, 1) := by decide +kernel
theorem dX5_fails_8 : decode cX5_fails 8 = .ok (.iload_n 1, 1) := by decide +kernel
theorem dX5_fails_9 : decode cX5_fails 9 = .ok (.putfield 60, 3) := by decide +kernel
theorem dX5_fails_12 : decode cX5_fails 12 = .ok (.aload_n 0, 1) := by decide +kernel
theorem dX5_fails_13 : decode cX5_fails 13 = .ok (.aload_n 0, 1) := by decide +kernel
theorem dX5_fails_14 : decode cX5_fails 14 = .ok (.getfield 63, 3) := by decide +kernel
theorem dX5_fails_17 : decode cX5_fails 17 = .ok (.putfield 66, 3) := by decide +kernel
theorem dX5_fails_20 : decode cX5_fails 20 = .ok (.return_, 1) := by decide +kernel
theorem dX5_nameHere_0 : decode cX5_nameHere 0 = .ok (.iconst 0, 1) := by decide +kernel
theorem dX5_nameHere_1 : decode cX5_nameHere 1 = .ok (.istore_n 1, 1) := by decide +kernel
theorem dX5_nameHere_2 : decode cX5_nameHere 2 = .ok (.iload_n 1, 1) := by decide +kernel
theorem dX5_nameHere_3 : decode cX5_nameHere 3 = .ok (.bipush 7, 2) := by decide +kernel
theorem dX5_nameHere_5 : decode cX5_nameHere 5 = .ok (.if_icmp .ge 113, 3) := by decide +kernel
theorem dX5_nameHere_8 : decode cX5_nameHere 8 = .ok (.aload_n 0, 1) := by decide +kernel
theorem dX5_nameHere_9 : decode cX5_nameHere 9 = .ok (.getfield 69, 3) := by decide +kernel
theorem dX5_nameHere_12 : decode cX5_nameHere 12 = .ok (.iconst 1, 1) := by decide +kernel
theorem dX5_nameHere_13 : decode cX5_nameHere 13 = .ok (.if_icmp .ne 105, 3) := by decide +kernel
theorem dX5_nameHere_16 : decode cX5_nameHere 16 = .ok (.aload_n 0, 1) := by decide +kernel
theorem dX5_nameHere_17 : decode cX5_nameHere 17 = .ok (.getfield 72, 3) := by decide +kernel
theorem dX5_nameHere_20 : decode cX5_nameHere 20 = .ok (.aload_n 0, 1) := by decide +kernel
theorem dX5_nameHere_21 : decode cX5_nameHere 21 = .ok (.getfield 63, 3) := by decide +kernel
theorem dX5_nameHere_24 : decode cX5_nameHere 24 = .ok (.isub, 1) := by decide +kernel
theorem dX5_nameHere_25 : decode cX5_nameHere 25 = .ok (.aload_n 0, 1) := by decide +kernel
theorem dX5_nameHere_26 : decode cX5_nameHere 26 = .ok (.getfield 19, 3) := by decide +kernel
theorem dX5_nameHere_29 : decode cX5_nameHere 29 = .ok (.iload_n 1, 1) := by decide +kernel
theorem dX5_nameHere_30 : decode cX5_nameHere 30 = .ok (.iconst 1, 1) := by decide +kernel
theorem dX5_nameHere_31 : decode cX5_nameHere 31 = .ok (.iadd, 1) := by decide +kernel
theorem dX5_nameHere_32 : decode cX5_nameHere 32 = .ok (.iaload, 1) := by decide +kernel
theorem dX5_nameHere_33 : decode cX5_nameHere 33 = .ok (.aload_n 0, 1) := by decide +kernel
theorem dX5_nameHere_34 : decode cX5_nameHere 34 = .ok (.getfield 19, 3) := by decide +kernel
theorem dX5_nameHere_37 : decode cX5_nameHere 37 = .ok (.iload_n 1, 1) := by decide +kernel
theorem dX5_nameHere_38 : decode cX5_nameHere 38 = .ok (.iaload, 1) := by decide +kernel
theorem dX5_nameHere_39 : decode cX5_nameHere 39 = .ok (.isub, 1) := by decide +kernel
theorem dX5_nameHere_40 : decode cX5_nameHere 40 = .ok (.if_icmp .ne 7, 3) := by decide +kernel
theorem dX5_nameHere_43 : decode cX5_nameHere 43 = .ok (.iconst 1, 1) := by decide +kernel
theorem dX5_nameHere_44 : decode cX5_nameHere 44 = .ok (.goto 4, 3) := by decide +kernel
theorem dX5_nameHere_47 : decode cX5_nameHere 47 = .ok (.iconst 0, 1) := by decide +kernel
theorem dX5_nameHere_48 : decode cX5_nameHere 48 = .ok (.istore_n 2, 1) := by decide +kernel
theorem dX5_nameHere_49 : decode cX5_nameHere 49 = .ok (.iconst 0, 1) := by decide +kernel
theorem dX5_nameHere_50 : decode cX5_nameHere 50 = .ok (.istore_n 3, 1) := by decide +kernel
theorem dX5_nameHere_51 : decode cX5_nameHere 51 = .ok (.iload_n 2, 1) := by decide +kernel
theorem dX5_nameHere_52 : decode cX5_nameHere 52 = .ok (.ifCond .eq 54, 3) := by decide +kernel
theorem dX5_nameHere_55 : decode cX5_nameHere 55 = .ok (.iload_n 3, 1) := by decide +kernel
theorem dX5_nameHere_56 : decode cX5_nameHere 56 = .ok (.aload_n 0, 1) := by decide +kernel
theorem dX5_nameHere_57 : decode cX5_nameHere 57 = .ok (.getfield 72, 3) := by decide +kernel
theorem dX5_nameHere_60 : decode cX5_nameHere 60 = .ok (.aload_n 0, 1) := by decide +kernel
theorem dX5_nameHere_61 : decode cX5_nameHere 61 = .ok (.getfield 63, 3) := by decide +kernel
theorem dX5_nameHere_64 : decode cX5_nameHere 64 = .ok (.isub, 1) := by decide +kernel
theorem dX5_nameHere_65 : decode cX5_nameHere 65 = .ok (.if_icmp .ge 41, 3) := by decide +kernel
theorem dX5_nameHere_68 : decode cX5_nameHere 68 = .ok (.aload_n 0, 1) := by decide +kernel
theorem dX5_nameHere_69 : decode cX5_nameHere 69 = .ok (.aload_n 0, 1) := by decide +kernel
theorem dX5_nameHere_70 : decode cX5_nameHere 70 = .ok (.getfield 63, 3) := by decide +kernel
theorem dX5_nameHere_73 : decode cX5_nameHere 73 = .ok (.iload_n 3, 1) := by decide +kernel
theorem dX5_nameHere_74 : decode cX5_nameHere 74 = .ok (.iadd, 1) := by decide +kernel
theorem dX5_nameHere_75 : decode cX5_nameHere 75 = .ok (.invokevirtual 75, 3) := by decide +kernel
theorem dX5_nameHere_78 : decode cX5_nameHere 78 = .ok (.aload_n 0, 1) := by decide +kernel
theorem dX5_nameHere_79 : decode cX5_nameHere 79 = .ok (.getfield 22, 3) := by decide +kernel
theorem dX5_nameHere_82 : decode cX5_nameHere 82 = .ok (.aload_n 0, 1) := by decide +kernel
theorem dX5_nameHere_83 : decode cX5_nameHere 83 = .ok (.getfield 19, 3) := by decide +kernel
theorem dX5_nameHere_86 : decode cX5_nameHere 86 = .ok (.iload_n 1, 1) := by decide +kernel
theorem dX5_nameHere_87 : decode cX5_nameHere 87 = .ok (.iaload, 1) := by decide +kernel
theorem dX5_nameHere_88 : decode cX5_nameHere 88 = .ok (.iload_n 3, 1) := by decide +kernel
theorem dX5_nameHere_89 : decode cX5_nameHere 89 = .ok (.iadd, 1) := by decide +kernel
theorem dX5_nameHere_90 : decode cX5_nameHere 90 = .ok (.iaload, 1) := by decide +kernel
theorem dX5_nameHere_91 : decode cX5_nameHere 91 = .ok (.if_icmp .ne 7, 3) := by decide +kernel
theorem dX5_nameHere_94 : decode cX5_nameHere 94 = .ok (.iconst 1, 1) := by decide +kernel
theorem dX5_nameHere_95 : decode cX5_nameHere 95 = .ok (.goto 4, 3) := by decide +kernel
theorem dX5_nameHere_98 : decode cX5_nameHere 98 = .ok (.iconst 0, 1) := by decide +kernel
theorem dX5_nameHere_99 : decode cX5_nameHere 99 = .ok (.istore_n 2, 1) := by decide +kernel
theorem dX5_nameHere_100 : decode cX5_nameHere 100 = .ok (.iinc 3 1, 3) := by decide +kernel
theorem dX5_nameHere_103 : decode cX5_nameHere 103 = .ok (.goto (-52), 3) := by decide +kernel
theorem dX5_nameHere_106 : decode cX5_nameHere 106 = .ok (.iload_n 2, 1) := by decide +kernel
theorem dX5_nameHere_107 : decode cX5_nameHere 107 = .ok (.ifCond .eq 5, 3) := by decide +kernel
theorem dX5_nameHere_110 : decode cX5_nameHere 110 = .ok (.iload_n 1, 1) := by decide +kernel
theorem dX5_nameHere_111 : decode cX5_nameHere 111 = .ok (.ireturn, 1) := by decide +kernel
theorem dX5_nameHere_112 : decode cX5_nameHere 112 = .ok (.iinc 1 1, 3) := by decide +kernel
theorem dX5_nameHere_115 : decode cX5_nameHere 115 = .ok (.goto (-113), 3) := by decide +kernel
theorem dX5_nameHere_118 : decode cX5_nameHere 118 = .ok (.bipush (-4), 2) := by decide +kernel
theorem dX5_nameHere_120 : decode cX5_nameHere 120 = .ok (.ireturn, 1) := by decide +kernel
theorem dX5_readsOn_0 : decode cX5_readsOn 0 = .ok (.aload_n 0, 1) := by decide +kernel
theorem dX5_readsOn_1 : decode cX5_readsOn 1 = .ok (.getfield 60, 3) := by decide +kernel
theorem dX5_readsOn_4 : decode cX5_readsOn 4 = .ok (.ifCond .le 4, 3) := by decide +kernel
theorem dX5_readsOn_7 : decode cX5_readsOn 7 = .ok (.return_, 1) := by decide +kernel
theorem dX5_readsOn_8 : decode cX5_readsOn 8 = .ok (.aload_n 0, 1) := by decide +kernel
theorem dX5_readsOn_9 : decode cX5_readsOn 9 = .ok (.aload_n 0, 1) := by decide +kernel
theorem dX5_readsOn_10 : decode cX5_readsOn 10 = .ok (.getfield 72, 3) := by decide +kernel
theorem dX5_readsOn_13 : decode cX5_readsOn 13 = .ok (.invokevirtual 75, 3) := by decide +kernel
theorem dX5_readsOn_16 : decode cX5_readsOn 16 = .ok (.bipush 32, 2) := by decide +kernel
theorem dX5_readsOn_18 : decode cX5_readsOn 18 = .ok (.if_icmp .ne 16, 3) := by decide +kernel
theorem dX5_readsOn_21 : decode cX5_readsOn 21 = .ok (.aload_n 0, 1) := by decide +kernel
theorem dX5_readsOn_22 : decode cX5_readsOn 22 = .ok (.dup, 1) := by decide +kernel
theorem dX5_readsOn_23 : decode cX5_readsOn 23 = .ok (.getfield 72, 3) := by decide +kernel
theorem dX5_readsOn_26 : decode cX5_readsOn 26 = .ok (.iconst 1, 1) := by decide +kernel
theorem dX5_readsOn_27 : decode cX5_readsOn 27 = .ok (.iadd, 1) := by decide +kernel
theorem dX5_readsOn_28 : decode cX5_readsOn 28 = .ok (.putfield 72, 3) := by decide +kernel
theorem dX5_readsOn_31 : decode cX5_readsOn 31 = .ok (.goto (-23), 3) := by decide +kernel
theorem dX5_readsOn_34 : decode cX5_readsOn 34 = .ok (.aload_n 0, 1) := by decide +kernel
theorem dX5_readsOn_35 : decode cX5_readsOn 35 = .ok (.aload_n 0, 1) := by decide +kernel
theorem dX5_readsOn_36 : decode cX5_readsOn 36 = .ok (.getfield 72, 3) := by decide +kernel
theorem dX5_readsOn_39 : decode cX5_readsOn 39 = .ok (.putfield 63, 3) := by decide +kernel
theorem dX5_readsOn_42 : decode cX5_readsOn 42 = .ok (.aload_n 0, 1) := by decide +kernel
theorem dX5_readsOn_43 : decode cX5_readsOn 43 = .ok (.aload_n 0, 1) := by decide +kernel
theorem dX5_readsOn_44 : decode cX5_readsOn 44 = .ok (.getfield 72, 3) := by decide +kernel
theorem dX5_readsOn_47 : decode cX5_readsOn 47 = .ok (.invokevirtual 75, 3) := by decide +kernel
theorem dX5_readsOn_50 : decode cX5_readsOn 50 = .ok (.istore_n 1, 1) := by decide +kernel
theorem dX5_readsOn_51 : decode cX5_readsOn 51 = .ok (.aload_n 0, 1) := by decide +kernel
theorem dX5_readsOn_52 : decode cX5_readsOn 52 = .ok (.iconst 0, 1) := by decide +kernel
theorem dX5_readsOn_53 : decode cX5_readsOn 53 = .ok (.putfield 79, 3) := by decide +kernel
theorem dX5_readsOn_56 : decode cX5_readsOn 56 = .ok (.iload_n 1, 1) := by decide +kernel
theorem dX5_readsOn_57 : decode cX5_readsOn 57 = .ok (.bipush (-4), 2) := by decide +kernel
theorem dX5_readsOn_59 : decode cX5_readsOn 59 = .ok (.if_icmp .ne 11, 3) := by decide +kernel
theorem dX5_readsOn_62 : decode cX5_readsOn 62 = .ok (.aload_n 0, 1) := by decide +kernel
theorem dX5_readsOn_63 : decode cX5_readsOn 63 = .ok (.iconst 0, 1) := by decide +kernel
theorem dX5_readsOn_64 : decode cX5_readsOn 64 = .ok (.putfield 69, 3) := by decide +kernel
theorem dX5_readsOn_67 : decode cX5_readsOn 67 = .ok (.goto 202, 3) := by decide +kernel
theorem dX5_readsOn_70 : decode cX5_readsOn 70 = .ok (.iload_n 1, 1) := by decide +kernel
theorem dX5_readsOn_71 : decode cX5_readsOn 71 = .ok (.i2l, 1) := by decide +kernel
theorem dX5_readsOn_72 : decode cX5_readsOn 72 = .ok (.ldc2_w 82, 3) := by decide +kernel
theorem dX5_readsOn_75 : decode cX5_readsOn 75 = .ok (.ldc2_w 84, 3) := by decide +kernel
theorem dX5_readsOn_78 : decode cX5_readsOn 78 = .ok (.invokestatic 53, 3) := by decide +kernel
theorem dX5_readsOn_81 : decode cX5_readsOn 81 = .ok (.ifCond .eq 45, 3) := by decide +kernel
theorem dX5_readsOn_84 : decode cX5_readsOn 84 = .ok (.aload_n 0, 1) := by decide +kernel
theorem dX5_readsOn_85 : decode cX5_readsOn 85 = .ok (.aload_n 0, 1) := by decide +kernel
theorem dX5_readsOn_86 : decode cX5_readsOn 86 = .ok (.getfield 72, 3) := by decide +kernel
theorem dX5_readsOn_89 : decode cX5_readsOn 89 = .ok (.invokevirtual 75, 3) := by decide +kernel
theorem dX5_readsOn_92 : decode cX5_readsOn 92 = .ok (.i2l, 1) := by decide +kernel
theorem dX5_readsOn_93 : decode cX5_readsOn 93 = .ok (.ldc2_w 82, 3) := by decide +kernel
theorem dX5_readsOn_96 : decode cX5_readsOn 96 = .ok (.ldc2_w 84, 3) := by decide +kernel
theorem dX5_readsOn_99 : decode cX5_readsOn 99 = .ok (.invokestatic 53, 3) := by decide +kernel
theorem dX5_readsOn_102 : decode cX5_readsOn 102 = .ok (.ifCond .eq 16, 3) := by decide +kernel
theorem dX5_readsOn_105 : decode cX5_readsOn 105 = .ok (.aload_n 0, 1) := by decide +kernel
theorem dX5_readsOn_106 : decode cX5_readsOn 106 = .ok (.dup, 1) := by decide +kernel
theorem dX5_readsOn_107 : decode cX5_readsOn 107 = .ok (.getfield 72, 3) := by decide +kernel
theorem dX5_readsOn_110 : decode cX5_readsOn 110 = .ok (.iconst 1, 1) := by decide +kernel
theorem dX5_readsOn_111 : decode cX5_readsOn 111 = .ok (.iadd, 1) := by decide +kernel
theorem dX5_readsOn_112 : decode cX5_readsOn 112 = .ok (.putfield 72, 3) := by decide +kernel
theorem dX5_readsOn_115 : decode cX5_readsOn 115 = .ok (.goto (-31), 3) := by decide +kernel
theorem dX5_readsOn_118 : decode cX5_readsOn 118 = .ok (.aload_n 0, 1) := by decide +kernel
theorem dX5_readsOn_119 : decode cX5_readsOn 119 = .ok (.iconst 1, 1) := by decide +kernel
theorem dX5_readsOn_120 : decode cX5_readsOn 120 = .ok (.putfield 69, 3) := by decide +kernel
theorem dX5_readsOn_123 : decode cX5_readsOn 123 = .ok (.goto 146, 3) := by decide +kernel
theorem dX5_readsOn_126 : decode cX5_readsOn 126 = .ok (.iload_n 1, 1) := by decide +kernel
theorem dX5_readsOn_127 : decode cX5_readsOn 127 = .ok (.i2l, 1) := by decide +kernel
theorem dX5_readsOn_128 : decode cX5_readsOn 128 = .ok (.ldc2_w 86, 3) := by decide +kernel
theorem dX5_readsOn_131 : decode cX5_readsOn 131 = .ok (.ldc2_w 88, 3) := by decide +kernel
theorem dX5_readsOn_134 : decode cX5_readsOn 134 = .ok (.invokestatic 53, 3) := by decide +kernel
theorem dX5_readsOn_137 : decode cX5_readsOn 137 = .ok (.ifCond .eq 106, 3) := by decide +kernel
theorem dX5_readsOn_140 : decode cX5_readsOn 140 = .ok (.aload_n 0, 1) := by decide +kernel
theorem dX5_readsOn_141 : decode cX5_readsOn 141 = .ok (.aload_n 0, 1) := by decide +kernel
theorem dX5_readsOn_142 : decode cX5_readsOn 142 = .ok (.getfield 72, 3) := by decide +kernel
theorem dX5_readsOn_145 : decode cX5_readsOn 145 = .ok (.invokevirtual 75, 3) := by decide +kernel
theorem dX5_readsOn_148 : decode cX5_readsOn 148 = .ok (.i2l, 1) := by decide +kernel
theorem dX5_readsOn_149 : decode cX5_readsOn 149 = .ok (.ldc2_w 86, 3) := by decide +kernel
theorem dX5_readsOn_152 : decode cX5_readsOn 152 = .ok (.ldc2_w 88, 3) := by decide +kernel
theorem dX5_readsOn_155 : decode cX5_readsOn 155 = .ok (.invokestatic 53, 3) := by decide +kernel
theorem dX5_readsOn_158 : decode cX5_readsOn 158 = .ok (.ifCond .eq 59, 3) := by decide +kernel
theorem dX5_readsOn_161 : decode cX5_readsOn 161 = .ok (.aload_n 0, 1) := by decide +kernel
theorem dX5_readsOn_162 : decode cX5_readsOn 162 = .ok (.aload_n 0, 1) := by decide +kernel
theorem dX5_readsOn_163 : decode cX5_readsOn 163 = .ok (.getfield 72, 3) := by decide +kernel
theorem dX5_readsOn_166 : decode cX5_readsOn 166 = .ok (.aload_n 0, 1) := by decide +kernel
theorem dX5_readsOn_167 : decode cX5_readsOn 167 = .ok (.getfield 63, 3) := by decide +kernel
theorem dX5_readsOn_170 : decode cX5_readsOn 170 = .ok (.isub, 1) := by decide +kernel
theorem dX5_readsOn_171 : decode cX5_readsOn 171 = .ok (.iconst 2, 1) := by decide +kernel
theorem dX5_readsOn_172 : decode cX5_readsOn 172 = .ok (.if_icmp .ge 25, 3) := by decide +kernel
theorem dX5_readsOn_175 : decode cX5_readsOn 175 = .ok (.bipush 10, 2) := by decide +kernel
theorem dX5_readsOn_177 : decode cX5_readsOn 177 = .ok (.aload_n 0, 1) := by decide +kernel
theorem dX5_readsOn_178 : decode cX5_readsOn 178 = .ok (.getfield 79, 3) := by decide +kernel
theorem dX5_readsOn_181 : decode cX5_readsOn 181 = .ok (.imul, 1) := by decide +kernel
theorem dX5_readsOn_182 : decode cX5_readsOn 182 = .ok (.aload_n 0, 1) := by decide +kernel
theorem dX5_readsOn_183 : decode cX5_readsOn 183 = .ok (.aload_n 0, 1) := by decide +kernel
theorem dX5_readsOn_184 : decode cX5_readsOn 184 = .ok (.getfield 72, 3) := by decide +kernel
theorem dX5_readsOn_187 : decode cX5_readsOn 187 = .ok (.invokevirtual 75, 3) := by decide +kernel
theorem dX5_readsOn_190 : decode cX5_readsOn 190 = .ok (.iadd, 1) := by decide +kernel
theorem dX5_readsOn_191 : decode cX5_readsOn 191 = .ok (.bipush 48, 2) := by decide +kernel
theorem dX5_readsOn_193 : decode cX5_readsOn 193 = .ok (.isub, 1) := by decide +kernel
theorem dX5_readsOn_194 : decode cX5_readsOn 194 = .ok (.goto 7, 3) := by decide +kernel
theorem dX5_readsOn_197 : decode cX5_readsOn 197 = .ok (.aload_n 0, 1) := by decide +kernel
theorem dX5_readsOn_198 : decode cX5_readsOn 198 = .ok (.getfield 79, 3) := by decide +kernel
theorem dX5_readsOn_201 : decode cX5_readsOn 201 = .ok (.putfield 79, 3) := by decide +kernel
theorem dX5_readsOn_204 : decode cX5_readsOn 204 = .ok (.aload_n 0, 1) := by decide +kernel
theorem dX5_readsOn_205 : decode cX5_readsOn 205 = .ok (.dup, 1) := by decide +kernel
theorem dX5_readsOn_206 : decode cX5_readsOn 206 = .ok (.getfield 72, 3) := by decide +kernel
theorem dX5_readsOn_209 : decode cX5_readsOn 209 = .ok (.iconst 1, 1) := by decide +kernel
theorem dX5_readsOn_210 : decode cX5_readsOn 210 = .ok (.iadd, 1) := by decide +kernel
theorem dX5_readsOn_211 : decode cX5_readsOn 211 = .ok (.putfield 72, 3) := by decide +kernel
theorem dX5_readsOn_214 : decode cX5_readsOn 214 = .ok (.goto (-74), 3) := by decide +kernel
theorem dX5_readsOn_217 : decode cX5_readsOn 217 = .ok (.aload_n 0, 1) := by decide +kernel
theorem dX5_readsOn_218 : decode cX5_readsOn 218 = .ok (.iconst 2, 1) := by decide +kernel
theorem dX5_readsOn_219 : decode cX5_readsOn 219 = .ok (.putfield 69, 3) := by decide +kernel
theorem dX5_readsOn_222 : decode cX5_readsOn 222 = .ok (.aload_n 0, 1) := by decide +kernel
theorem dX5_readsOn_223 : decode cX5_readsOn 223 = .ok (.getfield 72, 3) := by decide +kernel
theorem dX5_readsOn_226 : decode cX5_readsOn 226 = .ok (.aload_n 0, 1) := by decide +kernel
theorem dX5_readsOn_227 : decode cX5_readsOn 227 = .ok (.getfield 63, 3) := by decide +kernel
theorem dX5_readsOn_230 : decode cX5_readsOn 230 = .ok (.isub, 1) := by decide +kernel
theorem dX5_readsOn_231 : decode cX5_readsOn 231 = .ok (.iconst 2, 1) := by decide +kernel
theorem dX5_readsOn_232 : decode cX5_readsOn 232 = .ok (.if_icmp .le 37, 3) := by decide +kernel
theorem dX5_readsOn_235 : decode cX5_readsOn 235 = .ok (.aload_n 0, 1) := by decide +kernel
theorem dX5_readsOn_236 : decode cX5_readsOn 236 = .ok (.iconst 1, 1) := by decide +kernel
theorem dX5_readsOn_237 : decode cX5_readsOn 237 = .ok (.invokevirtual 90, 3) := by decide +kernel
theorem dX5_readsOn_240 : decode cX5_readsOn 240 = .ok (.goto 29, 3) := by decide +kernel
theorem dX5_readsOn_243 : decode cX5_readsOn 243 = .ok (.aload_n 0, 1) := by decide +kernel
theorem dX5_readsOn_244 : decode cX5_readsOn 244 = .ok (.iconst 3, 1) := by decide +kernel
theorem dX5_readsOn_245 : decode cX5_readsOn 245 = .ok (.putfield 69, 3) := by decide +kernel
theorem dX5_readsOn_248 : decode cX5_readsOn 248 = .ok (.aload_n 0, 1) := by decide +kernel
theorem dX5_readsOn_249 : decode cX5_readsOn 249 = .ok (.dup, 1) := by decide +kernel
theorem dX5_readsOn_250 : decode cX5_readsOn 250 = .ok (.getfield 72, 3) := by decide +kernel
theorem dX5_readsOn_253 : decode cX5_readsOn 253 = .ok (.iconst 1, 1) := by decide +kernel
theorem dX5_readsOn_254 : decode cX5_readsOn 254 = .ok (.iadd, 1) := by decide +kernel
theorem dX5_readsOn_255 : decode cX5_readsOn 255 = .ok (.putfield 72, 3) := by decide +kernel
theorem dX5_readsOn_258 : decode cX5_readsOn 258 = .ok (.iload_n 1, 1) := by decide +kernel
theorem dX5_readsOn_259 : decode cX5_readsOn 259 = .ok (.bipush 59, 2) := by decide +kernel
theorem dX5_readsOn_261 : decode cX5_readsOn 261 = .ok (.if_icmp .eq 8, 3) := by decide +kernel
theorem dX5_readsOn_264 : decode cX5_readsOn 264 = .ok (.aload_n 0, 1) := by decide +kernel
theorem dX5_readsOn_265 : decode cX5_readsOn 265 = .ok (.iconst 1, 1) := by decide +kernel
theorem dX5_readsOn_266 : decode cX5_readsOn 266 = .ok (.invokevirtual 90, 3) := by decide +kernel
theorem dX5_readsOn_269 : decode cX5_readsOn 269 = .ok (.return_, 1) := by decide +kernel
theorem dX5_number_0 : decode cX5_number 0 = .ok (.aload_n 0, 1) := by decide +kernel
theorem dX5_number_1 : decode cX5_number 1 = .ok (.getfield 60, 3) := by decide +kernel
theorem dX5_number_4 : decode cX5_number 4 = .ok (.ifCond .ne 16, 3) := by decide +kernel
theorem dX5_number_7 : decode cX5_number 7 = .ok (.aload_n 0, 1) := by decide +kernel
theorem dX5_number_8 : decode cX5_number 8 = .ok (.getfield 69, 3) := by decide +kernel
theorem dX5_number_11 : decode cX5_number 11 = .ok (.iconst 2, 1) := by decide +kernel
theorem dX5_number_12 : decode cX5_number 12 = .ok (.if_icmp .eq 8, 3) := by decide +kernel
theorem dX5_number_15 : decode cX5_number 15 = .ok (.aload_n 0, 1) := by decide +kernel
theorem dX5_number_16 : decode cX5_number 16 = .ok (.iconst 2, 1) := by decide +kernel
theorem dX5_number_17 : decode cX5_number 17 = .ok (.invokevirtual 90, 3) := by decide +kernel
theorem dX5_number_20 : decode cX5_number 20 = .ok (.aload_n 0, 1) := by decide +kernel
theorem dX5_number_21 : decode cX5_number 21 = .ok (.getfield 60, 3) := by decide +kernel
theorem dX5_number_24 : decode cX5_number 24 = .ok (.ifCond .ne 23, 3) := by decide +kernel
theorem dX5_number_27 : decode cX5_number 27 = .ok (.aload_n 0, 1) := by decide +kernel
theorem dX5_number_28 : decode cX5_number 28 = .ok (.getfield 79, 3) := by decide +kernel
theorem dX5_number_31 : decode cX5_number 31 = .ok (.i2l, 1) := by decide +kernel
theorem dX5_number_32 : decode cX5_number 32 = .ok (.iload_n 1, 1) := by decide +kernel
theorem dX5_number_33 : decode cX5_number 33 = .ok (.i2l, 1) := by decide +kernel
theorem dX5_number_34 : decode cX5_number 34 = .ok (.iload_n 2, 1) := by decide +kernel
theorem dX5_number_35 : decode cX5_number 35 = .ok (.i2l, 1) := by decide +kernel
theorem dX5_number_36 : decode cX5_number 36 = .ok (.invokestatic 53, 3) := by decide +kernel
theorem dX5_number_39 : decode cX5_number 39 = .ok (.ifCond .ne 8, 3) := by decide +kernel
theorem dX5_number_42 : decode cX5_number 42 = .ok (.aload_n 0, 1) := by decide +kernel
theorem dX5_number_43 : decode cX5_number 43 = .ok (.iconst 3, 1) := by decide +kernel
theorem dX5_number_44 : decode cX5_number 44 = .ok (.invokevirtual 90, 3) := by decide +kernel
theorem dX5_number_47 : decode cX5_number 47 = .ok (.aload_n 0, 1) := by decide +kernel
theorem dX5_number_48 : decode cX5_number 48 = .ok (.getfield 60, 3) := by decide +kernel
theorem dX5_number_51 : decode cX5_number 51 = .ok (.ifCond .ne 10, 3) := by decide +kernel
theorem dX5_number_54 : decode cX5_number 54 = .ok (.aload_n 0, 1) := by decide +kernel
theorem dX5_number_55 : decode cX5_number 55 = .ok (.getfield 79, 3) := by decide +kernel
theorem dX5_number_58 : decode cX5_number 58 = .ok (.goto 4, 3) := by decide +kernel
theorem dX5_number_61 : decode cX5_number 61 = .ok (.iload_n 1, 1) := by decide +kernel
theorem dX5_number_62 : decode cX5_number 62 = .ok (.istore_n 3, 1) := by decide +kernel
theorem dX5_number_63 : decode cX5_number 63 = .ok (.aload_n 0, 1) := by decide +kernel
theorem dX5_number_64 : decode cX5_number 64 = .ok (.invokevirtual 94, 3) := by decide +kernel
theorem dX5_number_67 : decode cX5_number 67 = .ok (.iload_n 3, 1) := by decide +kernel
theorem dX5_number_68 : decode cX5_number 68 = .ok (.ireturn, 1) := by decide +kernel
theorem dX5_readMore_0 : decode cX5_readMore 0 = .ok (.iload_n 1, 1) := by decide +kernel
theorem dX5_readMore_1 : decode cX5_readMore 1 = .ok (.iconst 3, 1) := by decide +kernel
theorem dX5_readMore_2 : decode cX5_readMore 2 = .ok (.if_icmp .gt 116, 3) := by decide +kernel
theorem dX5_readMore_5 : decode cX5_readMore 5 = .ok (.aload_n 0, 1) := by decide +kernel
theorem dX5_readMore_6 : decode cX5_readMore 6 = .ok (.getfield 13, 3) := by decide +kernel
theorem dX5_readMore_9 : decode cX5_readMore 9 = .ok (.bipush 24, 2) := by decide +kernel
theorem dX5_readMore_11 : decode cX5_readMore 11 = .ok (.iaload, 1) := by decide +kernel
theorem dX5_readMore_12 : decode cX5_readMore 12 = .ok (.istore_n 2, 1) := by decide +kernel
theorem dX5_readMore_13 : decode cX5_readMore 13 = .ok (.aload_n 0, 1) := by decide +kernel
theorem dX5_readMore_14 : decode cX5_readMore 14 = .ok (.getfield 13, 3) := by decide +kernel
theorem dX5_readMore_17 : decode cX5_readMore 17 = .ok (.iload_n 2, 1) := by decide +kernel
theorem dX5_readMore_18 : decode cX5_readMore 18 = .ok (.iload_n 1, 1) := by decide +kernel
theorem dX5_readMore_19 : decode cX5_readMore 19 = .ok (.iastore, 1) := by decide +kernel
theorem dX5_readMore_20 : decode cX5_readMore 20 = .ok (.aload_n 0, 1) := by decide +kernel
theorem dX5_readMore_21 : decode cX5_readMore 21 = .ok (.getfield 13, 3) := by decide +kernel
theorem dX5_readMore_24 : decode cX5_readMore 24 = .ok (.iconst 4, 1) := by decide +kernel
theorem dX5_readMore_25 : decode cX5_readMore 25 = .ok (.iload_n 2, 1) := by decide +kernel
theorem dX5_readMore_26 : decode cX5_readMore 26 = .ok (.iadd, 1) := by decide +kernel
theorem dX5_readMore_27 : decode cX5_readMore 27 = .ok (.aload_n 0, 1) := by decide +kernel
theorem dX5_readMore_28 : decode cX5_readMore 28 = .ok (.iconst 0, 1) := by decide +kernel
theorem dX5_readMore_29 : decode cX5_readMore 29 = .ok (.bipush 60, 2) := by decide +kernel
theorem dX5_readMore_31 : decode cX5_readMore 31 = .ok (.invokevirtual 97, 3) := by decide +kernel
theorem dX5_readMore_34 : decode cX5_readMore 34 = .ok (.iastore, 1) := by decide +kernel
theorem dX5_readMore_35 : decode cX5_readMore 35 = .ok (.aload_n 0, 1) := by decide +kernel
theorem dX5_readMore_36 : decode cX5_readMore 36 = .ok (.getfield 13, 3) := by decide +kernel
theorem dX5_readMore_39 : decode cX5_readMore 39 = .ok (.bipush 8, 2) := by decide +kernel
theorem dX5_readMore_41 : decode cX5_readMore 41 = .ok (.iload_n 2, 1) := by decide +kernel
theorem dX5_readMore_42 : decode cX5_readMore 42 = .ok (.iadd, 1) := by decide +kernel
theorem dX5_readMore_43 : decode cX5_readMore 43 = .ok (.aload_n 0, 1) := by decide +kernel
theorem dX5_readMore_44 : decode cX5_readMore 44 = .ok (.iconst 0, 1) := by decide +kernel
theorem dX5_readMore_45 : decode cX5_readMore 45 = .ok (.bipush 9, 2) := by decide +kernel
theorem dX5_readMore_47 : decode cX5_readMore 47 = .ok (.invokevirtual 97, 3) := by decide +kernel
theorem dX5_readMore_50 : decode cX5_readMore 50 = .ok (.iastore, 1) := by decide +kernel
theorem dX5_readMore_51 : decode cX5_readMore 51 = .ok (.aload_n 0, 1) := by decide +kernel
theorem dX5_readMore_52 : decode cX5_readMore 52 = .ok (.getfield 13, 3) := by decide +kernel
theorem dX5_readMore_55 : decode cX5_readMore 55 = .ok (.bipush 12, 2) := by decide +kernel
theorem dX5_readMore_57 : decode cX5_readMore 57 = .ok (.iload_n 2, 1) := by decide +kernel
theorem dX5_readMore_58 : decode cX5_readMore 58 = .ok (.iadd, 1) := by decide +kernel
theorem dX5_readMore_59 : decode cX5_readMore 59 = .ok (.aload_n 0, 1) := by decide +kernel
theorem dX5_readMore_60 : decode cX5_readMore 60 = .ok (.iconst 1, 1) := by decide +kernel
theorem dX5_readMore_61 : decode cX5_readMore 61 = .ok (.bipush 9, 2) := by decide +kernel
theorem dX5_readMore_63 : decode cX5_readMore 63 = .ok (.invokevirtual 97, 3) := by decide +kernel
theorem dX5_readMore_66 : decode cX5_readMore 66 = .ok (.iastore, 1) := by decide +kernel
theorem dX5_readMore_67 : decode cX5_readMore 67 = .ok (.aload_n 0, 1) := by decide +kernel
theorem dX5_readMore_68 : decode cX5_readMore 68 = .ok (.getfield 13, 3) := by decide +kernel
theorem dX5_readMore_71 : decode cX5_readMore 71 = .ok (.bipush 16, 2) := by decide +kernel
theorem dX5_readMore_73 : decode cX5_readMore 73 = .ok (.iload_n 2, 1) := by decide +kernel
theorem dX5_readMore_74 : decode cX5_readMore 74 = .ok (.iadd, 1) := by decide +kernel
theorem dX5_readMore_75 : decode cX5_readMore 75 = .ok (.iload_n 2, 1) := by decide +kernel
theorem dX5_readMore_76 : decode cX5_readMore 76 = .ok (.ifCond .ne 7, 3) := by decide +kernel
theorem dX5_readMore_79 : decode cX5_readMore 79 = .ok (.iconst 0, 1) := by decide +kernel
theorem dX5_readMore_80 : decode cX5_readMore 80 = .ok (.goto 14, 3) := by decide +kernel
theorem dX5_readMore_83 : decode cX5_readMore 83 = .ok (.aload_n 0, 1) := by decide +kernel
theorem dX5_readMore_84 : decode cX5_readMore 84 = .ok (.getfield 13, 3) := by decide +kernel
theorem dX5_readMore_87 : decode cX5_readMore 87 = .ok (.bipush 16, 2) := by decide +kernel
theorem dX5_readMore_89 : decode cX5_readMore 89 = .ok (.iload_n 2, 1) := by decide +kernel
theorem dX5_readMore_90 : decode cX5_readMore 90 = .ok (.iadd, 1) := by decide +kernel
theorem dX5_readMore_91 : decode cX5_readMore 91 = .ok (.iconst 1, 1) := by decide +kernel
theorem dX5_readMore_92 : decode cX5_readMore 92 = .ok (.isub, 1) := by decide +kernel
theorem dX5_readMore_93 : decode cX5_readMore 93 = .ok (.iaload, 1) := by decide +kernel
theorem dX5_readMore_94 : decode cX5_readMore 94 = .ok (.aload_n 0, 1) := by decide +kernel
theorem dX5_readMore_95 : decode cX5_readMore 95 = .ok (.getfield 13, 3) := by decide +kernel
theorem dX5_readMore_98 : decode cX5_readMore 98 = .ok (.iconst 4, 1) := by decide +kernel
theorem dX5_readMore_99 : decode cX5_readMore 99 = .ok (.iload_n 2, 1) := by decide +kernel
theorem dX5_readMore_100 : decode cX5_readMore 100 = .ok (.iadd, 1) := by decide +kernel
theorem dX5_readMore_101 : decode cX5_readMore 101 = .ok (.iaload, 1) := by decide +kernel
theorem dX5_readMore_102 : decode cX5_readMore 102 = .ok (.iadd, 1) := by decide +kernel
theorem dX5_readMore_103 : decode cX5_readMore 103 = .ok (.iastore, 1) := by decide +kernel
theorem dX5_readMore_104 : decode cX5_readMore 104 = .ok (.aload_n 0, 1) := by decide +kernel
theorem dX5_readMore_105 : decode cX5_readMore 105 = .ok (.getfield 13, 3) := by decide +kernel
theorem dX5_readMore_108 : decode cX5_readMore 108 = .ok (.bipush 24, 2) := by decide +kernel
theorem dX5_readMore_110 : decode cX5_readMore 110 = .ok (.dup2, 1) := by decide +kernel
theorem dX5_readMore_111 : decode cX5_readMore 111 = .ok (.iaload, 1) := by decide +kernel
theorem dX5_readMore_112 : decode cX5_readMore 112 = .ok (.iconst 1, 1) := by decide +kernel
theorem dX5_readMore_113 : decode cX5_readMore 113 = .ok (.iadd, 1) := by decide +kernel
theorem dX5_readMore_114 : decode cX5_readMore 114 = .ok (.iastore, 1) := by decide +kernel
theorem dX5_readMore_115 : decode cX5_readMore 115 = .ok (.goto 86, 3) := by decide +kernel
theorem dX5_readMore_118 : decode cX5_readMore 118 = .ok (.iload_n 1, 1) := by decide +kernel
theorem dX5_readMore_119 : decode cX5_readMore 119 = .ok (.iconst 4, 1) := by decide +kernel
theorem dX5_readMore_120 : decode cX5_readMore 120 = .ok (.if_icmp .ne 19, 3) := by decide +kernel
theorem dX5_readMore_123 : decode cX5_readMore 123 = .ok (.aload_n 0, 1) := by decide +kernel
theorem dX5_readMore_124 : decode cX5_readMore 124 = .ok (.getfield 13, 3) := by decide +kernel
theorem dX5_readMore_127 : decode cX5_readMore 127 = .ok (.bipush 50, 2) := by decide +kernel
theorem dX5_readMore_129 : decode cX5_readMore 129 = .ok (.aload_n 0, 1) := by decide +kernel
theorem dX5_readMore_130 : decode cX5_readMore 130 = .ok (.iconst 0, 1) := by decide +kernel
theorem dX5_readMore_131 : decode cX5_readMore 131 = .ok (.iconst 3, 1) := by decide +kernel
theorem dX5_readMore_132 : decode cX5_readMore 132 = .ok (.invokevirtual 97, 3) := by decide +kernel
theorem dX5_readMore_135 : decode cX5_readMore 135 = .ok (.iastore, 1) := by decide +kernel
theorem dX5_readMore_136 : decode cX5_readMore 136 = .ok (.goto 65, 3) := by decide +kernel
theorem dX5_readMore_139 : decode cX5_readMore 139 = .ok (.aload_n 0, 1) := by decide +kernel
theorem dX5_readMore_140 : decode cX5_readMore 140 = .ok (.getfield 13, 3) := by decide +kernel
theorem dX5_readMore_143 : decode cX5_readMore 143 = .ok (.bipush 49, 2) := by decide +kernel
theorem dX5_readMore_145 : decode cX5_readMore 145 = .ok (.iaload, 1) := by decide +kernel
theorem dX5_readMore_146 : decode cX5_readMore 146 = .ok (.istore_n 2, 1) := by decide +kernel
theorem dX5_readMore_147 : decode cX5_readMore 147 = .ok (.aload_n 0, 1) := by decide +kernel
theorem dX5_readMore_148 : decode cX5_readMore 148 = .ok (.getfield 13, 3) := by decide +kernel
theorem dX5_readMore_151 : decode cX5_readMore 151 = .ok (.bipush 25, 2) := by decide +kernel
theorem dX5_readMore_153 : decode cX5_readMore 153 = .ok (.iload_n 2, 1) := by decide +kernel
theorem dX5_readMore_154 : decode cX5_readMore 154 = .ok (.iadd, 1) := by decide +kernel
theorem dX5_readMore_155 : decode cX5_readMore 155 = .ok (.aload_n 0, 1) := by decide +kernel
theorem dX5_readMore_156 : decode cX5_readMore 156 = .ok (.iconst 0, 1) := by decide +kernel
theorem dX5_readMore_157 : decode cX5_readMore 157 = .ok (.iconst 3, 1) := by decide +kernel
theorem dX5_readMore_158 : decode cX5_readMore 158 = .ok (.invokevirtual 97, 3) := by decide +kernel
theorem dX5_readMore_161 : decode cX5_readMore 161 = .ok (.iastore, 1) := by decide +kernel
theorem dX5_readMore_162 : decode cX5_readMore 162 = .ok (.aload_n 0, 1) := by decide +kernel
theorem dX5_readMore_163 : decode cX5_readMore 163 = .ok (.iconst 0, 1) := by decide +kernel
theorem dX5_readMore_164 : decode cX5_readMore 164 = .ok (.bipush 9, 2) := by decide +kernel
theorem dX5_readMore_166 : decode cX5_readMore 166 = .ok (.invokevirtual 97, 3) := by decide +kernel
theorem dX5_readMore_169 : decode cX5_readMore 169 = .ok (.istore_n 3, 1) := by decide +kernel
theorem dX5_readMore_170 : decode cX5_readMore 170 = .ok (.aload_n 0, 1) := by decide +kernel
theorem dX5_readMore_171 : decode cX5_readMore 171 = .ok (.getfield 13, 3) := by decide +kernel
theorem dX5_readMore_174 : decode cX5_readMore 174 = .ok (.bipush 37, 2) := by decide +kernel
theorem dX5_readMore_176 : decode cX5_readMore 176 = .ok (.iload_n 2, 1) := by decide +kernel
theorem dX5_readMore_177 : decode cX5_readMore 177 = .ok (.iadd, 1) := by decide +kernel
theorem dX5_readMore_178 : decode cX5_readMore 178 = .ok (.iload_n 1, 1) := by decide +kernel
theorem dX5_readMore_179 : decode cX5_readMore 179 = .ok (.iconst 5, 1) := by decide +kernel
theorem dX5_readMore_180 : decode cX5_readMore 180 = .ok (.if_icmp .ne 7, 3) := by decide +kernel
theorem dX5_readMore_183 : decode cX5_readMore 183 = .ok (.iload_n 3, 1) := by decide +kernel
theorem dX5_readMore_184 : decode cX5_readMore 184 = .ok (.goto 5, 3) := by decide +kernel
theorem dX5_readMore_187 : decode cX5_readMore 187 = .ok (.iload_n 3, 1) := by decide +kernel
theorem dX5_readMore_188 : decode cX5_readMore 188 = .ok (.ineg, 1) := by decide +kernel
theorem dX5_readMore_189 : decode cX5_readMore 189 = .ok (.iastore, 1) := by decide +kernel
theorem dX5_readMore_190 : decode cX5_readMore 190 = .ok (.aload_n 0, 1) := by decide +kernel
theorem dX5_readMore_191 : decode cX5_readMore 191 = .ok (.getfield 13, 3) := by decide +kernel
theorem dX5_readMore_194 : decode cX5_readMore 194 = .ok (.bipush 49, 2) := by decide +kernel
theorem dX5_readMore_196 : decode cX5_readMore 196 = .ok (.dup2, 1) := by decide +kernel
theorem dX5_readMore_197 : decode cX5_readMore 197 = .ok (.iaload, 1) := by decide +kernel
theorem dX5_readMore_198 : decode cX5_readMore 198 = .ok (.iconst 1, 1) := by decide +kernel
theorem dX5_readMore_199 : decode cX5_readMore 199 = .ok (.iadd, 1) := by decide +kernel
theorem dX5_readMore_200 : decode cX5_readMore 200 = .ok (.iastore, 1) := by decide +kernel
theorem dX5_readMore_201 : decode cX5_readMore 201 = .ok (.return_, 1) := by decide +kernel
theorem dX5_readLine_0 : decode cX5_readLine 0 = .ok (.aload_n 0, 1) := by decide +kernel
theorem dX5_readLine_1 : decode cX5_readLine 1 = .ok (.invokevirtual 101, 3) := by decide +kernel
theorem dX5_readLine_4 : decode cX5_readLine 4 = .ok (.istore_n 1, 1) := by decide +kernel
theorem dX5_readLine_5 : decode cX5_readLine 5 = .ok (.iload_n 1, 1) := by decide +kernel
theorem dX5_readLine_6 : decode cX5_readLine 6 = .ok (.i2l, 1) := by decide +kernel
theorem dX5_readLine_7 : decode cX5_readLine 7 = .ok (.lconst 0, 1) := by decide +kernel
theorem dX5_readLine_8 : decode cX5_readLine 8 = .ok (.ldc2_w 105, 3) := by decide +kernel
theorem dX5_readLine_11 : decode cX5_readLine 11 = .ok (.invokestatic 53, 3) := by decide +kernel
theorem dX5_readLine_14 : decode cX5_readLine 14 = .ok (.ifCond .ne 9, 3) := by decide +kernel
theorem dX5_readLine_17 : decode cX5_readLine 17 = .ok (.aload_n 0, 1) := by decide +kernel
theorem dX5_readLine_18 : decode cX5_readLine 18 = .ok (.iconst 2, 1) := by decide +kernel
theorem dX5_readLine_19 : decode cX5_readLine 19 = .ok (.invokevirtual 90, 3) := by decide +kernel
theorem dX5_readLine_22 : decode cX5_readLine 22 = .ok (.return_, 1) := by decide +kernel
theorem dX5_readLine_23 : decode cX5_readLine 23 = .ok (.iload_n 1, 1) := by decide +kernel
theorem dX5_readLine_24 : decode cX5_readLine 24 = .ok (.iconst 3, 1) := by decide +kernel
theorem dX5_readLine_25 : decode cX5_readLine 25 = .ok (.if_icmp .gt 14, 3) := by decide +kernel
theorem dX5_readLine_28 : decode cX5_readLine 28 = .ok (.aload_n 0, 1) := by decide +kernel
theorem dX5_readLine_29 : decode cX5_readLine 29 = .ok (.getfield 13, 3) := by decide +kernel
theorem dX5_readLine_32 : decode cX5_readLine 32 = .ok (.bipush 24, 2) := by decide +kernel
theorem dX5_readLine_34 : decode cX5_readLine 34 = .ok (.iaload, 1) := by decide +kernel
theorem dX5_readLine_35 : decode cX5_readLine 35 = .ok (.iconst 4, 1) := by decide +kernel
theorem dX5_readLine_36 : decode cX5_readLine 36 = .ok (.if_icmp .eq 20, 3) := by decide +kernel
theorem dX5_readLine_39 : decode cX5_readLine 39 = .ok (.iload_n 1, 1) := by decide +kernel
theorem dX5_readLine_40 : decode cX5_readLine 40 = .ok (.iconst 5, 1) := by decide +kernel
theorem dX5_readLine_41 : decode cX5_readLine 41 = .ok (.if_icmp .lt 20, 3) := by decide +kernel
theorem dX5_readLine_44 : decode cX5_readLine 44 = .ok (.aload_n 0, 1) := by decide +kernel
theorem dX5_readLine_45 : decode cX5_readLine 45 = .ok (.getfield 13, 3) := by decide +kernel
theorem dX5_readLine_48 : decode cX5_readLine 48 = .ok (.bipush 49, 2) := by decide +kernel
theorem dX5_readLine_50 : decode cX5_readLine 50 = .ok (.iaload, 1) := by decide +kernel
theorem dX5_readLine_51 : decode cX5_readLine 51 = .ok (.bipush 12, 2) := by decide +kernel
theorem dX5_readLine_53 : decode cX5_readLine 53 = .ok (.if_icmp .ne 8, 3) := by decide +kernel
theorem dX5_readLine_56 : decode cX5_readLine 56 = .ok (.aload_n 0, 1) := by decide +kernel
theorem dX5_readLine_57 : decode cX5_readLine 57 = .ok (.iconst 5, 1) := by decide +kernel
theorem dX5_readLine_58 : decode cX5_readLine 58 = .ok (.invokevirtual 90, 3) := by decide +kernel
theorem dX5_readLine_61 : decode cX5_readLine 61 = .ok (.iload_n 1, 1) := by decide +kernel
theorem dX5_readLine_62 : decode cX5_readLine 62 = .ok (.iconst 4, 1) := by decide +kernel
theorem dX5_readLine_63 : decode cX5_readLine 63 = .ok (.if_icmp .ne 15, 3) := by decide +kernel
theorem dX5_readLine_66 : decode cX5_readLine 66 = .ok (.aload_n 0, 1) := by decide +kernel
theorem dX5_readLine_67 : decode cX5_readLine 67 = .ok (.getfield 107, 3) := by decide +kernel
theorem dX5_readLine_70 : decode cX5_readLine 70 = .ok (.ifCond .eq 8, 3) := by decide +kernel
theorem dX5_readLine_73 : decode cX5_readLine 73 = .ok (.aload_n 0, 1) := by decide +kernel
theorem dX5_readLine_74 : decode cX5_readLine 74 = .ok (.iconst 4, 1) := by decide +kernel
theorem dX5_readLine_75 : decode cX5_readLine 75 = .ok (.invokevirtual 90, 3) := by decide +kernel
theorem dX5_readLine_78 : decode cX5_readLine 78 = .ok (.aload_n 0, 1) := by decide +kernel
theorem dX5_readLine_79 : decode cX5_readLine 79 = .ok (.aload_n 0, 1) := by decide +kernel
theorem dX5_readLine_80 : decode cX5_readLine 80 = .ok (.getfield 107, 3) := by decide +kernel
theorem dX5_readLine_83 : decode cX5_readLine 83 = .ok (.ifCond .ne 8, 3) := by decide +kernel
theorem dX5_readLine_86 : decode cX5_readLine 86 = .ok (.iload_n 1, 1) := by decide +kernel
theorem dX5_readLine_87 : decode cX5_readLine 87 = .ok (.iconst 4, 1) := by decide +kernel
theorem dX5_readLine_88 : decode cX5_readLine 88 = .ok (.if_icmp .ne 7, 3) := by decide +kernel
theorem dX5_readLine_91 : decode cX5_readLine 91 = .ok (.iconst 1, 1) := by decide +kernel
theorem dX5_readLine_92 : decode cX5_readLine 92 = .ok (.goto 4, 3) := by decide +kernel
theorem dX5_readLine_95 : decode cX5_readLine 95 = .ok (.iconst 0, 1) := by decide +kernel
theorem dX5_readLine_96 : decode cX5_readLine 96 = .ok (.putfield 107, 3) := by decide +kernel
theorem dX5_readLine_99 : decode cX5_readLine 99 = .ok (.aload_n 0, 1) := by decide +kernel
theorem dX5_readLine_100 : decode cX5_readLine 100 = .ok (.invokevirtual 94, 3) := by decide +kernel
theorem dX5_readLine_103 : decode cX5_readLine 103 = .ok (.aload_n 0, 1) := by decide +kernel
theorem dX5_readLine_104 : decode cX5_readLine 104 = .ok (.getfield 60, 3) := by decide +kernel
theorem dX5_readLine_107 : decode cX5_readLine 107 = .ok (.ifCond .le 4, 3) := by decide +kernel
theorem dX5_readLine_110 : decode cX5_readLine 110 = .ok (.return_, 1) := by decide +kernel
theorem dX5_readLine_111 : decode cX5_readLine 111 = .ok (.aload_n 0, 1) := by decide +kernel
theorem dX5_readLine_112 : decode cX5_readLine 112 = .ok (.iload_n 1, 1) := by decide +kernel
theorem dX5_readLine_113 : decode cX5_readLine 113 = .ok (.invokevirtual 111, 3) := by decide +kernel
theorem dX5_readLine_116 : decode cX5_readLine 116 = .ok (.aload_n 0, 1) := by decide +kernel
theorem dX5_readLine_117 : decode cX5_readLine 117 = .ok (.getfield 60, 3) := by decide +kernel
theorem dX5_readLine_120 : decode cX5_readLine 120 = .ok (.ifCond .ne 16, 3) := by decide +kernel
theorem dX5_readLine_123 : decode cX5_readLine 123 = .ok (.aload_n 0, 1) := by decide +kernel
theorem dX5_readLine_124 : decode cX5_readLine 124 = .ok (.getfield 69, 3) := by decide +kernel
theorem dX5_readLine_127 : decode cX5_readLine 127 = .ok (.iconst 3, 1) := by decide +kernel
theorem dX5_readLine_128 : decode cX5_readLine 128 = .ok (.if_icmp .eq 8, 3) := by decide +kernel
theorem dX5_readLine_131 : decode cX5_readLine 131 = .ok (.aload_n 0, 1) := by decide +kernel
theorem dX5_readLine_132 : decode cX5_readLine 132 = .ok (.iconst 2, 1) := by decide +kernel
theorem dX5_readLine_133 : decode cX5_readLine 133 = .ok (.invokevirtual 90, 3) := by decide +kernel
theorem dX5_readLine_136 : decode cX5_readLine 136 = .ok (.aload_n 0, 1) := by decide +kernel
theorem dX5_readLine_137 : decode cX5_readLine 137 = .ok (.invokevirtual 94, 3) := by decide +kernel
theorem dX5_readLine_140 : decode cX5_readLine 140 = .ok (.return_, 1) := by decide +kernel
theorem dX5_text_0 : decode cX5_text 0 = .ok (.aload_n 0, 1) := by decide +kernel
theorem dX5_text_1 : decode cX5_text 1 = .ok (.iconst 0, 1) := by decide +kernel
theorem dX5_text_2 : decode cX5_text 2 = .ok (.putfield 60, 3) := by decide +kernel
theorem dX5_text_5 : decode cX5_text 5 = .ok (.aload_n 0, 1) := by decide +kernel
theorem dX5_text_6 : decode cX5_text 6 = .ok (.iconst 0, 1) := by decide +kernel
theorem dX5_text_7 : decode cX5_text 7 = .ok (.putfield 72, 3) := by decide +kernel
theorem dX5_text_10 : decode cX5_text 10 = .ok (.aload_n 0, 1) := by decide +kernel
theorem dX5_text_11 : decode cX5_text 11 = .ok (.iconst 0, 1) := by decide +kernel
theorem dX5_text_12 : decode cX5_text 12 = .ok (.putfield 107, 3) := by decide +kernel
theorem dX5_text_15 : decode cX5_text 15 = .ok (.iconst 0, 1) := by decide +kernel
theorem dX5_text_16 : decode cX5_text 16 = .ok (.istore_n 1, 1) := by decide +kernel
theorem dX5_text_17 : decode cX5_text 17 = .ok (.iconst 0, 1) := by decide +kernel
theorem dX5_text_18 : decode cX5_text 18 = .ok (.istore_n 2, 1) := by decide +kernel
theorem dX5_text_19 : decode cX5_text 19 = .ok (.iload_n 2, 1) := by decide +kernel
theorem dX5_text_20 : decode cX5_text 20 = .ok (.bipush 52, 2) := by decide +kernel
theorem dX5_text_22 : decode cX5_text 22 = .ok (.if_icmp .ge 16, 3) := by decide +kernel
theorem dX5_text_25 : decode cX5_text 25 = .ok (.aload_n 0, 1) := by decide +kernel
theorem dX5_text_26 : decode cX5_text 26 = .ok (.getfield 13, 3) := by decide +kernel
theorem dX5_text_29 : decode cX5_text 29 = .ok (.iload_n 2, 1) := by decide +kernel
theorem dX5_text_30 : decode cX5_text 30 = .ok (.iconst 0, 1) := by decide +kernel
theorem dX5_text_31 : decode cX5_text 31 = .ok (.iastore, 1) := by decide +kernel
theorem dX5_text_32 : decode cX5_text 32 = .ok (.iinc 2 1, 3) := by decide +kernel
theorem dX5_text_35 : decode cX5_text 35 = .ok (.goto (-16), 3) := by decide +kernel
theorem dX5_text_38 : decode cX5_text 38 = .ok (.aload_n 0, 1) := by decide +kernel
theorem dX5_text_39 : decode cX5_text 39 = .ok (.invokevirtual 94, 3) := by decide +kernel
theorem dX5_text_42 : decode cX5_text 42 = .ok (.aload_n 0, 1) := by decide +kernel
theorem dX5_text_43 : decode cX5_text 43 = .ok (.getfield 60, 3) := by decide +kernel
theorem dX5_text_46 : decode cX5_text 46 = .ok (.ifCond .ne 20, 3) := by decide +kernel
theorem dX5_text_49 : decode cX5_text 49 = .ok (.aload_n 0, 1) := by decide +kernel
theorem dX5_text_50 : decode cX5_text 50 = .ok (.getfield 69, 3) := by decide +kernel
theorem dX5_text_53 : decode cX5_text 53 = .ok (.ifCond .eq 13, 3) := by decide +kernel
theorem dX5_text_56 : decode cX5_text 56 = .ok (.aload_n 0, 1) := by decide +kernel
theorem dX5_text_57 : decode cX5_text 57 = .ok (.invokevirtual 114, 3) := by decide +kernel
theorem dX5_text_60 : decode cX5_text 60 = .ok (.iinc 1 1, 3) := by decide +kernel
theorem dX5_text_63 : decode cX5_text 63 = .ok (.goto (-21), 3) := by decide +kernel
theorem dX5_text_66 : decode cX5_text 66 = .ok (.aload_n 0, 1) := by decide +kernel
theorem dX5_text_67 : decode cX5_text 67 = .ok (.iconst 0, 1) := by decide +kernel
theorem dX5_text_68 : decode cX5_text 68 = .ok (.putfield 57, 3) := by decide +kernel
theorem dX5_text_71 : decode cX5_text 71 = .ok (.aload_n 0, 1) := by decide +kernel
theorem dX5_text_72 : decode cX5_text 72 = .ok (.aload_n 0, 1) := by decide +kernel
theorem dX5_text_73 : decode cX5_text 73 = .ok (.getfield 60, 3) := by decide +kernel
theorem dX5_text_76 : decode cX5_text 76 = .ok (.putfield 117, 3) := by decide +kernel
theorem dX5_text_79 : decode cX5_text 79 = .ok (.aload_n 0, 1) := by decide +kernel
theorem dX5_text_80 : decode cX5_text 80 = .ok (.getfield 60, 3) := by decide +kernel
theorem dX5_text_83 : decode cX5_text 83 = .ok (.ifCond .le 11, 3) := by decide +kernel
theorem dX5_text_86 : decode cX5_text 86 = .ok (.bipush (-10), 2) := by decide +kernel
theorem dX5_text_88 : decode cX5_text 88 = .ok (.aload_n 0, 1) := by decide +kernel
theorem dX5_text_89 : decode cX5_text 89 = .ok (.getfield 66, 3) := by decide +kernel
theorem dX5_text_92 : decode cX5_text 92 = .ok (.isub, 1) := by decide +kernel
theorem dX5_text_93 : decode cX5_text 93 = .ok (.ireturn, 1) := by decide +kernel
theorem dX5_text_94 : decode cX5_text 94 = .ok (.iconst 0, 1) := by decide +kernel
theorem dX5_text_95 : decode cX5_text 95 = .ok (.istore_n 2, 1) := by decide +kernel
theorem dX5_text_96 : decode cX5_text 96 = .ok (.iload_n 2, 1) := by decide +kernel
theorem dX5_text_97 : decode cX5_text 97 = .ok (.bipush 52, 2) := by decide +kernel
theorem dX5_text_99 : decode cX5_text 99 = .ok (.if_icmp .ge 21, 3) := by decide +kernel
theorem dX5_text_102 : decode cX5_text 102 = .ok (.aload_n 0, 1) := by decide +kernel
theorem dX5_text_103 : decode cX5_text 103 = .ok (.getfield 7, 3) := by decide +kernel
theorem dX5_text_106 : decode cX5_text 106 = .ok (.iload_n 2, 1) := by decide +kernel
theorem dX5_text_107 : decode cX5_text 107 = .ok (.aload_n 0, 1) := by decide +kernel
theorem dX5_text_108 : decode cX5_text 108 = .ok (.getfield 13, 3) := by decide +kernel
theorem dX5_text_111 : decode cX5_text 111 = .ok (.iload_n 2, 1) := by decide +kernel
theorem dX5_text_112 : decode cX5_text 112 = .ok (.iaload, 1) := by decide +kernel
theorem dX5_text_113 : decode cX5_text 113 = .ok (.iastore, 1) := by decide +kernel
theorem dX5_text_114 : decode cX5_text 114 = .ok (.iinc 2 1, 3) := by decide +kernel
theorem dX5_text_117 : decode cX5_text 117 = .ok (.goto (-21), 3) := by decide +kernel
theorem dX5_text_120 : decode cX5_text 120 = .ok (.aload_n 0, 1) := by decide +kernel
theorem dX5_text_121 : decode cX5_text 121 = .ok (.iconst 0, 1) := by decide +kernel
theorem dX5_text_122 : decode cX5_text 122 = .ok (.putfield 120, 3) := by decide +kernel
theorem dX5_text_125 : decode cX5_text 125 = .ok (.aload_n 0, 1) := by decide +kernel
theorem dX5_text_126 : decode cX5_text 126 = .ok (.getfield 38, 3) := by decide +kernel
theorem dX5_text_129 : decode cX5_text 129 = .ok (.iconst 0, 1) := by decide +kernel
theorem dX5_text_130 : decode cX5_text 130 = .ok (.iconst 0, 1) := by decide +kernel
theorem dX5_text_131 : decode cX5_text 131 = .ok (.bastore, 1) := by decide +kernel
theorem dX5_text_132 : decode cX5_text 132 = .ok (.aload_n 0, 1) := by decide +kernel
theorem dX5_text_133 : decode cX5_text 133 = .ok (.getfield 38, 3) := by decide +kernel
theorem dX5_text_136 : decode cX5_text 136 = .ok (.iconst 1, 1) := by decide +kernel
theorem dX5_text_137 : decode cX5_text 137 = .ok (.iconst 0, 1) := by decide +kernel
theorem dX5_text_138 : decode cX5_text 138 = .ok (.bastore, 1) := by decide +kernel
theorem dX5_text_139 : decode cX5_text 139 = .ok (.iload_n 1, 1) := by decide +kernel
theorem dX5_text_140 : decode cX5_text 140 = .ok (.ireturn, 1) := by decide +kernel
theorem dX5_fault_0 : decode cX5_fault 0 = .ok (.aload_n 0, 1) := by decide +kernel
theorem dX5_fault_1 : decode cX5_fault 1 = .ok (.getfield 117, 3) := by decide +kernel
theorem dX5_fault_4 : decode cX5_fault 4 = .ok (.ireturn, 1) := by decide +kernel
theorem dX5_isBead_0 : decode cX5_isBead 0 = .ok (.iload_n 1, 1) := by decide +kernel
theorem dX5_isBead_1 : decode cX5_isBead 1 = .ok (.i2l, 1) := by decide +kernel
theorem dX5_isBead_2 : decode cX5_isBead 2 = .ok (.lconst 0, 1) := by decide +kernel
theorem dX5_isBead_3 : decode cX5_isBead 3 = .ok (.aload_n 0, 1) := by decide +kernel
theorem dX5_isBead_4 : decode cX5_isBead 4 = .ok (.getfield 7, 3) := by decide +kernel
theorem dX5_isBead_7 : decode cX5_isBead 7 = .ok (.bipush 24, 2) := by decide +kernel
theorem dX5_isBead_9 : decode cX5_isBead 9 = .ok (.iaload, 1) := by decide +kernel
theorem dX5_isBead_10 : decode cX5_isBead 10 = .ok (.iconst 1, 1) := by decide +kernel
theorem dX5_isBead_11 : decode cX5_isBead 11 = .ok (.isub, 1) := by decide +kernel
theorem dX5_isBead_12 : decode cX5_isBead 12 = .ok (.i2l, 1) := by decide +kernel
theorem dX5_isBead_13 : decode cX5_isBead 13 = .ok (.invokestatic 53, 3) := by decide +kernel
theorem dX5_isBead_16 : decode cX5_isBead 16 = .ok (.ireturn, 1) := by decide +kernel
theorem dX5_isKnock_0 : decode cX5_isKnock 0 = .ok (.iload_n 1, 1) := by decide +kernel
theorem dX5_isKnock_1 : decode cX5_isKnock 1 = .ok (.i2l, 1) := by decide +kernel
theorem dX5_isKnock_2 : decode cX5_isKnock 2 = .ok (.lconst 0, 1) := by decide +kernel
theorem dX5_isKnock_3 : decode cX5_isKnock 3 = .ok (.aload_n 0, 1) := by decide +kernel
theorem dX5_isKnock_4 : decode cX5_isKnock 4 = .ok (.getfield 7, 3) := by decide +kernel
theorem dX5_isKnock_7 : decode cX5_isKnock 7 = .ok (.bipush 49, 2) := by decide +kernel
theorem dX5_isKnock_9 : decode cX5_isKnock 9 = .ok (.iaload, 1) := by decide +kernel
theorem dX5_isKnock_10 : decode cX5_isKnock 10 = .ok (.iconst 1, 1) := by decide +kernel
theorem dX5_isKnock_11 : decode cX5_isKnock 11 = .ok (.isub, 1) := by decide +kernel
theorem dX5_isKnock_12 : decode cX5_isKnock 12 = .ok (.i2l, 1) := by decide +kernel
theorem dX5_isKnock_13 : decode cX5_isKnock 13 = .ok (.invokestatic 53, 3) := by decide +kernel
theorem dX5_isKnock_16 : decode cX5_isKnock 16 = .ok (.ireturn, 1) := by decide +kernel
theorem dX5_isLong_0 : decode cX5_isLong 0 = .ok (.iload_n 0, 1) := by decide +kernel
theorem dX5_isLong_1 : decode cX5_isLong 1 = .ok (.i2l, 1) := by decide +kernel
theorem dX5_isLong_2 : decode cX5_isLong 2 = .ok (.lconst 0, 1) := by decide +kernel
theorem dX5_isLong_3 : decode cX5_isLong 3 = .ok (.ldc2_w 123, 3) := by decide +kernel
theorem dX5_isLong_6 : decode cX5_isLong 6 = .ok (.invokestatic 53, 3) := by decide +kernel
theorem dX5_isLong_9 : decode cX5_isLong 9 = .ok (.ireturn, 1) := by decide +kernel
theorem dX5_stretchOn_0 : decode cX5_stretchOn 0 = .ok (.aload_n 0, 1) := by decide +kernel
theorem dX5_stretchOn_1 : decode cX5_stretchOn 1 = .ok (.getfield 7, 3) := by decide +kernel
theorem dX5_stretchOn_4 : decode cX5_stretchOn 4 = .ok (.iload_n 1, 1) := by decide +kernel
theorem dX5_stretchOn_5 : decode cX5_stretchOn 5 = .ok (.bipush 16, 2) := by decide +kernel
theorem dX5_stretchOn_7 : decode cX5_stretchOn 7 = .ok (.iadd, 1) := by decide +kernel
theorem dX5_stretchOn_8 : decode cX5_stretchOn 8 = .ok (.iload_n 2, 1) := by decide +kernel
theorem dX5_stretchOn_9 : decode cX5_stretchOn 9 = .ok (.iadd, 1) := by decide +kernel
theorem dX5_stretchOn_10 : decode cX5_stretchOn 10 = .ok (.iaload, 1) := by decide +kernel
theorem dX5_stretchOn_11 : decode cX5_stretchOn 11 = .ok (.iload_n 2, 1) := by decide +kernel
theorem dX5_stretchOn_12 : decode cX5_stretchOn 12 = .ok (.ifCond .ne 7, 3) := by decide +kernel
theorem dX5_stretchOn_15 : decode cX5_stretchOn 15 = .ok (.iconst 0, 1) := by decide +kernel
theorem dX5_stretchOn_16 : decode cX5_stretchOn 16 = .ok (.goto 16, 3) := by decide +kernel
theorem dX5_stretchOn_19 : decode cX5_stretchOn 19 = .ok (.aload_n 0, 1) := by decide +kernel
theorem dX5_stretchOn_20 : decode cX5_stretchOn 20 = .ok (.getfield 7, 3) := by decide +kernel
theorem dX5_stretchOn_23 : decode cX5_stretchOn 23 = .ok (.iload_n 1, 1) := by decide +kernel
theorem dX5_stretchOn_24 : decode cX5_stretchOn 24 = .ok (.bipush 16, 2) := by decide +kernel
theorem dX5_stretchOn_26 : decode cX5_stretchOn 26 = .ok (.iadd, 1) := by decide +kernel
theorem dX5_stretchOn_27 : decode cX5_stretchOn 27 = .ok (.iload_n 2, 1) := by decide +kernel
theorem dX5_stretchOn_28 : decode cX5_stretchOn 28 = .ok (.iadd, 1) := by decide +kernel
theorem dX5_stretchOn_29 : decode cX5_stretchOn 29 = .ok (.iconst 1, 1) := by decide +kernel
theorem dX5_stretchOn_30 : decode cX5_stretchOn 30 = .ok (.isub, 1) := by decide +kernel
theorem dX5_stretchOn_31 : decode cX5_stretchOn 31 = .ok (.iaload, 1) := by decide +kernel
theorem dX5_stretchOn_32 : decode cX5_stretchOn 32 = .ok (.isub, 1) := by decide +kernel
theorem dX5_stretchOn_33 : decode cX5_stretchOn 33 = .ok (.aload_n 0, 1) := by decide +kernel
theorem dX5_stretchOn_34 : decode cX5_stretchOn 34 = .ok (.getfield 7, 3) := by decide +kernel
theorem dX5_stretchOn_37 : decode cX5_stretchOn 37 = .ok (.iload_n 1, 1) := by decide +kernel
theorem dX5_stretchOn_38 : decode cX5_stretchOn 38 = .ok (.iconst 4, 1) := by decide +kernel
theorem dX5_stretchOn_39 : decode cX5_stretchOn 39 = .ok (.iadd, 1) := by decide +kernel
theorem dX5_stretchOn_40 : decode cX5_stretchOn 40 = .ok (.iload_n 2, 1) := by decide +kernel
theorem dX5_stretchOn_41 : decode cX5_stretchOn 41 = .ok (.iadd, 1) := by decide +kernel
theorem dX5_stretchOn_42 : decode cX5_stretchOn 42 = .ok (.iaload, 1) := by decide +kernel
theorem dX5_stretchOn_43 : decode cX5_stretchOn 43 = .ok (.isub, 1) := by decide +kernel
theorem dX5_stretchOn_44 : decode cX5_stretchOn 44 = .ok (.ireturn, 1) := by decide +kernel
theorem dX5_pullOn_0 : decode cX5_pullOn 0 = .ok (.aload_n 0, 1) := by decide +kernel
theorem dX5_pullOn_1 : decode cX5_pullOn 1 = .ok (.iload_n 1, 1) := by decide +kernel
theorem dX5_pullOn_2 : decode cX5_pullOn 2 = .ok (.iload_n 2, 1) := by decide +kernel
theorem dX5_pullOn_3 : decode cX5_pullOn 3 = .ok (.invokevirtual 125, 3) := by decide +kernel
theorem dX5_pullOn_6 : decode cX5_pullOn 6 = .ok (.istore_n 3, 1) := by decide +kernel
theorem dX5_pullOn_7 : decode cX5_pullOn 7 = .ok (.aload_n 0, 1) := by decide +kernel
theorem dX5_pullOn_8 : decode cX5_pullOn 8 = .ok (.getfield 7, 3) := by decide +kernel
theorem dX5_pullOn_11 : decode cX5_pullOn 11 = .ok (.iload_n 1, 1) := by decide +kernel
theorem dX5_pullOn_12 : decode cX5_pullOn 12 = .ok (.iload_n 2, 1) := by decide +kernel
theorem dX5_pullOn_13 : decode cX5_pullOn 13 = .ok (.iadd, 1) := by decide +kernel
theorem dX5_pullOn_14 : decode cX5_pullOn 14 = .ok (.iaload, 1) := by decide +kernel
theorem dX5_pullOn_15 : decode cX5_pullOn 15 = .ok (.istore 4, 2) := by decide +kernel
theorem dX5_pullOn_17 : decode cX5_pullOn 17 = .ok (.iload 4, 2) := by decide +kernel
theorem dX5_pullOn_19 : decode cX5_pullOn 19 = .ok (.iconst 1, 1) := by decide +kernel
theorem dX5_pullOn_20 : decode cX5_pullOn 20 = .ok (.if_icmp .ne 7, 3) := by decide +kernel
theorem dX5_pullOn_23 : decode cX5_pullOn 23 = .ok (.iload_n 3, 1) := by decide +kernel
theorem dX5_pullOn_24 : decode cX5_pullOn 24 = .ok (.ifCond .lt 33, 3) := by decide +kernel
theorem dX5_pullOn_27 : decode cX5_pullOn 27 = .ok (.iload 4, 2) := by decide +kernel
theorem dX5_pullOn_29 : decode cX5_pullOn 29 = .ok (.iconst 2, 1) := by decide +kernel
theorem dX5_pullOn_30 : decode cX5_pullOn 30 = .ok (.if_icmp .ne 7, 3) := by decide +kernel
theorem dX5_pullOn_33 : decode cX5_pullOn 33 = .ok (.iload_n 3, 1) := by decide +kernel
theorem dX5_pullOn_34 : decode cX5_pullOn 34 = .ok (.ifCond .gt 23, 3) := by decide +kernel
theorem dX5_pullOn_37 : decode cX5_pullOn 37 = .ok (.iload 4, 2) := by decide +kernel
theorem dX5_pullOn_39 : decode cX5_pullOn 39 = .ok (.iconst 3, 1) := by decide +kernel
theorem dX5_pullOn_40 : decode cX5_pullOn 40 = .ok (.if_icmp .ne 21, 3) := by decide +kernel
theorem dX5_pullOn_43 : decode cX5_pullOn 43 = .ok (.iload_n 3, 1) := by decide +kernel
theorem dX5_pullOn_44 : decode cX5_pullOn 44 = .ok (.i2l, 1) := by decide +kernel
theorem dX5_pullOn_45 : decode cX5_pullOn 45 = .ok (.ldc2_w 128, 3) := by decide +kernel
theorem dX5_pullOn_48 : decode cX5_pullOn 48 = .ok (.ldc2_w 130, 3) := by decide +kernel
theorem dX5_pullOn_51 : decode cX5_pullOn 51 = .ok (.invokestatic 53, 3) := by decide +kernel
theorem dX5_pullOn_54 : decode cX5_pullOn 54 = .ok (.ifCond .eq 7, 3) := by decide +kernel
theorem dX5_pullOn_57 : decode cX5_pullOn 57 = .ok (.iconst 1, 1) := by decide +kernel
theorem dX5_pullOn_58 : decode cX5_pullOn 58 = .ok (.goto 4, 3) := by decide +kernel
theorem dX5_pullOn_61 : decode cX5_pullOn 61 = .ok (.iconst 0, 1) := by decide +kernel
theorem dX5_pullOn_62 : decode cX5_pullOn 62 = .ok (.istore 5, 2) := by decide +kernel
theorem dX5_pullOn_64 : decode cX5_pullOn 64 = .ok (.iload 5, 2) := by decide +kernel
theorem dX5_pullOn_66 : decode cX5_pullOn 66 = .ok (.ifCond .eq 7, 3) := by decide +kernel
theorem dX5_pullOn_69 : decode cX5_pullOn 69 = .ok (.iconst 0, 1) := by decide +kernel
theorem dX5_pullOn_70 : decode cX5_pullOn 70 = .ok (.goto 16, 3) := by decide +kernel
theorem dX5_pullOn_73 : decode cX5_pullOn 73 = .ok (.aload_n 0, 1) := by decide +kernel
theorem dX5_pullOn_74 : decode cX5_pullOn 74 = .ok (.getfield 7, 3) := by decide +kernel
theorem dX5_pullOn_77 : decode cX5_pullOn 77 = .ok (.iload_n 1, 1) := by decide +kernel
theorem dX5_pullOn_78 : decode cX5_pullOn 78 = .ok (.bipush 8, 2) := by decide +kernel
theorem dX5_pullOn_80 : decode cX5_pullOn 80 = .ok (.iadd, 1) := by decide +kernel
theorem dX5_pullOn_81 : decode cX5_pullOn 81 = .ok (.iload_n 2, 1) := by decide +kernel
theorem dX5_pullOn_82 : decode cX5_pullOn 82 = .ok (.iadd, 1) := by decide +kernel
theorem dX5_pullOn_83 : decode cX5_pullOn 83 = .ok (.iaload, 1) := by decide +kernel
theorem dX5_pullOn_84 : decode cX5_pullOn 84 = .ok (.iload_n 3, 1) := by decide +kernel
theorem dX5_pullOn_85 : decode cX5_pullOn 85 = .ok (.imul, 1) := by decide +kernel
theorem dX5_pullOn_86 : decode cX5_pullOn 86 = .ok (.ireturn, 1) := by decide +kernel
theorem dX5_speedOf_0 : decode cX5_speedOf 0 = .ok (.iload_n 0, 1) := by decide +kernel
theorem dX5_speedOf_1 : decode cX5_speedOf 1 = .ok (.bipush 40, 2) := by decide +kernel
theorem dX5_speedOf_3 : decode cX5_speedOf 3 = .ok (.if_icmp .le 8, 3) := by decide +kernel
theorem dX5_speedOf_6 : decode cX5_speedOf 6 = .ok (.bipush 40, 2) := by decide +kernel
theorem dX5_speedOf_8 : decode cX5_speedOf 8 = .ok (.goto 15, 3) := by decide +kernel
theorem dX5_speedOf_11 : decode cX5_speedOf 11 = .ok (.iload_n 0, 1) := by decide +kernel
theorem dX5_speedOf_12 : decode cX5_speedOf 12 = .ok (.bipush (-40), 2) := by decide +kernel
theorem dX5_speedOf_14 : decode cX5_speedOf 14 = .ok (.if_icmp .ge 8, 3) := by decide +kernel
theorem dX5_speedOf_17 : decode cX5_speedOf 17 = .ok (.bipush (-40), 2) := by decide +kernel
theorem dX5_speedOf_19 : decode cX5_speedOf 19 = .ok (.goto 4, 3) := by decide +kernel
theorem dX5_speedOf_22 : decode cX5_speedOf 22 = .ok (.iload_n 0, 1) := by decide +kernel
theorem dX5_speedOf_23 : decode cX5_speedOf 23 = .ok (.ireturn, 1) := by decide +kernel
theorem dX5_knockOn_0 : decode cX5_knockOn 0 = .ok (.iload_n 2, 1) := by decide +kernel
theorem dX5_knockOn_1 : decode cX5_knockOn 1 = .ok (.aload_n 0, 1) := by decide +kernel
theorem dX5_knockOn_2 : decode cX5_knockOn 2 = .ok (.getfield 7, 3) := by decide +kernel
theorem dX5_knockOn_5 : decode cX5_knockOn 5 = .ok (.iload_n 1, 1) := by decide +kernel
theorem dX5_knockOn_6 : decode cX5_knockOn 6 = .ok (.bipush 24, 2) := by decide +kernel
theorem dX5_knockOn_8 : decode cX5_knockOn 8 = .ok (.iadd, 1) := by decide +kernel
theorem dX5_knockOn_9 : decode cX5_knockOn 9 = .ok (.iaload, 1) := by decide +kernel
theorem dX5_knockOn_10 : decode cX5_knockOn 10 = .ok (.if_icmp .ge 30, 3) := by decide +kernel
theorem dX5_knockOn_13 : decode cX5_knockOn 13 = .ok (.aload_n 0, 1) := by decide +kernel
theorem dX5_knockOn_14 : decode cX5_knockOn 14 = .ok (.getfield 7, 3) := by decide +kernel
theorem dX5_knockOn_17 : decode cX5_knockOn 17 = .ok (.iload_n 1, 1) := by decide +kernel
theorem dX5_knockOn_18 : decode cX5_knockOn 18 = .ok (.bipush 20, 2) := by decide +kernel
theorem dX5_knockOn_20 : decode cX5_knockOn 20 = .ok (.iadd, 1) := by decide +kernel
theorem dX5_knockOn_21 : decode cX5_knockOn 21 = .ok (.iload_n 2, 1) := by decide +kernel
theorem dX5_knockOn_22 : decode cX5_knockOn 22 = .ok (.iadd, 1) := by decide +kernel
theorem dX5_knockOn_23 : decode cX5_knockOn 23 = .ok (.aload_n 0, 1) := by decide +kernel
theorem dX5_knockOn_24 : decode cX5_knockOn 24 = .ok (.getfield 7, 3) := by decide +kernel
theorem dX5_knockOn_27 : decode cX5_knockOn 27 = .ok (.iload_n 1, 1) := by decide +kernel
theorem dX5_knockOn_28 : decode cX5_knockOn 28 = .ok (.bipush 20, 2) := by decide +kernel
theorem dX5_knockOn_30 : decode cX5_knockOn 30 = .ok (.iadd, 1) := by decide +kernel
theorem dX5_knockOn_31 : decode cX5_knockOn 31 = .ok (.iload_n 2, 1) := by decide +kernel
theorem dX5_knockOn_32 : decode cX5_knockOn 32 = .ok (.iadd, 1) := by decide +kernel
theorem dX5_knockOn_33 : decode cX5_knockOn 33 = .ok (.iaload, 1) := by decide +kernel
theorem dX5_knockOn_34 : decode cX5_knockOn 34 = .ok (.iload_n 3, 1) := by decide +kernel
theorem dX5_knockOn_35 : decode cX5_knockOn 35 = .ok (.iadd, 1) := by decide +kernel
theorem dX5_knockOn_36 : decode cX5_knockOn 36 = .ok (.invokestatic 132, 3) := by decide +kernel
theorem dX5_knockOn_39 : decode cX5_knockOn 39 = .ok (.iastore, 1) := by decide +kernel
theorem dX5_knockOn_40 : decode cX5_knockOn 40 = .ok (.return_, 1) := by decide +kernel
theorem dX5_speedsOn_0 : decode cX5_speedsOn 0 = .ok (.aload_n 0, 1) := by decide +kernel
theorem dX5_speedsOn_1 : decode cX5_speedsOn 1 = .ok (.getfield 7, 3) := by decide +kernel
theorem dX5_speedsOn_4 : decode cX5_speedsOn 4 = .ok (.iload_n 1, 1) := by decide +kernel
theorem dX5_speedsOn_5 : decode cX5_speedsOn 5 = .ok (.bipush 24, 2) := by decide +kernel
theorem dX5_speedsOn_7 : decode cX5_speedsOn 7 = .ok (.iadd, 1) := by decide +kernel
theorem dX5_speedsOn_8 : decode cX5_speedsOn 8 = .ok (.iaload, 1) := by decide +kernel
theorem dX5_speedsOn_9 : decode cX5_speedsOn 9 = .ok (.istore_n 2, 1) := by decide +kernel
theorem dX5_speedsOn_10 : decode cX5_speedsOn 10 = .ok (.aload_n 0, 1) := by decide +kernel
theorem dX5_speedsOn_11 : decode cX5_speedsOn 11 = .ok (.getfield 7, 3) := by decide +kernel
theorem dX5_speedsOn_14 : decode cX5_speedsOn 14 = .ok (.iload_n 1, 1) := by decide +kernel
theorem dX5_speedsOn_15 : decode cX5_speedsOn 15 = .ok (.bipush 50, 2) := by decide +kernel
theorem dX5_speedsOn_17 : decode cX5_speedsOn 17 = .ok (.iadd, 1) := by decide +kernel
theorem dX5_speedsOn_18 : decode cX5_speedsOn 18 = .ok (.iaload, 1) := by decide +kernel
theorem dX5_speedsOn_19 : decode cX5_speedsOn 19 = .ok (.istore_n 3, 1) := by decide +kernel
theorem dX5_speedsOn_20 : decode cX5_speedsOn 20 = .ok (.iconst 0, 1) := by decide +kernel
theorem dX5_speedsOn_21 : decode cX5_speedsOn 21 = .ok (.istore 4, 2) := by decide +kernel
theorem dX5_speedsOn_23 : decode cX5_speedsOn 23 = .ok (.iload 4, 2) := by decide +kernel
theorem dX5_speedsOn_25 : decode cX5_speedsOn 25 = .ok (.iload_n 2, 1) := by decide +kernel
theorem dX5_speedsOn_26 : decode cX5_speedsOn 26 = .ok (.if_icmp .ge 120, 3) := by decide +kernel
theorem dX5_speedsOn_29 : decode cX5_speedsOn 29 = .ok (.iload 4, 2) := by decide +kernel
theorem dX5_speedsOn_31 : decode cX5_speedsOn 31 = .ok (.iconst 1, 1) := by decide +kernel
theorem dX5_speedsOn_32 : decode cX5_speedsOn 32 = .ok (.iadd, 1) := by decide +kernel
theorem dX5_speedsOn_33 : decode cX5_speedsOn 33 = .ok (.iload_n 2, 1) := by decide +kernel
theorem dX5_speedsOn_34 : decode cX5_speedsOn 34 = .ok (.if_icmp .ge 15, 3) := by decide +kernel
theorem dX5_speedsOn_37 : decode cX5_speedsOn 37 = .ok (.aload_n 0, 1) := by decide +kernel
theorem dX5_speedsOn_38 : decode cX5_speedsOn 38 = .ok (.iload_n 1, 1) := by decide +kernel
theorem dX5_speedsOn_39 : decode cX5_speedsOn 39 = .ok (.iload 4, 2) := by decide +kernel
theorem dX5_speedsOn_41 : decode cX5_speedsOn 41 = .ok (.iconst 1, 1) := by decide +kernel
theorem dX5_speedsOn_42 : decode cX5_speedsOn 42 = .ok (.iadd, 1) := by decide +kernel
theorem dX5_speedsOn_43 : decode cX5_speedsOn 43 = .ok (.invokevirtual 135, 3) := by decide +kernel
theorem dX5_speedsOn_46 : decode cX5_speedsOn 46 = .ok (.goto 4, 3) := by decide +kernel
theorem dX5_speedsOn_49 : decode cX5_speedsOn 49 = .ok (.iconst 0, 1) := by decide +kernel
theorem dX5_speedsOn_50 : decode cX5_speedsOn 50 = .ok (.aload_n 0, 1) := by decide +kernel
theorem dX5_speedsOn_51 : decode cX5_speedsOn 51 = .ok (.iload_n 1, 1) := by decide +kernel
theorem dX5_speedsOn_52 : decode cX5_speedsOn 52 = .ok (.iload 4, 2) := by decide +kernel
theorem dX5_speedsOn_54 : decode cX5_speedsOn 54 = .ok (.invokevirtual 135, 3) := by decide +kernel
theorem dX5_speedsOn_57 : decode cX5_speedsOn 57 = .ok (.isub, 1) := by decide +kernel
theorem dX5_speedsOn_58 : decode cX5_speedsOn 58 = .ok (.bipush 10, 2) := by decide +kernel
theorem dX5_speedsOn_60 : decode cX5_speedsOn 60 = .ok (.aload_n 0, 1) := by decide +kernel
theorem dX5_speedsOn_61 : decode cX5_speedsOn 61 = .ok (.getfield 7, 3) := by decide +kernel
theorem dX5_speedsOn_64 : decode cX5_speedsOn 64 = .ok (.iload_n 1, 1) := by decide +kernel
theorem dX5_speedsOn_65 : decode cX5_speedsOn 65 = .ok (.bipush 12, 2) := by decide +kernel
theorem dX5_speedsOn_67 : decode cX5_speedsOn 67 = .ok (.iadd, 1) := by decide +kernel
theorem dX5_speedsOn_68 : decode cX5_speedsOn 68 = .ok (.iload 4, 2) := by decide +kernel
theorem dX5_speedsOn_70 : decode cX5_speedsOn 70 = .ok (.iadd, 1) := by decide +kernel
theorem dX5_speedsOn_71 : decode cX5_speedsOn 71 = .ok (.iaload, 1) := by decide +kernel
theorem dX5_speedsOn_72 : decode cX5_speedsOn 72 = .ok (.imul, 1) := by decide +kernel
theorem dX5_speedsOn_73 : decode cX5_speedsOn 73 = .ok (.idiv, 1) := by decide +kernel
theorem dX5_speedsOn_74 : decode cX5_speedsOn 74 = .ok (.istore 5, 2) := by decide +kernel
theorem dX5_speedsOn_76 : decode cX5_speedsOn 76 = .ok (.aload_n 0, 1) := by decide +kernel
theorem dX5_speedsOn_77 : decode cX5_speedsOn 77 = .ok (.getfield 7, 3) := by decide +kernel
theorem dX5_speedsOn_80 : decode cX5_speedsOn 80 = .ok (.iload_n 1, 1) := by decide +kernel
theorem dX5_speedsOn_81 : decode cX5_speedsOn 81 = .ok (.bipush 20, 2) := by decide +kernel
theorem dX5_speedsOn_83 : decode cX5_speedsOn 83 = .ok (.iadd, 1) := by decide +kernel
theorem dX5_speedsOn_84 : decode cX5_speedsOn 84 = .ok (.iload 4, 2) := by decide +kernel
theorem dX5_speedsOn_86 : decode cX5_speedsOn 86 = .ok (.iadd, 1) := by decide +kernel
theorem dX5_speedsOn_87 : decode cX5_speedsOn 87 = .ok (.iaload, 1) := by decide +kernel
theorem dX5_speedsOn_88 : decode cX5_speedsOn 88 = .ok (.iload 5, 2) := by decide +kernel
theorem dX5_speedsOn_90 : decode cX5_speedsOn 90 = .ok (.iadd, 1) := by decide +kernel
theorem dX5_speedsOn_91 : decode cX5_speedsOn 91 = .ok (.istore 6, 2) := by decide +kernel
theorem dX5_speedsOn_93 : decode cX5_speedsOn 93 = .ok (.iload 6, 2) := by decide +kernel
theorem dX5_speedsOn_95 : decode cX5_speedsOn 95 = .ok (.iload_n 3, 1) := by decide +kernel
theorem dX5_speedsOn_96 : decode cX5_speedsOn 96 = .ok (.if_icmp .le 10, 3) := by decide +kernel
theorem dX5_speedsOn_99 : decode cX5_speedsOn 99 = .ok (.iload 6, 2) := by decide +kernel
theorem dX5_speedsOn_101 : decode cX5_speedsOn 101 = .ok (.iload_n 3, 1) := by decide +kernel
theorem dX5_speedsOn_102 : decode cX5_speedsOn 102 = .ok (.isub, 1) := by decide +kernel
theorem dX5_speedsOn_103 : decode cX5_speedsOn 103 = .ok (.goto 18, 3) := by decide +kernel
theorem dX5_speedsOn_106 : decode cX5_speedsOn 106 = .ok (.iload 6, 2) := by decide +kernel
theorem dX5_speedsOn_108 : decode cX5_speedsOn 108 = .ok (.iload_n 3, 1) := by decide +kernel
theorem dX5_speedsOn_109 : decode cX5_speedsOn 109 = .ok (.ineg, 1) := by decide +kernel
theorem dX5_speedsOn_110 : decode cX5_speedsOn 110 = .ok (.if_icmp .ge 10, 3) := by decide +kernel
theorem dX5_speedsOn_113 : decode cX5_speedsOn 113 = .ok (.iload 6, 2) := by decide +kernel
theorem dX5_speedsOn_115 : decode cX5_speedsOn 115 = .ok (.iload_n 3, 1) := by decide +kernel
theorem dX5_speedsOn_116 : decode cX5_speedsOn 116 = .ok (.iadd, 1) := by decide +kernel
theorem dX5_speedsOn_117 : decode cX5_speedsOn 117 = .ok (.goto 4, 3) := by decide +kernel
theorem dX5_speedsOn_120 : decode cX5_speedsOn 120 = .ok (.iconst 0, 1) := by decide +kernel
theorem dX5_speedsOn_121 : decode cX5_speedsOn 121 = .ok (.istore 6, 2) := by decide +kernel
theorem dX5_speedsOn_123 : decode cX5_speedsOn 123 = .ok (.aload_n 0, 1) := by decide +kernel
theorem dX5_speedsOn_124 : decode cX5_speedsOn 124 = .ok (.getfield 7, 3) := by decide +kernel
theorem dX5_speedsOn_127 : decode cX5_speedsOn 127 = .ok (.iload_n 1, 1) := by decide +kernel
theorem dX5_speedsOn_128 : decode cX5_speedsOn 128 = .ok (.bipush 20, 2) := by decide +kernel
theorem dX5_speedsOn_130 : decode cX5_speedsOn 130 = .ok (.iadd, 1) := by decide +kernel
theorem dX5_speedsOn_131 : decode cX5_speedsOn 131 = .ok (.iload 4, 2) := by decide +kernel
theorem dX5_speedsOn_133 : decode cX5_speedsOn 133 = .ok (.iadd, 1) := by decide +kernel
theorem dX5_speedsOn_134 : decode cX5_speedsOn 134 = .ok (.iload 6, 2) := by decide +kernel
theorem dX5_speedsOn_136 : decode cX5_speedsOn 136 = .ok (.invokestatic 132, 3) := by decide +kernel
theorem dX5_speedsOn_139 : decode cX5_speedsOn 139 = .ok (.iastore, 1) := by decide +kernel
theorem dX5_speedsOn_140 : decode cX5_speedsOn 140 = .ok (.iinc 4 1, 3) := by decide +kernel
theorem dX5_speedsOn_143 : decode cX5_speedsOn 143 = .ok (.goto (-120), 3) := by decide +kernel
theorem dX5_speedsOn_146 : decode cX5_speedsOn 146 = .ok (.return_, 1) := by decide +kernel
theorem dX5_placesOn_0 : decode cX5_placesOn 0 = .ok (.iconst 0, 1) := by decide +kernel
theorem dX5_placesOn_1 : decode cX5_placesOn 1 = .ok (.istore_n 2, 1) := by decide +kernel
theorem dX5_placesOn_2 : decode cX5_placesOn 2 = .ok (.iload_n 2, 1) := by decide +kernel
theorem dX5_placesOn_3 : decode cX5_placesOn 3 = .ok (.aload_n 0, 1) := by decide +kernel
theorem dX5_placesOn_4 : decode cX5_placesOn 4 = .ok (.getfield 7, 3) := by decide +kernel
theorem dX5_placesOn_7 : decode cX5_placesOn 7 = .ok (.iload_n 1, 1) := by decide +kernel
theorem dX5_placesOn_8 : decode cX5_placesOn 8 = .ok (.bipush 24, 2) := by decide +kernel
theorem dX5_placesOn_10 : decode cX5_placesOn 10 = .ok (.iadd, 1) := by decide +kernel
theorem dX5_placesOn_11 : decode cX5_placesOn 11 = .ok (.iaload, 1) := by decide +kernel
theorem dX5_placesOn_12 : decode cX5_placesOn 12 = .ok (.if_icmp .ge 114, 3) := by decide +kernel
theorem dX5_placesOn_15 : decode cX5_placesOn 15 = .ok (.aload_n 0, 1) := by decide +kernel
theorem dX5_placesOn_16 : decode cX5_placesOn 16 = .ok (.getfield 7, 3) := by decide +kernel
theorem dX5_placesOn_19 : decode cX5_placesOn 19 = .ok (.iload_n 1, 1) := by decide +kernel
theorem dX5_placesOn_20 : decode cX5_placesOn 20 = .ok (.bipush 16, 2) := by decide +kernel
theorem dX5_placesOn_22 : decode cX5_placesOn 22 = .ok (.iadd, 1) := by decide +kernel
theorem dX5_placesOn_23 : decode cX5_placesOn 23 = .ok (.iload_n 2, 1) := by decide +kernel
theorem dX5_placesOn_24 : decode cX5_placesOn 24 = .ok (.iadd, 1) := by decide +kernel
theorem dX5_placesOn_25 : decode cX5_placesOn 25 = .ok (.iaload, 1) := by decide +kernel
theorem dX5_placesOn_26 : decode cX5_placesOn 26 = .ok (.istore_n 3, 1) := by decide +kernel
theorem dX5_placesOn_27 : decode cX5_placesOn 27 = .ok (.iload_n 3, 1) := by decide +kernel
theorem dX5_placesOn_28 : decode cX5_placesOn 28 = .ok (.aload_n 0, 1) := by decide +kernel
theorem dX5_placesOn_29 : decode cX5_placesOn 29 = .ok (.getfield 7, 3) := by decide +kernel
theorem dX5_placesOn_32 : decode cX5_placesOn 32 = .ok (.iload_n 1, 1) := by decide +kernel
theorem dX5_placesOn_33 : decode cX5_placesOn 33 = .ok (.bipush 20, 2) := by decide +kernel
theorem dX5_placesOn_35 : decode cX5_placesOn 35 = .ok (.iadd, 1) := by decide +kernel
theorem dX5_placesOn_36 : decode cX5_placesOn 36 = .ok (.iload_n 2, 1) := by decide +kernel
theorem dX5_placesOn_37 : decode cX5_placesOn 37 = .ok (.iadd, 1) := by decide +kernel
theorem dX5_placesOn_38 : decode cX5_placesOn 38 = .ok (.iaload, 1) := by decide +kernel
theorem dX5_placesOn_39 : decode cX5_placesOn 39 = .ok (.iadd, 1) := by decide +kernel
theorem dX5_placesOn_40 : decode cX5_placesOn 40 = .ok (.istore 4, 2) := by decide +kernel
theorem dX5_placesOn_42 : decode cX5_placesOn 42 = .ok (.iload 4, 2) := by decide +kernel
theorem dX5_placesOn_44 : decode cX5_placesOn 44 = .ok (.i2l, 1) := by decide +kernel
theorem dX5_placesOn_45 : decode cX5_placesOn 45 = .ok (.lconst 0, 1) := by decide +kernel
theorem dX5_placesOn_46 : decode cX5_placesOn 46 = .ok (.ldc2_w 138, 3) := by decide +kernel
theorem dX5_placesOn_49 : decode cX5_placesOn 49 = .ok (.invokestatic 53, 3) := by decide +kernel
theorem dX5_placesOn_52 : decode cX5_placesOn 52 = .ok (.ifCond .ne 39, 3) := by decide +kernel
theorem dX5_placesOn_55 : decode cX5_placesOn 55 = .ok (.iload 4, 2) := by decide +kernel
theorem dX5_placesOn_57 : decode cX5_placesOn 57 = .ok (.ifCond .ge 7, 3) := by decide +kernel
theorem dX5_placesOn_60 : decode cX5_placesOn 60 = .ok (.iconst 0, 1) := by decide +kernel
theorem dX5_placesOn_61 : decode cX5_placesOn 61 = .ok (.goto 6, 3) := by decide +kernel
theorem dX5_placesOn_64 : decode cX5_placesOn 64 = .ok (.sipush 300, 3) := by decide +kernel
theorem dX5_placesOn_67 : decode cX5_placesOn 67 = .ok (.istore 4, 2) := by decide +kernel
theorem dX5_placesOn_69 : decode cX5_placesOn 69 = .ok (.aload_n 0, 1) := by decide +kernel
theorem dX5_placesOn_70 : decode cX5_placesOn 70 = .ok (.getfield 7, 3) := by decide +kernel
theorem dX5_placesOn_73 : decode cX5_placesOn 73 = .ok (.iload_n 1, 1) := by decide +kernel
theorem dX5_placesOn_74 : decode cX5_placesOn 74 = .ok (.bipush 20, 2) := by decide +kernel
theorem dX5_placesOn_76 : decode cX5_placesOn 76 = .ok (.iadd, 1) := by decide +kernel
theorem dX5_placesOn_77 : decode cX5_placesOn 77 = .ok (.iload_n 2, 1) := by decide +kernel
theorem dX5_placesOn_78 : decode cX5_placesOn 78 = .ok (.iadd, 1) := by decide +kernel
theorem dX5_placesOn_79 : decode cX5_placesOn 79 = .ok (.iconst 0, 1) := by decide +kernel
theorem dX5_placesOn_80 : decode cX5_placesOn 80 = .ok (.iastore, 1) := by decide +kernel
theorem dX5_placesOn_81 : decode cX5_placesOn 81 = .ok (.aload_n 0, 1) := by decide +kernel
theorem dX5_placesOn_82 : decode cX5_placesOn 82 = .ok (.dup, 1) := by decide +kernel
theorem dX5_placesOn_83 : decode cX5_placesOn 83 = .ok (.getfield 140, 3) := by decide +kernel
theorem dX5_placesOn_86 : decode cX5_placesOn 86 = .ok (.iconst 1, 1) := by decide +kernel
theorem dX5_placesOn_87 : decode cX5_placesOn 87 = .ok (.iadd, 1) := by decide +kernel
theorem dX5_placesOn_88 : decode cX5_placesOn 88 = .ok (.putfield 140, 3) := by decide +kernel
theorem dX5_placesOn_91 : decode cX5_placesOn 91 = .ok (.aload_n 0, 1) := by decide +kernel
theorem dX5_placesOn_92 : decode cX5_placesOn 92 = .ok (.getfield 7, 3) := by decide +kernel
theorem dX5_placesOn_95 : decode cX5_placesOn 95 = .ok (.iload_n 1, 1) := by decide +kernel
theorem dX5_placesOn_96 : decode cX5_placesOn 96 = .ok (.bipush 16, 2) := by decide +kernel
theorem dX5_placesOn_98 : decode cX5_placesOn 98 = .ok (.iadd, 1) := by decide +kernel
theorem dX5_placesOn_99 : decode cX5_placesOn 99 = .ok (.iload_n 2, 1) := by decide +kernel
theorem dX5_placesOn_100 : decode cX5_placesOn 100 = .ok (.iadd, 1) := by decide +kernel
theorem dX5_placesOn_101 : decode cX5_placesOn 101 = .ok (.iload 4, 2) := by decide +kernel
theorem dX5_placesOn_103 : decode cX5_placesOn 103 = .ok (.iastore, 1) := by decide +kernel
theorem dX5_placesOn_104 : decode cX5_placesOn 104 = .ok (.aload_n 0, 1) := by decide +kernel
theorem dX5_placesOn_105 : decode cX5_placesOn 105 = .ok (.dup, 1) := by decide +kernel
theorem dX5_placesOn_106 : decode cX5_placesOn 106 = .ok (.getfield 143, 3) := by decide +kernel
theorem dX5_placesOn_109 : decode cX5_placesOn 109 = .ok (.iload 4, 2) := by decide +kernel
theorem dX5_placesOn_111 : decode cX5_placesOn 111 = .ok (.iload_n 3, 1) := by decide +kernel
theorem dX5_placesOn_112 : decode cX5_placesOn 112 = .ok (.isub, 1) := by decide +kernel
theorem dX5_placesOn_113 : decode cX5_placesOn 113 = .ok (.invokestatic 146, 3) := by decide +kernel
theorem dX5_placesOn_116 : decode cX5_placesOn 116 = .ok (.iadd, 1) := by decide +kernel
theorem dX5_placesOn_117 : decode cX5_placesOn 117 = .ok (.putfield 143, 3) := by decide +kernel
theorem dX5_placesOn_120 : decode cX5_placesOn 120 = .ok (.iinc 2 1, 3) := by decide +kernel
theorem dX5_placesOn_123 : decode cX5_placesOn 123 = .ok (.goto (-121), 3) := by decide +kernel
theorem dX5_placesOn_126 : decode cX5_placesOn 126 = .ok (.aload_n 0, 1) := by decide +kernel
theorem dX5_placesOn_127 : decode cX5_placesOn 127 = .ok (.getfield 7, 3) := by decide +kernel
theorem dX5_placesOn_130 : decode cX5_placesOn 130 = .ok (.iload_n 1, 1) := by decide +kernel
theorem dX5_placesOn_131 : decode cX5_placesOn 131 = .ok (.bipush 51, 2) := by decide +kernel
theorem dX5_placesOn_133 : decode cX5_placesOn 133 = .ok (.iadd, 1) := by decide +kernel
theorem dX5_placesOn_134 : decode cX5_placesOn 134 = .ok (.dup2, 1) := by decide +kernel
theorem dX5_placesOn_135 : decode cX5_placesOn 135 = .ok (.iaload, 1) := by decide +kernel
theorem dX5_placesOn_136 : decode cX5_placesOn 136 = .ok (.iconst 1, 1) := by decide +kernel
theorem dX5_placesOn_137 : decode cX5_placesOn 137 = .ok (.iadd, 1) := by decide +kernel
theorem dX5_placesOn_138 : decode cX5_placesOn 138 = .ok (.iastore, 1) := by decide +kernel
theorem dX5_placesOn_139 : decode cX5_placesOn 139 = .ok (.return_, 1) := by decide +kernel
theorem dX5_lastOn_0 : decode cX5_lastOn 0 = .ok (.aload_n 0, 1) := by decide +kernel
theorem dX5_lastOn_1 : decode cX5_lastOn 1 = .ok (.getfield 7, 3) := by decide +kernel
theorem dX5_lastOn_4 : decode cX5_lastOn 4 = .ok (.iload_n 1, 1) := by decide +kernel
theorem dX5_lastOn_5 : decode cX5_lastOn 5 = .ok (.bipush 24, 2) := by decide +kernel
theorem dX5_lastOn_7 : decode cX5_lastOn 7 = .ok (.iadd, 1) := by decide +kernel
theorem dX5_lastOn_8 : decode cX5_lastOn 8 = .ok (.iaload, 1) := by decide +kernel
theorem dX5_lastOn_9 : decode cX5_lastOn 9 = .ok (.ifCond .ne 7, 3) := by decide +kernel
theorem dX5_lastOn_12 : decode cX5_lastOn 12 = .ok (.iconst 0, 1) := by decide +kernel
theorem dX5_lastOn_13 : decode cX5_lastOn 13 = .ok (.goto 24, 3) := by decide +kernel
theorem dX5_lastOn_16 : decode cX5_lastOn 16 = .ok (.aload_n 0, 1) := by decide +kernel
theorem dX5_lastOn_17 : decode cX5_lastOn 17 = .ok (.getfield 7, 3) := by decide +kernel
theorem dX5_lastOn_20 : decode cX5_lastOn 20 = .ok (.iload_n 1, 1) := by decide +kernel
theorem dX5_lastOn_21 : decode cX5_lastOn 21 = .ok (.bipush 16, 2) := by decide +kernel
theorem dX5_lastOn_23 : decode cX5_lastOn 23 = .ok (.iadd, 1) := by decide +kernel
theorem dX5_lastOn_24 : decode cX5_lastOn 24 = .ok (.aload_n 0, 1) := by decide +kernel
theorem dX5_lastOn_25 : decode cX5_lastOn 25 = .ok (.getfield 7, 3) := by decide +kernel
theorem dX5_lastOn_28 : decode cX5_lastOn 28 = .ok (.iload_n 1, 1) := by decide +kernel
theorem dX5_lastOn_29 : decode cX5_lastOn 29 = .ok (.bipush 24, 2) := by decide +kernel
theorem dX5_lastOn_31 : decode cX5_lastOn 31 = .ok (.iadd, 1) := by decide +kernel
theorem dX5_lastOn_32 : decode cX5_lastOn 32 = .ok (.iaload, 1) := by decide +kernel
theorem dX5_lastOn_33 : decode cX5_lastOn 33 = .ok (.iadd, 1) := by decide +kernel
theorem dX5_lastOn_34 : decode cX5_lastOn 34 = .ok (.iconst 1, 1) := by decide +kernel
theorem dX5_lastOn_35 : decode cX5_lastOn 35 = .ok (.isub, 1) := by decide +kernel
theorem dX5_lastOn_36 : decode cX5_lastOn 36 = .ok (.iaload, 1) := by decide +kernel
theorem dX5_lastOn_37 : decode cX5_lastOn 37 = .ok (.ireturn, 1) := by decide +kernel
theorem dX5_movesOn_0 : decode cX5_movesOn 0 = .ok (.iconst 0, 1) := by decide +kernel
theorem dX5_movesOn_1 : decode cX5_movesOn 1 = .ok (.istore_n 2, 1) := by decide +kernel
theorem dX5_movesOn_2 : decode cX5_movesOn 2 = .ok (.iload_n 2, 1) := by decide +kernel
theorem dX5_movesOn_3 : decode cX5_movesOn 3 = .ok (.iconst 4, 1) := by decide +kernel
theorem dX5_movesOn_4 : decode cX5_movesOn 4 = .ok (.if_icmp .ge 26, 3) := by decide +kernel
theorem dX5_movesOn_7 : decode cX5_movesOn 7 = .ok (.aload_n 0, 1) := by decide +kernel
theorem dX5_movesOn_8 : decode cX5_movesOn 8 = .ok (.getfield 25, 3) := by decide +kernel
theorem dX5_movesOn_11 : decode cX5_movesOn 11 = .ok (.iload_n 2, 1) := by decide +kernel
theorem dX5_movesOn_12 : decode cX5_movesOn 12 = .ok (.aload_n 0, 1) := by decide +kernel
theorem dX5_movesOn_13 : decode cX5_movesOn 13 = .ok (.getfield 7, 3) := by decide +kernel
theorem dX5_movesOn_16 : decode cX5_movesOn 16 = .ok (.iload_n 1, 1) := by decide +kernel
theorem dX5_movesOn_17 : decode cX5_movesOn 17 = .ok (.bipush 20, 2) := by decide +kernel
theorem dX5_movesOn_19 : decode cX5_movesOn 19 = .ok (.iadd, 1) := by decide +kernel
theorem dX5_movesOn_20 : decode cX5_movesOn 20 = .ok (.iload_n 2, 1) := by decide +kernel
theorem dX5_movesOn_21 : decode cX5_movesOn 21 = .ok (.iadd, 1) := by decide +kernel
theorem dX5_movesOn_22 : decode cX5_movesOn 22 = .ok (.iaload, 1) := by decide +kernel
theorem dX5_movesOn_23 : decode cX5_movesOn 23 = .ok (.iastore, 1) := by decide +kernel
theorem dX5_movesOn_24 : decode cX5_movesOn 24 = .ok (.iinc 2 1, 3) := by decide +kernel
theorem dX5_movesOn_27 : decode cX5_movesOn 27 = .ok (.goto (-25), 3) := by decide +kernel
theorem dX5_movesOn_30 : decode cX5_movesOn 30 = .ok (.aload_n 0, 1) := by decide +kernel
theorem dX5_movesOn_31 : decode cX5_movesOn 31 = .ok (.iload_n 1, 1) := by decide +kernel
theorem dX5_movesOn_32 : decode cX5_movesOn 32 = .ok (.invokevirtual 149, 3) := by decide +kernel
theorem dX5_movesOn_35 : decode cX5_movesOn 35 = .ok (.aload_n 0, 1) := by decide +kernel
theorem dX5_movesOn_36 : decode cX5_movesOn 36 = .ok (.iload_n 1, 1) := by decide +kernel
theorem dX5_movesOn_37 : decode cX5_movesOn 37 = .ok (.invokevirtual 152, 3) := by decide +kernel
theorem dX5_movesOn_40 : decode cX5_movesOn 40 = .ok (.aload_n 0, 1) := by decide +kernel
theorem dX5_movesOn_41 : decode cX5_movesOn 41 = .ok (.iconst 0, 1) := by decide +kernel
theorem dX5_movesOn_42 : decode cX5_movesOn 42 = .ok (.putfield 155, 3) := by decide +kernel
theorem dX5_movesOn_45 : decode cX5_movesOn 45 = .ok (.iconst 0, 1) := by decide +kernel
theorem dX5_movesOn_46 : decode cX5_movesOn 46 = .ok (.istore_n 2, 1) := by decide +kernel
theorem dX5_movesOn_47 : decode cX5_movesOn 47 = .ok (.iload_n 2, 1) := by decide +kernel
theorem dX5_movesOn_48 : decode cX5_movesOn 48 = .ok (.aload_n 0, 1) := by decide +kernel
theorem dX5_movesOn_49 : decode cX5_movesOn 49 = .ok (.getfield 7, 3) := by decide +kernel
theorem dX5_movesOn_52 : decode cX5_movesOn 52 = .ok (.iload_n 1, 1) := by decide +kernel
theorem dX5_movesOn_53 : decode cX5_movesOn 53 = .ok (.bipush 24, 2) := by decide +kernel
theorem dX5_movesOn_55 : decode cX5_movesOn 55 = .ok (.iadd, 1) := by decide +kernel
theorem dX5_movesOn_56 : decode cX5_movesOn 56 = .ok (.iaload, 1) := by decide +kernel
theorem dX5_movesOn_57 : decode cX5_movesOn 57 = .ok (.if_icmp .ge 45, 3) := by decide +kernel
theorem dX5_movesOn_60 : decode cX5_movesOn 60 = .ok (.aload_n 0, 1) := by decide +kernel
theorem dX5_movesOn_61 : decode cX5_movesOn 61 = .ok (.aload_n 0, 1) := by decide +kernel
theorem dX5_movesOn_62 : decode cX5_movesOn 62 = .ok (.getfield 155, 3) := by decide +kernel
theorem dX5_movesOn_65 : decode cX5_movesOn 65 = .ok (.ifCond .ne 23, 3) := by decide +kernel
theorem dX5_movesOn_68 : decode cX5_movesOn 68 = .ok (.aload_n 0, 1) := by decide +kernel
theorem dX5_movesOn_69 : decode cX5_movesOn 69 = .ok (.getfield 7, 3) := by decide +kernel
theorem dX5_movesOn_72 : decode cX5_movesOn 72 = .ok (.iload_n 1, 1) := by decide +kernel
theorem dX5_movesOn_73 : decode cX5_movesOn 73 = .ok (.bipush 20, 2) := by decide +kernel
theorem dX5_movesOn_75 : decode cX5_movesOn 75 = .ok (.iadd, 1) := by decide +kernel
theorem dX5_movesOn_76 : decode cX5_movesOn 76 = .ok (.iload_n 2, 1) := by decide +kernel
theorem dX5_movesOn_77 : decode cX5_movesOn 77 = .ok (.iadd, 1) := by decide +kernel
theorem dX5_movesOn_78 : decode cX5_movesOn 78 = .ok (.iaload, 1) := by decide +kernel
theorem dX5_movesOn_79 : decode cX5_movesOn 79 = .ok (.aload_n 0, 1) := by decide +kernel
theorem dX5_movesOn_80 : decode cX5_movesOn 80 = .ok (.getfield 25, 3) := by decide +kernel
theorem dX5_movesOn_83 : decode cX5_movesOn 83 = .ok (.iload_n 2, 1) := by decide +kernel
theorem dX5_movesOn_84 : decode cX5_movesOn 84 = .ok (.iaload, 1) := by decide +kernel
theorem dX5_movesOn_85 : decode cX5_movesOn 85 = .ok (.if_icmp .eq 7, 3) := by decide +kernel
theorem dX5_movesOn_88 : decode cX5_movesOn 88 = .ok (.iconst 1, 1) := by decide +kernel
theorem dX5_movesOn_89 : decode cX5_movesOn 89 = .ok (.goto 4, 3) := by decide +kernel
theorem dX5_movesOn_92 : decode cX5_movesOn 92 = .ok (.iconst 0, 1) := by decide +kernel
theorem dX5_movesOn_93 : decode cX5_movesOn 93 = .ok (.putfield 155, 3) := by decide +kernel
theorem dX5_movesOn_96 : decode cX5_movesOn 96 = .ok (.iinc 2 1, 3) := by decide +kernel
theorem dX5_movesOn_99 : decode cX5_movesOn 99 = .ok (.goto (-52), 3) := by decide +kernel
theorem dX5_movesOn_102 : decode cX5_movesOn 102 = .ok (.aload_n 0, 1) := by decide +kernel
theorem dX5_movesOn_103 : decode cX5_movesOn 103 = .ok (.iload_n 1, 1) := by decide +kernel
theorem dX5_movesOn_104 : decode cX5_movesOn 104 = .ok (.invokevirtual 158, 3) := by decide +kernel
theorem dX5_movesOn_107 : decode cX5_movesOn 107 = .ok (.aload_n 0, 1) := by decide +kernel
theorem dX5_movesOn_108 : decode cX5_movesOn 108 = .ok (.iconst 0, 1) := by decide +kernel
theorem dX5_movesOn_109 : decode cX5_movesOn 109 = .ok (.invokevirtual 158, 3) := by decide +kernel
theorem dX5_movesOn_112 : decode cX5_movesOn 112 = .ok (.isub, 1) := by decide +kernel
theorem dX5_movesOn_113 : decode cX5_movesOn 113 = .ok (.invokestatic 146, 3) := by decide +kernel
theorem dX5_movesOn_116 : decode cX5_movesOn 116 = .ok (.istore_n 2, 1) := by decide +kernel
theorem dX5_movesOn_117 : decode cX5_movesOn 117 = .ok (.aload_n 0, 1) := by decide +kernel
theorem dX5_movesOn_118 : decode cX5_movesOn 118 = .ok (.iload_n 2, 1) := by decide +kernel
theorem dX5_movesOn_119 : decode cX5_movesOn 119 = .ok (.aload_n 0, 1) := by decide +kernel
theorem dX5_movesOn_120 : decode cX5_movesOn 120 = .ok (.getfield 161, 3) := by decide +kernel
theorem dX5_movesOn_123 : decode cX5_movesOn 123 = .ok (.if_icmp .le 7, 3) := by decide +kernel
theorem dX5_movesOn_126 : decode cX5_movesOn 126 = .ok (.iload_n 2, 1) := by decide +kernel
theorem dX5_movesOn_127 : decode cX5_movesOn 127 = .ok (.goto 7, 3) := by decide +kernel
theorem dX5_movesOn_130 : decode cX5_movesOn 130 = .ok (.aload_n 0, 1) := by decide +kernel
theorem dX5_movesOn_131 : decode cX5_movesOn 131 = .ok (.getfield 161, 3) := by decide +kernel
theorem dX5_movesOn_134 : decode cX5_movesOn 134 = .ok (.putfield 161, 3) := by decide +kernel
theorem dX5_movesOn_137 : decode cX5_movesOn 137 = .ok (.return_, 1) := by decide +kernel
theorem dX5_tickOn_0 : decode cX5_tickOn 0 = .ok (.aload_n 0, 1) := by decide +kernel
theorem dX5_tickOn_1 : decode cX5_tickOn 1 = .ok (.getfield 7, 3) := by decide +kernel
theorem dX5_tickOn_4 : decode cX5_tickOn 4 = .ok (.iload_n 1, 1) := by decide +kernel
theorem dX5_tickOn_5 : decode cX5_tickOn 5 = .ok (.bipush 49, 2) := by decide +kernel
theorem dX5_tickOn_7 : decode cX5_tickOn 7 = .ok (.iadd, 1) := by decide +kernel
theorem dX5_tickOn_8 : decode cX5_tickOn 8 = .ok (.iaload, 1) := by decide +kernel
theorem dX5_tickOn_9 : decode cX5_tickOn 9 = .ok (.istore_n 3, 1) := by decide +kernel
theorem dX5_tickOn_10 : decode cX5_tickOn 10 = .ok (.iload_n 3, 1) := by decide +kernel
theorem dX5_tickOn_11 : decode cX5_tickOn 11 = .ok (.ifCond .ne 8, 3) := by decide +kernel
theorem dX5_tickOn_14 : decode cX5_tickOn 14 = .ok (.bipush (-4), 2) := by decide +kernel
theorem dX5_tickOn_16 : decode cX5_tickOn 16 = .ok (.goto 14, 3) := by decide +kernel
theorem dX5_tickOn_19 : decode cX5_tickOn 19 = .ok (.aload_n 0, 1) := by decide +kernel
theorem dX5_tickOn_20 : decode cX5_tickOn 20 = .ok (.getfield 7, 3) := by decide +kernel
theorem dX5_tickOn_23 : decode cX5_tickOn 23 = .ok (.iload_n 1, 1) := by decide +kernel
theorem dX5_tickOn_24 : decode cX5_tickOn 24 = .ok (.bipush 51, 2) := by decide +kernel
theorem dX5_tickOn_26 : decode cX5_tickOn 26 = .ok (.iadd, 1) := by decide +kernel
theorem dX5_tickOn_27 : decode cX5_tickOn 27 = .ok (.iaload, 1) := by decide +kernel
theorem dX5_tickOn_28 : decode cX5_tickOn 28 = .ok (.iload_n 3, 1) := by decide +kernel
theorem dX5_tickOn_29 : decode cX5_tickOn 29 = .ok (.irem, 1) := by decide +kernel
theorem dX5_tickOn_30 : decode cX5_tickOn 30 = .ok (.istore 4, 2) := by decide +kernel
theorem dX5_tickOn_32 : decode cX5_tickOn 32 = .ok (.iload 4, 2) := by decide +kernel
theorem dX5_tickOn_34 : decode cX5_tickOn 34 = .ok (.bipush (-4), 2) := by decide +kernel
theorem dX5_tickOn_36 : decode cX5_tickOn 36 = .ok (.if_icmp .eq 45, 3) := by decide +kernel
theorem dX5_tickOn_39 : decode cX5_tickOn 39 = .ok (.iload 4, 2) := by decide +kernel
theorem dX5_tickOn_41 : decode cX5_tickOn 41 = .ok (.aload_n 0, 1) := by decide +kernel
theorem dX5_tickOn_42 : decode cX5_tickOn 42 = .ok (.getfield 28, 3) := by decide +kernel
theorem dX5_tickOn_45 : decode cX5_tickOn 45 = .ok (.if_icmp .eq 36, 3) := by decide +kernel
theorem dX5_tickOn_48 : decode cX5_tickOn 48 = .ok (.iload_n 2, 1) := by decide +kernel
theorem dX5_tickOn_49 : decode cX5_tickOn 49 = .ok (.ifCond .ne 32, 3) := by decide +kernel
theorem dX5_tickOn_52 : decode cX5_tickOn 52 = .ok (.aload_n 0, 1) := by decide +kernel
theorem dX5_tickOn_53 : decode cX5_tickOn 53 = .ok (.iload_n 1, 1) := by decide +kernel
theorem dX5_tickOn_54 : decode cX5_tickOn 54 = .ok (.aload_n 0, 1) := by decide +kernel
theorem dX5_tickOn_55 : decode cX5_tickOn 55 = .ok (.getfield 7, 3) := by decide +kernel
theorem dX5_tickOn_58 : decode cX5_tickOn 58 = .ok (.iload_n 1, 1) := by decide +kernel
theorem dX5_tickOn_59 : decode cX5_tickOn 59 = .ok (.bipush 25, 2) := by decide +kernel
theorem dX5_tickOn_61 : decode cX5_tickOn 61 = .ok (.iadd, 1) := by decide +kernel
theorem dX5_tickOn_62 : decode cX5_tickOn 62 = .ok (.iload 4, 2) := by decide +kernel
theorem dX5_tickOn_64 : decode cX5_tickOn 64 = .ok (.iadd, 1) := by decide +kernel
theorem dX5_tickOn_65 : decode cX5_tickOn 65 = .ok (.iaload, 1) := by decide +kernel
theorem dX5_tickOn_66 : decode cX5_tickOn 66 = .ok (.aload_n 0, 1) := by decide +kernel
theorem dX5_tickOn_67 : decode cX5_tickOn 67 = .ok (.getfield 7, 3) := by decide +kernel
theorem dX5_tickOn_70 : decode cX5_tickOn 70 = .ok (.iload_n 1, 1) := by decide +kernel
theorem dX5_tickOn_71 : decode cX5_tickOn 71 = .ok (.bipush 37, 2) := by decide +kernel
theorem dX5_tickOn_73 : decode cX5_tickOn 73 = .ok (.iadd, 1) := by decide +kernel
theorem dX5_tickOn_74 : decode cX5_tickOn 74 = .ok (.iload 4, 2) := by decide +kernel
theorem dX5_tickOn_76 : decode cX5_tickOn 76 = .ok (.iadd, 1) := by decide +kernel
theorem dX5_tickOn_77 : decode cX5_tickOn 77 = .ok (.iaload, 1) := by decide +kernel
theorem dX5_tickOn_78 : decode cX5_tickOn 78 = .ok (.invokevirtual 164, 3) := by decide +kernel
theorem dX5_tickOn_81 : decode cX5_tickOn 81 = .ok (.aload_n 0, 1) := by decide +kernel
theorem dX5_tickOn_82 : decode cX5_tickOn 82 = .ok (.iload_n 1, 1) := by decide +kernel
theorem dX5_tickOn_83 : decode cX5_tickOn 83 = .ok (.invokevirtual 168, 3) := by decide +kernel
theorem dX5_tickOn_86 : decode cX5_tickOn 86 = .ok (.return_, 1) := by decide +kernel
theorem dX5_rule_0 : decode cX5_rule 0 = .ok (.iconst 0, 1) := by decide +kernel
theorem dX5_rule_1 : decode cX5_rule 1 = .ok (.istore_n 2, 1) := by decide +kernel
theorem dX5_rule_2 : decode cX5_rule 2 = .ok (.iconst 0, 1) := by decide +kernel
theorem dX5_rule_3 : decode cX5_rule 3 = .ok (.istore_n 3, 1) := by decide +kernel
theorem dX5_rule_4 : decode cX5_rule 4 = .ok (.iload_n 3, 1) := by decide +kernel
theorem dX5_rule_5 : decode cX5_rule 5 = .ok (.aload_n 0, 1) := by decide +kernel
theorem dX5_rule_6 : decode cX5_rule 6 = .ok (.getfield 7, 3) := by decide +kernel
theorem dX5_rule_9 : decode cX5_rule 9 = .ok (.bipush 24, 2) := by decide +kernel
theorem dX5_rule_11 : decode cX5_rule 11 = .ok (.iaload, 1) := by decide +kernel
theorem dX5_rule_12 : decode cX5_rule 12 = .ok (.if_icmp .ge 31, 3) := by decide +kernel
theorem dX5_rule_15 : decode cX5_rule 15 = .ok (.iload_n 2, 1) := by decide +kernel
theorem dX5_rule_16 : decode cX5_rule 16 = .ok (.aload_n 0, 1) := by decide +kernel
theorem dX5_rule_17 : decode cX5_rule 17 = .ok (.getfield 7, 3) := by decide +kernel
theorem dX5_rule_20 : decode cX5_rule 20 = .ok (.bipush 20, 2) := by decide +kernel
theorem dX5_rule_22 : decode cX5_rule 22 = .ok (.iload_n 3, 1) := by decide +kernel
theorem dX5_rule_23 : decode cX5_rule 23 = .ok (.iadd, 1) := by decide +kernel
theorem dX5_rule_24 : decode cX5_rule 24 = .ok (.iaload, 1) := by decide +kernel
theorem dX5_rule_25 : decode cX5_rule 25 = .ok (.ifCond .ne 9, 3) := by decide +kernel
theorem dX5_rule_28 : decode cX5_rule 28 = .ok (.iconst 1, 1) := by decide +kernel
theorem dX5_rule_29 : decode cX5_rule 29 = .ok (.iload_n 3, 1) := by decide +kernel
theorem dX5_rule_30 : decode cX5_rule 30 = .ok (.ishl, 1) := by decide +kernel
theorem dX5_rule_31 : decode cX5_rule 31 = .ok (.goto 4, 3) := by decide +kernel
theorem dX5_rule_34 : decode cX5_rule 34 = .ok (.iconst 0, 1) := by decide +kernel
theorem dX5_rule_35 : decode cX5_rule 35 = .ok (.ior, 1) := by decide +kernel
theorem dX5_rule_36 : decode cX5_rule 36 = .ok (.istore_n 2, 1) := by decide +kernel
theorem dX5_rule_37 : decode cX5_rule 37 = .ok (.iinc 3 1, 3) := by decide +kernel
theorem dX5_rule_40 : decode cX5_rule 40 = .ok (.goto (-36), 3) := by decide +kernel
theorem dX5_rule_43 : decode cX5_rule 43 = .ok (.iload_n 1, 1) := by decide +kernel
theorem dX5_rule_44 : decode cX5_rule 44 = .ok (.tableswitch 80 0 5 #[40, 48, 56, 64, 72, 74], 40) := by decide +kernel
theorem dX5_rule_84 : decode cX5_rule 84 = .ok (.aload_n 0, 1) := by decide +kernel
theorem dX5_rule_85 : decode cX5_rule 85 = .ok (.getfield 7, 3) := by decide +kernel
theorem dX5_rule_88 : decode cX5_rule 88 = .ok (.bipush 24, 2) := by decide +kernel
theorem dX5_rule_90 : decode cX5_rule 90 = .ok (.iaload, 1) := by decide +kernel
theorem dX5_rule_91 : decode cX5_rule 91 = .ok (.ireturn, 1) := by decide +kernel
theorem dX5_rule_92 : decode cX5_rule 92 = .ok (.aload_n 0, 1) := by decide +kernel
theorem dX5_rule_93 : decode cX5_rule 93 = .ok (.getfield 7, 3) := by decide +kernel
theorem dX5_rule_96 : decode cX5_rule 96 = .ok (.bipush 49, 2) := by decide +kernel
theorem dX5_rule_98 : decode cX5_rule 98 = .ok (.iaload, 1) := by decide +kernel
theorem dX5_rule_99 : decode cX5_rule 99 = .ok (.ireturn, 1) := by decide +kernel
theorem dX5_rule_100 : decode cX5_rule 100 = .ok (.aload_n 0, 1) := by decide +kernel
theorem dX5_rule_101 : decode cX5_rule 101 = .ok (.getfield 7, 3) := by decide +kernel
theorem dX5_rule_104 : decode cX5_rule 104 = .ok (.bipush 51, 2) := by decide +kernel
theorem dX5_rule_106 : decode cX5_rule 106 = .ok (.iaload, 1) := by decide +kernel
theorem dX5_rule_107 : decode cX5_rule 107 = .ok (.ireturn, 1) := by decide +kernel
theorem dX5_rule_108 : decode cX5_rule 108 = .ok (.aload_n 0, 1) := by decide +kernel
theorem dX5_rule_109 : decode cX5_rule 109 = .ok (.getfield 7, 3) := by decide +kernel
theorem dX5_rule_112 : decode cX5_rule 112 = .ok (.bipush 50, 2) := by decide +kernel
theorem dX5_rule_114 : decode cX5_rule 114 = .ok (.iaload, 1) := by decide +kernel
theorem dX5_rule_115 : decode cX5_rule 115 = .ok (.ireturn, 1) := by decide +kernel
theorem dX5_rule_116 : decode cX5_rule 116 = .ok (.iload_n 2, 1) := by decide +kernel
theorem dX5_rule_117 : decode cX5_rule 117 = .ok (.ireturn, 1) := by decide +kernel
theorem dX5_rule_118 : decode cX5_rule 118 = .ok (.aload_n 0, 1) := by decide +kernel
theorem dX5_rule_119 : decode cX5_rule 119 = .ok (.iconst 0, 1) := by decide +kernel
theorem dX5_rule_120 : decode cX5_rule 120 = .ok (.invokevirtual 158, 3) := by decide +kernel
theorem dX5_rule_123 : decode cX5_rule 123 = .ok (.ireturn, 1) := by decide +kernel
theorem dX5_rule_124 : decode cX5_rule 124 = .ok (.iconst (-1), 1) := by decide +kernel
theorem dX5_rule_125 : decode cX5_rule 125 = .ok (.ireturn, 1) := by decide +kernel
theorem dX5_bead_0 : decode cX5_bead 0 = .ok (.aload_n 0, 1) := by decide +kernel
theorem dX5_bead_1 : decode cX5_bead 1 = .ok (.iload_n 1, 1) := by decide +kernel
theorem dX5_bead_2 : decode cX5_bead 2 = .ok (.invokevirtual 171, 3) := by decide +kernel
theorem dX5_bead_5 : decode cX5_bead 5 = .ok (.ifCond .eq 15, 3) := by decide +kernel
theorem dX5_bead_8 : decode cX5_bead 8 = .ok (.iload_n 2, 1) := by decide +kernel
theorem dX5_bead_9 : decode cX5_bead 9 = .ok (.i2l, 1) := by decide +kernel
theorem dX5_bead_10 : decode cX5_bead 10 = .ok (.lconst 0, 1) := by decide +kernel
theorem dX5_bead_11 : decode cX5_bead 11 = .ok (.ldc2_w 175, 3) := by decide +kernel
theorem dX5_bead_14 : decode cX5_bead 14 = .ok (.invokestatic 53, 3) := by decide +kernel
theorem dX5_bead_17 : decode cX5_bead 17 = .ok (.ifCond .ne 5, 3) := by decide +kernel
theorem dX5_bead_20 : decode cX5_bead 20 = .ok (.iconst (-1), 1) := by decide +kernel
theorem dX5_bead_21 : decode cX5_bead 21 = .ok (.ireturn, 1) := by decide +kernel
theorem dX5_bead_22 : decode cX5_bead 22 = .ok (.iload_n 2, 1) := by decide +kernel
theorem dX5_bead_23 : decode cX5_bead 23 = .ok (.bipush 6, 2) := by decide +kernel
theorem dX5_bead_25 : decode cX5_bead 25 = .ok (.if_icmp .ge 26, 3) := by decide +kernel
theorem dX5_bead_28 : decode cX5_bead 28 = .ok (.aload_n 0, 1) := by decide +kernel
theorem dX5_bead_29 : decode cX5_bead 29 = .ok (.getfield 7, 3) := by decide +kernel
theorem dX5_bead_32 : decode cX5_bead 32 = .ok (.iconst 4, 1) := by decide +kernel
theorem dX5_bead_33 : decode cX5_bead 33 = .ok (.iload_n 2, 1) := by decide +kernel
theorem dX5_bead_34 : decode cX5_bead 34 = .ok (.imul, 1) := by decide +kernel
theorem dX5_bead_35 : decode cX5_bead 35 = .ok (.iload_n 1, 1) := by decide +kernel
theorem dX5_bead_36 : decode cX5_bead 36 = .ok (.iadd, 1) := by decide +kernel
theorem dX5_bead_37 : decode cX5_bead 37 = .ok (.iaload, 1) := by decide +kernel
theorem dX5_bead_38 : decode cX5_bead 38 = .ok (.iload_n 2, 1) := by decide +kernel
theorem dX5_bead_39 : decode cX5_bead 39 = .ok (.iconst 5, 1) := by decide +kernel
theorem dX5_bead_40 : decode cX5_bead 40 = .ok (.if_icmp .ne 8, 3) := by decide +kernel
theorem dX5_bead_43 : decode cX5_bead 43 = .ok (.bipush 100, 2) := by decide +kernel
theorem dX5_bead_45 : decode cX5_bead 45 = .ok (.goto 4, 3) := by decide +kernel
theorem dX5_bead_48 : decode cX5_bead 48 = .ok (.iconst 0, 1) := by decide +kernel
theorem dX5_bead_49 : decode cX5_bead 49 = .ok (.iadd, 1) := by decide +kernel
theorem dX5_bead_50 : decode cX5_bead 50 = .ok (.ireturn, 1) := by decide +kernel
theorem dX5_bead_51 : decode cX5_bead 51 = .ok (.iload_n 2, 1) := by decide +kernel
theorem dX5_bead_52 : decode cX5_bead 52 = .ok (.bipush 6, 2) := by decide +kernel
theorem dX5_bead_54 : decode cX5_bead 54 = .ok (.if_icmp .ne 16, 3) := by decide +kernel
theorem dX5_bead_57 : decode cX5_bead 57 = .ok (.sipush 1000, 3) := by decide +kernel
theorem dX5_bead_60 : decode cX5_bead 60 = .ok (.aload_n 0, 1) := by decide +kernel
theorem dX5_bead_61 : decode cX5_bead 61 = .ok (.iconst 0, 1) := by decide +kernel
theorem dX5_bead_62 : decode cX5_bead 62 = .ok (.iload_n 1, 1) := by decide +kernel
theorem dX5_bead_63 : decode cX5_bead 63 = .ok (.invokevirtual 125, 3) := by decide +kernel
theorem dX5_bead_66 : decode cX5_bead 66 = .ok (.iadd, 1) := by decide +kernel
theorem dX5_bead_67 : decode cX5_bead 67 = .ok (.goto 13, 3) := by decide +kernel
theorem dX5_bead_70 : decode cX5_bead 70 = .ok (.sipush 10000, 3) := by decide +kernel
theorem dX5_bead_73 : decode cX5_bead 73 = .ok (.aload_n 0, 1) := by decide +kernel
theorem dX5_bead_74 : decode cX5_bead 74 = .ok (.iconst 0, 1) := by decide +kernel
theorem dX5_bead_75 : decode cX5_bead 75 = .ok (.iload_n 1, 1) := by decide +kernel
theorem dX5_bead_76 : decode cX5_bead 76 = .ok (.invokevirtual 135, 3) := by decide +kernel
theorem dX5_bead_79 : decode cX5_bead 79 = .ok (.iadd, 1) := by decide +kernel
theorem dX5_bead_80 : decode cX5_bead 80 = .ok (.ireturn, 1) := by decide +kernel
theorem dX5_knock_0 : decode cX5_knock 0 = .ok (.aload_n 0, 1) := by decide +kernel
theorem dX5_knock_1 : decode cX5_knock 1 = .ok (.iload_n 1, 1) := by decide +kernel
theorem dX5_knock_2 : decode cX5_knock 2 = .ok (.invokevirtual 177, 3) := by decide +kernel
theorem dX5_knock_5 : decode cX5_knock 5 = .ok (.ifCond .eq 13, 3) := by decide +kernel
theorem dX5_knock_8 : decode cX5_knock 8 = .ok (.iload_n 2, 1) := by decide +kernel
theorem dX5_knock_9 : decode cX5_knock 9 = .ok (.i2l, 1) := by decide +kernel
theorem dX5_knock_10 : decode cX5_knock 10 = .ok (.lconst 0, 1) := by decide +kernel
theorem dX5_knock_11 : decode cX5_knock 11 = .ok (.lconst 1, 1) := by decide +kernel
theorem dX5_knock_12 : decode cX5_knock 12 = .ok (.invokestatic 53, 3) := by decide +kernel
theorem dX5_knock_15 : decode cX5_knock 15 = .ok (.ifCond .ne 5, 3) := by decide +kernel
theorem dX5_knock_18 : decode cX5_knock 18 = .ok (.iconst (-1), 1) := by decide +kernel
theorem dX5_knock_19 : decode cX5_knock 19 = .ok (.ireturn, 1) := by decide +kernel
theorem dX5_knock_20 : decode cX5_knock 20 = .ok (.iload_n 2, 1) := by decide +kernel
theorem dX5_knock_21 : decode cX5_knock 21 = .ok (.ifCond .ne 15, 3) := by decide +kernel
theorem dX5_knock_24 : decode cX5_knock 24 = .ok (.aload_n 0, 1) := by decide +kernel
theorem dX5_knock_25 : decode cX5_knock 25 = .ok (.getfield 7, 3) := by decide +kernel
theorem dX5_knock_28 : decode cX5_knock 28 = .ok (.bipush 25, 2) := by decide +kernel
theorem dX5_knock_30 : decode cX5_knock 30 = .ok (.iload_n 1, 1) := by decide +kernel
theorem dX5_knock_31 : decode cX5_knock 31 = .ok (.iadd, 1) := by decide +kernel
theorem dX5_knock_32 : decode cX5_knock 32 = .ok (.iaload, 1) := by decide +kernel
theorem dX5_knock_33 : decode cX5_knock 33 = .ok (.goto 15, 3) := by decide +kernel
theorem dX5_knock_36 : decode cX5_knock 36 = .ok (.bipush 9, 2) := by decide +kernel
theorem dX5_knock_38 : decode cX5_knock 38 = .ok (.aload_n 0, 1) := by decide +kernel
theorem dX5_knock_39 : decode cX5_knock 39 = .ok (.getfield 7, 3) := by decide +kernel
theorem dX5_knock_42 : decode cX5_knock 42 = .ok (.bipush 37, 2) := by decide +kernel
theorem dX5_knock_44 : decode cX5_knock 44 = .ok (.iload_n 1, 1) := by decide +kernel
theorem dX5_knock_45 : decode cX5_knock 45 = .ok (.iadd, 1) := by decide +kernel
theorem dX5_knock_46 : decode cX5_knock 46 = .ok (.iaload, 1) := by decide +kernel
theorem dX5_knock_47 : decode cX5_knock 47 = .ok (.iadd, 1) := by decide +kernel
theorem dX5_knock_48 : decode cX5_knock 48 = .ok (.ireturn, 1) := by decide +kernel
theorem dX5_puts_0 : decode cX5_puts 0 = .ok (.iload_n 1, 1) := by decide +kernel
theorem dX5_puts_1 : decode cX5_puts 1 = .ok (.ifCond .ne 5, 3) := by decide +kernel
theorem dX5_puts_4 : decode cX5_puts 4 = .ok (.iconst (-1), 1) := by decide +kernel
theorem dX5_puts_5 : decode cX5_puts 5 = .ok (.ireturn, 1) := by decide +kernel
theorem dX5_puts_6 : decode cX5_puts 6 = .ok (.aload_n 0, 1) := by decide +kernel
theorem dX5_puts_7 : decode cX5_puts 7 = .ok (.getfield 7, 3) := by decide +kernel
theorem dX5_puts_10 : decode cX5_puts 10 = .ok (.iload_n 2, 1) := by decide +kernel
theorem dX5_puts_11 : decode cX5_puts 11 = .ok (.iaload, 1) := by decide +kernel
theorem dX5_puts_12 : decode cX5_puts 12 = .ok (.istore 4, 2) := by decide +kernel
theorem dX5_puts_14 : decode cX5_puts 14 = .ok (.aload_n 0, 1) := by decide +kernel
theorem dX5_puts_15 : decode cX5_puts 15 = .ok (.getfield 7, 3) := by decide +kernel
theorem dX5_puts_18 : decode cX5_puts 18 = .ok (.iload_n 2, 1) := by decide +kernel
theorem dX5_puts_19 : decode cX5_puts 19 = .ok (.iload_n 3, 1) := by decide +kernel
theorem dX5_puts_20 : decode cX5_puts 20 = .ok (.iastore, 1) := by decide +kernel
theorem dX5_puts_21 : decode cX5_puts 21 = .ok (.iload 4, 2) := by decide +kernel
theorem dX5_puts_23 : decode cX5_puts 23 = .ok (.ireturn, 1) := by decide +kernel
theorem dX5_isGood_0 : decode cX5_isGood 0 = .ok (.iload_n 0, 1) := by decide +kernel
theorem dX5_isGood_1 : decode cX5_isGood 1 = .ok (.tableswitch 85 0 4 #[35, 45, 55, 65, 75], 35) := by decide +kernel
theorem dX5_isGood_36 : decode cX5_isGood 36 = .ok (.iload_n 1, 1) := by decide +kernel
theorem dX5_isGood_37 : decode cX5_isGood 37 = .ok (.i2l, 1) := by decide +kernel
theorem dX5_isGood_38 : decode cX5_isGood 38 = .ok (.lconst 0, 1) := by decide +kernel
theorem dX5_isGood_39 : decode cX5_isGood 39 = .ok (.ldc2_w 180, 3) := by decide +kernel
theorem dX5_isGood_42 : decode cX5_isGood 42 = .ok (.invokestatic 53, 3) := by decide +kernel
theorem dX5_isGood_45 : decode cX5_isGood 45 = .ok (.ireturn, 1) := by decide +kernel
theorem dX5_isGood_46 : decode cX5_isGood 46 = .ok (.iload_n 1, 1) := by decide +kernel
theorem dX5_isGood_47 : decode cX5_isGood 47 = .ok (.i2l, 1) := by decide +kernel
theorem dX5_isGood_48 : decode cX5_isGood 48 = .ok (.lconst 0, 1) := by decide +kernel
theorem dX5_isGood_49 : decode cX5_isGood 49 = .ok (.ldc2_w 182, 3) := by decide +kernel
theorem dX5_isGood_52 : decode cX5_isGood 52 = .ok (.invokestatic 53, 3) := by decide +kernel
theorem dX5_isGood_55 : decode cX5_isGood 55 = .ok (.ireturn, 1) := by decide +kernel
theorem dX5_isGood_56 : decode cX5_isGood 56 = .ok (.iload_n 1, 1) := by decide +kernel
theorem dX5_isGood_57 : decode cX5_isGood 57 = .ok (.i2l, 1) := by decide +kernel
theorem dX5_isGood_58 : decode cX5_isGood 58 = .ok (.lconst 0, 1) := by decide +kernel
theorem dX5_isGood_59 : decode cX5_isGood 59 = .ok (.ldc2_w 184, 3) := by decide +kernel
theorem dX5_isGood_62 : decode cX5_isGood 62 = .ok (.invokestatic 53, 3) := by decide +kernel
theorem dX5_isGood_65 : decode cX5_isGood 65 = .ok (.ireturn, 1) := by decide +kernel
theorem dX5_isGood_66 : decode cX5_isGood 66 = .ok (.iload_n 1, 1) := by decide +kernel
theorem dX5_isGood_67 : decode cX5_isGood 67 = .ok (.i2l, 1) := by decide +kernel
theorem dX5_isGood_68 : decode cX5_isGood 68 = .ok (.lconst 1, 1) := by decide +kernel
theorem dX5_isGood_69 : decode cX5_isGood 69 = .ok (.ldc2_w 184, 3) := by decide +kernel
theorem dX5_isGood_72 : decode cX5_isGood 72 = .ok (.invokestatic 53, 3) := by decide +kernel
theorem dX5_isGood_75 : decode cX5_isGood 75 = .ok (.ireturn, 1) := by decide +kernel
theorem dX5_isGood_76 : decode cX5_isGood 76 = .ok (.iload_n 1, 1) := by decide +kernel
theorem dX5_isGood_77 : decode cX5_isGood 77 = .ok (.i2l, 1) := by decide +kernel
theorem dX5_isGood_78 : decode cX5_isGood 78 = .ok (.lconst 0, 1) := by decide +kernel
theorem dX5_isGood_79 : decode cX5_isGood 79 = .ok (.ldc2_w 138, 3) := by decide +kernel
theorem dX5_isGood_82 : decode cX5_isGood 82 = .ok (.invokestatic 53, 3) := by decide +kernel
theorem dX5_isGood_85 : decode cX5_isGood 85 = .ok (.ireturn, 1) := by decide +kernel
theorem dX5_isGood_86 : decode cX5_isGood 86 = .ok (.iconst 0, 1) := by decide +kernel
theorem dX5_isGood_87 : decode cX5_isGood 87 = .ok (.ireturn, 1) := by decide +kernel
theorem dX5_alter_0 : decode cX5_alter 0 = .ok (.aload_n 0, 1) := by decide +kernel
theorem dX5_alter_1 : decode cX5_alter 1 = .ok (.aload_n 0, 1) := by decide +kernel
theorem dX5_alter_2 : decode cX5_alter 2 = .ok (.iload_n 1, 1) := by decide +kernel
theorem dX5_alter_3 : decode cX5_alter 3 = .ok (.invokevirtual 171, 3) := by decide +kernel
theorem dX5_alter_6 : decode cX5_alter 6 = .ok (.ifCond .eq 15, 3) := by decide +kernel
theorem dX5_alter_9 : decode cX5_alter 9 = .ok (.iload_n 2, 1) := by decide +kernel
theorem dX5_alter_10 : decode cX5_alter 10 = .ok (.iload_n 3, 1) := by decide +kernel
theorem dX5_alter_11 : decode cX5_alter 11 = .ok (.invokestatic 186, 3) := by decide +kernel
theorem dX5_alter_14 : decode cX5_alter 14 = .ok (.ifCond .eq 7, 3) := by decide +kernel
theorem dX5_alter_17 : decode cX5_alter 17 = .ok (.iconst 1, 1) := by decide +kernel
theorem dX5_alter_18 : decode cX5_alter 18 = .ok (.goto 4, 3) := by decide +kernel
theorem dX5_alter_21 : decode cX5_alter 21 = .ok (.iconst 0, 1) := by decide +kernel
theorem dX5_alter_22 : decode cX5_alter 22 = .ok (.iconst 4, 1) := by decide +kernel
theorem dX5_alter_23 : decode cX5_alter 23 = .ok (.iload_n 2, 1) := by decide +kernel
theorem dX5_alter_24 : decode cX5_alter 24 = .ok (.imul, 1) := by decide +kernel
theorem dX5_alter_25 : decode cX5_alter 25 = .ok (.iload_n 1, 1) := by decide +kernel
theorem dX5_alter_26 : decode cX5_alter 26 = .ok (.iadd, 1) := by decide +kernel
theorem dX5_alter_27 : decode cX5_alter 27 = .ok (.iload_n 3, 1) := by decide +kernel
theorem dX5_alter_28 : decode cX5_alter 28 = .ok (.invokevirtual 190, 3) := by decide +kernel
theorem dX5_alter_31 : decode cX5_alter 31 = .ok (.ireturn, 1) := by decide +kernel
theorem dX5_drag_0 : decode cX5_drag 0 = .ok (.aload_n 0, 1) := by decide +kernel
theorem dX5_drag_1 : decode cX5_drag 1 = .ok (.iload_n 1, 1) := by decide +kernel
theorem dX5_drag_2 : decode cX5_drag 2 = .ok (.i2l, 1) := by decide +kernel
theorem dX5_drag_3 : decode cX5_drag 3 = .ok (.lconst 0, 1) := by decide +kernel
theorem dX5_drag_4 : decode cX5_drag 4 = .ok (.ldc2_w 180, 3) := by decide +kernel
theorem dX5_drag_7 : decode cX5_drag 7 = .ok (.invokestatic 53, 3) := by decide +kernel
theorem dX5_drag_10 : decode cX5_drag 10 = .ok (.bipush 50, 2) := by decide +kernel
theorem dX5_drag_12 : decode cX5_drag 12 = .ok (.iload_n 1, 1) := by decide +kernel
theorem dX5_drag_13 : decode cX5_drag 13 = .ok (.invokevirtual 190, 3) := by decide +kernel
theorem dX5_drag_16 : decode cX5_drag 16 = .ok (.ireturn, 1) := by decide +kernel
theorem dX5_bind_0 : decode cX5_bind 0 = .ok (.iconst 0, 1) := by decide +kernel
theorem dX5_bind_1 : decode cX5_bind 1 = .ok (.iload_n 1, 1) := by decide +kernel
theorem dX5_bind_2 : decode cX5_bind 2 = .ok (.invokestatic 186, 3) := by decide +kernel
theorem dX5_bind_5 : decode cX5_bind 5 = .ok (.ifCond .eq 28, 3) := by decide +kernel
theorem dX5_bind_8 : decode cX5_bind 8 = .ok (.iconst 1, 1) := by decide +kernel
theorem dX5_bind_9 : decode cX5_bind 9 = .ok (.iload_n 2, 1) := by decide +kernel
theorem dX5_bind_10 : decode cX5_bind 10 = .ok (.invokestatic 186, 3) := by decide +kernel
theorem dX5_bind_13 : decode cX5_bind 13 = .ok (.ifCond .eq 20, 3) := by decide +kernel
theorem dX5_bind_16 : decode cX5_bind 16 = .ok (.iconst 2, 1) := by decide +kernel
theorem dX5_bind_17 : decode cX5_bind 17 = .ok (.iload_n 3, 1) := by decide +kernel
theorem dX5_bind_18 : decode cX5_bind 18 = .ok (.invokestatic 186, 3) := by decide +kernel
theorem dX5_bind_21 : decode cX5_bind 21 = .ok (.ifCond .eq 12, 3) := by decide +kernel
theorem dX5_bind_24 : decode cX5_bind 24 = .ok (.iconst 3, 1) := by decide +kernel
theorem dX5_bind_25 : decode cX5_bind 25 = .ok (.iload 4, 2) := by decide +kernel
theorem dX5_bind_27 : decode cX5_bind 27 = .ok (.invokestatic 186, 3) := by decide +kernel
theorem dX5_bind_30 : decode cX5_bind 30 = .ok (.ifCond .ne 5, 3) := by decide +kernel
theorem dX5_bind_33 : decode cX5_bind 33 = .ok (.iconst (-1), 1) := by decide +kernel
theorem dX5_bind_34 : decode cX5_bind 34 = .ok (.ireturn, 1) := by decide +kernel
theorem dX5_bind_35 : decode cX5_bind 35 = .ok (.aload_n 0, 1) := by decide +kernel
theorem dX5_bind_36 : decode cX5_bind 36 = .ok (.getfield 7, 3) := by decide +kernel
theorem dX5_bind_39 : decode cX5_bind 39 = .ok (.bipush 24, 2) := by decide +kernel
theorem dX5_bind_41 : decode cX5_bind 41 = .ok (.iaload, 1) := by decide +kernel
theorem dX5_bind_42 : decode cX5_bind 42 = .ok (.istore 5, 2) := by decide +kernel
theorem dX5_bind_44 : decode cX5_bind 44 = .ok (.iload 5, 2) := by decide +kernel
theorem dX5_bind_46 : decode cX5_bind 46 = .ok (.iconst 4, 1) := by decide +kernel
theorem dX5_bind_47 : decode cX5_bind 47 = .ok (.if_icmp .ne 6, 3) := by decide +kernel
theorem dX5_bind_50 : decode cX5_bind 50 = .ok (.bipush (-3), 2) := by decide +kernel
theorem dX5_bind_52 : decode cX5_bind 52 = .ok (.ireturn, 1) := by decide +kernel
theorem dX5_bind_53 : decode cX5_bind 53 = .ok (.aload_n 0, 1) := by decide +kernel
theorem dX5_bind_54 : decode cX5_bind 54 = .ok (.iconst 0, 1) := by decide +kernel
theorem dX5_bind_55 : decode cX5_bind 55 = .ok (.invokevirtual 158, 3) := by decide +kernel
theorem dX5_bind_58 : decode cX5_bind 58 = .ok (.iload_n 2, 1) := by decide +kernel
theorem dX5_bind_59 : decode cX5_bind 59 = .ok (.iadd, 1) := by decide +kernel
theorem dX5_bind_60 : decode cX5_bind 60 = .ok (.istore 6, 2) := by decide +kernel
theorem dX5_bind_62 : decode cX5_bind 62 = .ok (.aload_n 0, 1) := by decide +kernel
theorem dX5_bind_63 : decode cX5_bind 63 = .ok (.getfield 7, 3) := by decide +kernel
theorem dX5_bind_66 : decode cX5_bind 66 = .ok (.iload 5, 2) := by decide +kernel
theorem dX5_bind_68 : decode cX5_bind 68 = .ok (.iload_n 1, 1) := by decide +kernel
theorem dX5_bind_69 : decode cX5_bind 69 = .ok (.iastore, 1) := by decide +kernel
theorem dX5_bind_70 : decode cX5_bind 70 = .ok (.aload_n 0, 1) := by decide +kernel
theorem dX5_bind_71 : decode cX5_bind 71 = .ok (.getfield 7, 3) := by decide +kernel
theorem dX5_bind_74 : decode cX5_bind 74 = .ok (.iconst 4, 1) := by decide +kernel
theorem dX5_bind_75 : decode cX5_bind 75 = .ok (.iload 5, 2) := by decide +kernel
theorem dX5_bind_77 : decode cX5_bind 77 = .ok (.iadd, 1) := by decide +kernel
theorem dX5_bind_78 : decode cX5_bind 78 = .ok (.iload_n 2, 1) := by decide +kernel
theorem dX5_bind_79 : decode cX5_bind 79 = .ok (.iastore, 1) := by decide +kernel
theorem dX5_bind_80 : decode cX5_bind 80 = .ok (.aload_n 0, 1) := by decide +kernel
theorem dX5_bind_81 : decode cX5_bind 81 = .ok (.getfield 7, 3) := by decide +kernel
theorem dX5_bind_84 : decode cX5_bind 84 = .ok (.bipush 8, 2) := by decide +kernel
theorem dX5_bind_86 : decode cX5_bind 86 = .ok (.iload 5, 2) := by decide +kernel
theorem dX5_bind_88 : decode cX5_bind 88 = .ok (.iadd, 1) := by decide +kernel
theorem dX5_bind_89 : decode cX5_bind 89 = .ok (.iload_n 3, 1) := by decide +kernel
theorem dX5_bind_90 : decode cX5_bind 90 = .ok (.iastore, 1) := by decide +kernel
theorem dX5_bind_91 : decode cX5_bind 91 = .ok (.aload_n 0, 1) := by decide +kernel
theorem dX5_bind_92 : decode cX5_bind 92 = .ok (.getfield 7, 3) := by decide +kernel
theorem dX5_bind_95 : decode cX5_bind 95 = .ok (.bipush 12, 2) := by decide +kernel
theorem dX5_bind_97 : decode cX5_bind 97 = .ok (.iload 5, 2) := by decide +kernel
theorem dX5_bind_99 : decode cX5_bind 99 = .ok (.iadd, 1) := by decide +kernel
theorem dX5_bind_100 : decode cX5_bind 100 = .ok (.iload 4, 2) := by decide +kernel
theorem dX5_bind_102 : decode cX5_bind 102 = .ok (.iastore, 1) := by decide +kernel
theorem dX5_bind_103 : decode cX5_bind 103 = .ok (.aload_n 0, 1) := by decide +kernel
theorem dX5_bind_104 : decode cX5_bind 104 = .ok (.getfield 7, 3) := by decide +kernel
theorem dX5_bind_107 : decode cX5_bind 107 = .ok (.bipush 16, 2) := by decide +kernel
theorem dX5_bind_109 : decode cX5_bind 109 = .ok (.iload 5, 2) := by decide +kernel
theorem dX5_bind_111 : decode cX5_bind 111 = .ok (.iadd, 1) := by decide +kernel
theorem dX5_bind_112 : decode cX5_bind 112 = .ok (.iload 6, 2) := by decide +kernel
theorem dX5_bind_114 : decode cX5_bind 114 = .ok (.sipush 300, 3) := by decide +kernel
theorem dX5_bind_117 : decode cX5_bind 117 = .ok (.if_icmp .le 9, 3) := by decide +kernel
theorem dX5_bind_120 : decode cX5_bind 120 = .ok (.sipush 300, 3) := by decide +kernel
theorem dX5_bind_123 : decode cX5_bind 123 = .ok (.goto 5, 3) := by decide +kernel
theorem dX5_bind_126 : decode cX5_bind 126 = .ok (.iload 6, 2) := by decide +kernel
theorem dX5_bind_128 : decode cX5_bind 128 = .ok (.iastore, 1) := by decide +kernel
theorem dX5_bind_129 : decode cX5_bind 129 = .ok (.aload_n 0, 1) := by decide +kernel
theorem dX5_bind_130 : decode cX5_bind 130 = .ok (.getfield 7, 3) := by decide +kernel
theorem dX5_bind_133 : decode cX5_bind 133 = .ok (.bipush 20, 2) := by decide +kernel
theorem dX5_bind_135 : decode cX5_bind 135 = .ok (.iload 5, 2) := by decide +kernel
theorem dX5_bind_137 : decode cX5_bind 137 = .ok (.iadd, 1) := by decide +kernel
theorem dX5_bind_138 : decode cX5_bind 138 = .ok (.iconst 0, 1) := by decide +kernel
theorem dX5_bind_139 : decode cX5_bind 139 = .ok (.iastore, 1) := by decide +kernel
theorem dX5_bind_140 : decode cX5_bind 140 = .ok (.aload_n 0, 1) := by decide +kernel
theorem dX5_bind_141 : decode cX5_bind 141 = .ok (.getfield 7, 3) := by decide +kernel
theorem dX5_bind_144 : decode cX5_bind 144 = .ok (.bipush 24, 2) := by decide +kernel
theorem dX5_bind_146 : decode cX5_bind 146 = .ok (.dup2, 1) := by decide +kernel
theorem dX5_bind_147 : decode cX5_bind 147 = .ok (.iaload, 1) := by decide +kernel
theorem dX5_bind_148 : decode cX5_bind 148 = .ok (.iconst 1, 1) := by decide +kernel
theorem dX5_bind_149 : decode cX5_bind 149 = .ok (.iadd, 1) := by decide +kernel
theorem dX5_bind_150 : decode cX5_bind 150 = .ok (.iastore, 1) := by decide +kernel
theorem dX5_bind_151 : decode cX5_bind 151 = .ok (.aload_n 0, 1) := by decide +kernel
theorem dX5_bind_152 : decode cX5_bind 152 = .ok (.getfield 7, 3) := by decide +kernel
theorem dX5_bind_155 : decode cX5_bind 155 = .ok (.bipush 24, 2) := by decide +kernel
theorem dX5_bind_157 : decode cX5_bind 157 = .ok (.iaload, 1) := by decide +kernel
theorem dX5_bind_158 : decode cX5_bind 158 = .ok (.ireturn, 1) := by decide +kernel
theorem dX5_cut_0 : decode cX5_cut 0 = .ok (.aload_n 0, 1) := by decide +kernel
theorem dX5_cut_1 : decode cX5_cut 1 = .ok (.iload_n 1, 1) := by decide +kernel
theorem dX5_cut_2 : decode cX5_cut 2 = .ok (.i2l, 1) := by decide +kernel
theorem dX5_cut_3 : decode cX5_cut 3 = .ok (.lconst 0, 1) := by decide +kernel
theorem dX5_cut_4 : decode cX5_cut 4 = .ok (.aload_n 0, 1) := by decide +kernel
theorem dX5_cut_5 : decode cX5_cut 5 = .ok (.getfield 7, 3) := by decide +kernel
theorem dX5_cut_8 : decode cX5_cut 8 = .ok (.bipush 24, 2) := by decide +kernel
theorem dX5_cut_10 : decode cX5_cut 10 = .ok (.iaload, 1) := by decide +kernel
theorem dX5_cut_11 : decode cX5_cut 11 = .ok (.i2l, 1) := by decide +kernel
theorem dX5_cut_12 : decode cX5_cut 12 = .ok (.invokestatic 53, 3) := by decide +kernel
theorem dX5_cut_15 : decode cX5_cut 15 = .ok (.bipush 24, 2) := by decide +kernel
theorem dX5_cut_17 : decode cX5_cut 17 = .ok (.iload_n 1, 1) := by decide +kernel
theorem dX5_cut_18 : decode cX5_cut 18 = .ok (.invokevirtual 190, 3) := by decide +kernel
theorem dX5_cut_21 : decode cX5_cut 21 = .ok (.ireturn, 1) := by decide +kernel
theorem dX5_hit_0 : decode cX5_hit 0 = .ok (.aload_n 0, 1) := by decide +kernel
theorem dX5_hit_1 : decode cX5_hit 1 = .ok (.iload_n 1, 1) := by decide +kernel
theorem dX5_hit_2 : decode cX5_hit 2 = .ok (.invokevirtual 171, 3) := by decide +kernel
theorem dX5_hit_5 : decode cX5_hit 5 = .ok (.ifCond .eq 15, 3) := by decide +kernel
theorem dX5_hit_8 : decode cX5_hit 8 = .ok (.iload_n 2, 1) := by decide +kernel
theorem dX5_hit_9 : decode cX5_hit 9 = .ok (.i2l, 1) := by decide +kernel
theorem dX5_hit_10 : decode cX5_hit 10 = .ok (.lconst 0, 1) := by decide +kernel
theorem dX5_hit_11 : decode cX5_hit 11 = .ok (.ldc2_w 194, 3) := by decide +kernel
theorem dX5_hit_14 : decode cX5_hit 14 = .ok (.invokestatic 53, 3) := by decide +kernel
theorem dX5_hit_17 : decode cX5_hit 17 = .ok (.ifCond .ne 5, 3) := by decide +kernel
theorem dX5_hit_20 : decode cX5_hit 20 = .ok (.iconst (-1), 1) := by decide +kernel
theorem dX5_hit_21 : decode cX5_hit 21 = .ok (.ireturn, 1) := by decide +kernel
theorem dX5_hit_22 : decode cX5_hit 22 = .ok (.aload_n 0, 1) := by decide +kernel
theorem dX5_hit_23 : decode cX5_hit 23 = .ok (.iconst 0, 1) := by decide +kernel
theorem dX5_hit_24 : decode cX5_hit 24 = .ok (.iload_n 1, 1) := by decide +kernel
theorem dX5_hit_25 : decode cX5_hit 25 = .ok (.iload_n 2, 1) := by decide +kernel
theorem dX5_hit_26 : decode cX5_hit 26 = .ok (.bipush 9, 2) := by decide +kernel
theorem dX5_hit_28 : decode cX5_hit 28 = .ok (.isub, 1) := by decide +kernel
theorem dX5_hit_29 : decode cX5_hit 29 = .ok (.invokevirtual 164, 3) := by decide +kernel
theorem dX5_hit_32 : decode cX5_hit 32 = .ok (.bipush 100, 2) := by decide +kernel
theorem dX5_hit_34 : decode cX5_hit 34 = .ok (.aload_n 0, 1) := by decide +kernel
theorem dX5_hit_35 : decode cX5_hit 35 = .ok (.getfield 7, 3) := by decide +kernel
theorem dX5_hit_38 : decode cX5_hit 38 = .ok (.bipush 20, 2) := by decide +kernel
theorem dX5_hit_40 : decode cX5_hit 40 = .ok (.iload_n 1, 1) := by decide +kernel
theorem dX5_hit_41 : decode cX5_hit 41 = .ok (.iadd, 1) := by decide +kernel
theorem dX5_hit_42 : decode cX5_hit 42 = .ok (.iaload, 1) := by decide +kernel
theorem dX5_hit_43 : decode cX5_hit 43 = .ok (.iadd, 1) := by decide +kernel
theorem dX5_hit_44 : decode cX5_hit 44 = .ok (.ireturn, 1) := by decide +kernel
theorem dX5_adds_0 : decode cX5_adds 0 = .ok (.iload_n 1, 1) := by decide +kernel
theorem dX5_adds_1 : decode cX5_adds 1 = .ok (.i2l, 1) := by decide +kernel
theorem dX5_adds_2 : decode cX5_adds 2 = .ok (.lconst 0, 1) := by decide +kernel
theorem dX5_adds_3 : decode cX5_adds 3 = .ok (.ldc2_w 180, 3) := by decide +kernel
theorem dX5_adds_6 : decode cX5_adds 6 = .ok (.invokestatic 53, 3) := by decide +kernel
theorem dX5_adds_9 : decode cX5_adds 9 = .ok (.ifCond .eq 15, 3) := by decide +kernel
theorem dX5_adds_12 : decode cX5_adds 12 = .ok (.iload_n 2, 1) := by decide +kernel
theorem dX5_adds_13 : decode cX5_adds 13 = .ok (.i2l, 1) := by decide +kernel
theorem dX5_adds_14 : decode cX5_adds 14 = .ok (.lconst 0, 1) := by decide +kernel
theorem dX5_adds_15 : decode cX5_adds 15 = .ok (.ldc2_w 194, 3) := by decide +kernel
theorem dX5_adds_18 : decode cX5_adds 18 = .ok (.invokestatic 53, 3) := by decide +kernel
theorem dX5_adds_21 : decode cX5_adds 21 = .ok (.ifCond .ne 5, 3) := by decide +kernel
theorem dX5_adds_24 : decode cX5_adds 24 = .ok (.iconst (-1), 1) := by decide +kernel
theorem dX5_adds_25 : decode cX5_adds 25 = .ok (.ireturn, 1) := by decide +kernel
theorem dX5_adds_26 : decode cX5_adds 26 = .ok (.aload_n 0, 1) := by decide +kernel
theorem dX5_adds_27 : decode cX5_adds 27 = .ok (.getfield 7, 3) := by decide +kernel
theorem dX5_adds_30 : decode cX5_adds 30 = .ok (.bipush 49, 2) := by decide +kernel
theorem dX5_adds_32 : decode cX5_adds 32 = .ok (.iaload, 1) := by decide +kernel
theorem dX5_adds_33 : decode cX5_adds 33 = .ok (.istore_n 3, 1) := by decide +kernel
theorem dX5_adds_34 : decode cX5_adds 34 = .ok (.iload_n 3, 1) := by decide +kernel
theorem dX5_adds_35 : decode cX5_adds 35 = .ok (.bipush 12, 2) := by decide +kernel
theorem dX5_adds_37 : decode cX5_adds 37 = .ok (.if_icmp .ne 6, 3) := by decide +kernel
theorem dX5_adds_40 : decode cX5_adds 40 = .ok (.bipush (-3), 2) := by decide +kernel
theorem dX5_adds_42 : decode cX5_adds 42 = .ok (.ireturn, 1) := by decide +kernel
theorem dX5_adds_43 : decode cX5_adds 43 = .ok (.aload_n 0, 1) := by decide +kernel
theorem dX5_adds_44 : decode cX5_adds 44 = .ok (.getfield 7, 3) := by decide +kernel
theorem dX5_adds_47 : decode cX5_adds 47 = .ok (.bipush 25, 2) := by decide +kernel
theorem dX5_adds_49 : decode cX5_adds 49 = .ok (.iload_n 3, 1) := by decide +kernel
theorem dX5_adds_50 : decode cX5_adds 50 = .ok (.iadd, 1) := by decide +kernel
theorem dX5_adds_51 : decode cX5_adds 51 = .ok (.iload_n 1, 1) := by decide +kernel
theorem dX5_adds_52 : decode cX5_adds 52 = .ok (.iastore, 1) := by decide +kernel
theorem dX5_adds_53 : decode cX5_adds 53 = .ok (.aload_n 0, 1) := by decide +kernel
theorem dX5_adds_54 : decode cX5_adds 54 = .ok (.getfield 7, 3) := by decide +kernel
theorem dX5_adds_57 : decode cX5_adds 57 = .ok (.bipush 37, 2) := by decide +kernel
theorem dX5_adds_59 : decode cX5_adds 59 = .ok (.iload_n 3, 1) := by decide +kernel
theorem dX5_adds_60 : decode cX5_adds 60 = .ok (.iadd, 1) := by decide +kernel
theorem dX5_adds_61 : decode cX5_adds 61 = .ok (.iload_n 2, 1) := by decide +kernel
theorem dX5_adds_62 : decode cX5_adds 62 = .ok (.bipush 9, 2) := by decide +kernel
theorem dX5_adds_64 : decode cX5_adds 64 = .ok (.isub, 1) := by decide +kernel
theorem dX5_adds_65 : decode cX5_adds 65 = .ok (.iastore, 1) := by decide +kernel
theorem dX5_adds_66 : decode cX5_adds 66 = .ok (.aload_n 0, 1) := by decide +kernel
theorem dX5_adds_67 : decode cX5_adds 67 = .ok (.getfield 7, 3) := by decide +kernel
theorem dX5_adds_70 : decode cX5_adds 70 = .ok (.bipush 49, 2) := by decide +kernel
theorem dX5_adds_72 : decode cX5_adds 72 = .ok (.dup2, 1) := by decide +kernel
theorem dX5_adds_73 : decode cX5_adds 73 = .ok (.iaload, 1) := by decide +kernel
theorem dX5_adds_74 : decode cX5_adds 74 = .ok (.iconst 1, 1) := by decide +kernel
theorem dX5_adds_75 : decode cX5_adds 75 = .ok (.iadd, 1) := by decide +kernel
theorem dX5_adds_76 : decode cX5_adds 76 = .ok (.iastore, 1) := by decide +kernel
theorem dX5_adds_77 : decode cX5_adds 77 = .ok (.aload_n 0, 1) := by decide +kernel
theorem dX5_adds_78 : decode cX5_adds 78 = .ok (.getfield 7, 3) := by decide +kernel
theorem dX5_adds_81 : decode cX5_adds 81 = .ok (.bipush 49, 2) := by decide +kernel
theorem dX5_adds_83 : decode cX5_adds 83 = .ok (.iaload, 1) := by decide +kernel
theorem dX5_adds_84 : decode cX5_adds 84 = .ok (.ireturn, 1) := by decide +kernel
theorem dX5_add_0 : decode cX5_add 0 = .ok (.aload_n 0, 1) := by decide +kernel
theorem dX5_add_1 : decode cX5_add 1 = .ok (.iload_n 1, 1) := by decide +kernel
theorem dX5_add_2 : decode cX5_add 2 = .ok (.iload_n 2, 1) := by decide +kernel
theorem dX5_add_3 : decode cX5_add 3 = .ok (.invokevirtual 196, 3) := by decide +kernel
theorem dX5_add_6 : decode cX5_add 6 = .ok (.ireturn, 1) := by decide +kernel
theorem dX5_drop_0 : decode cX5_drop 0 = .ok (.aload_n 0, 1) := by decide +kernel
theorem dX5_drop_1 : decode cX5_drop 1 = .ok (.iload_n 1, 1) := by decide +kernel
theorem dX5_drop_2 : decode cX5_drop 2 = .ok (.i2l, 1) := by decide +kernel
theorem dX5_drop_3 : decode cX5_drop 3 = .ok (.lconst 0, 1) := by decide +kernel
theorem dX5_drop_4 : decode cX5_drop 4 = .ok (.aload_n 0, 1) := by decide +kernel
theorem dX5_drop_5 : decode cX5_drop 5 = .ok (.getfield 7, 3) := by decide +kernel
theorem dX5_drop_8 : decode cX5_drop 8 = .ok (.bipush 49, 2) := by decide +kernel
theorem dX5_drop_10 : decode cX5_drop 10 = .ok (.iaload, 1) := by decide +kernel
theorem dX5_drop_11 : decode cX5_drop 11 = .ok (.i2l, 1) := by decide +kernel
theorem dX5_drop_12 : decode cX5_drop 12 = .ok (.invokestatic 53, 3) := by decide +kernel
theorem dX5_drop_15 : decode cX5_drop 15 = .ok (.bipush 49, 2) := by decide +kernel
theorem dX5_drop_17 : decode cX5_drop 17 = .ok (.iload_n 1, 1) := by decide +kernel
theorem dX5_drop_18 : decode cX5_drop 18 = .ok (.invokevirtual 190, 3) := by decide +kernel
theorem dX5_drop_21 : decode cX5_drop 21 = .ok (.ireturn, 1) := by decide +kernel
theorem dX5_calm_0 : decode cX5_calm 0 = .ok (.iconst 0, 1) := by decide +kernel
theorem dX5_calm_1 : decode cX5_calm 1 = .ok (.istore_n 1, 1) := by decide +kernel
theorem dX5_calm_2 : decode cX5_calm 2 = .ok (.iconst 0, 1) := by decide +kernel
theorem dX5_calm_3 : decode cX5_calm 3 = .ok (.istore_n 2, 1) := by decide +kernel
theorem dX5_calm_4 : decode cX5_calm 4 = .ok (.iload_n 2, 1) := by decide +kernel
theorem dX5_calm_5 : decode cX5_calm 5 = .ok (.aload_n 0, 1) := by decide +kernel
theorem dX5_calm_6 : decode cX5_calm 6 = .ok (.getfield 7, 3) := by decide +kernel
theorem dX5_calm_9 : decode cX5_calm 9 = .ok (.bipush 24, 2) := by decide +kernel
theorem dX5_calm_11 : decode cX5_calm 11 = .ok (.iaload, 1) := by decide +kernel
theorem dX5_calm_12 : decode cX5_calm 12 = .ok (.if_icmp .ge 39, 3) := by decide +kernel
theorem dX5_calm_15 : decode cX5_calm 15 = .ok (.iload_n 1, 1) := by decide +kernel
theorem dX5_calm_16 : decode cX5_calm 16 = .ok (.aload_n 0, 1) := by decide +kernel
theorem dX5_calm_17 : decode cX5_calm 17 = .ok (.getfield 7, 3) := by decide +kernel
theorem dX5_calm_20 : decode cX5_calm 20 = .ok (.bipush 20, 2) := by decide +kernel
theorem dX5_calm_22 : decode cX5_calm 22 = .ok (.iload_n 2, 1) := by decide +kernel
theorem dX5_calm_23 : decode cX5_calm 23 = .ok (.iadd, 1) := by decide +kernel
theorem dX5_calm_24 : decode cX5_calm 24 = .ok (.iaload, 1) := by decide +kernel
theorem dX5_calm_25 : decode cX5_calm 25 = .ok (.ifCond .ne 7, 3) := by decide +kernel
theorem dX5_calm_28 : decode cX5_calm 28 = .ok (.iconst 0, 1) := by decide +kernel
theorem dX5_calm_29 : decode cX5_calm 29 = .ok (.goto 4, 3) := by decide +kernel
theorem dX5_calm_32 : decode cX5_calm 32 = .ok (.iconst 1, 1) := by decide +kernel
theorem dX5_calm_33 : decode cX5_calm 33 = .ok (.iadd, 1) := by decide +kernel
theorem dX5_calm_34 : decode cX5_calm 34 = .ok (.istore_n 1, 1) := by decide +kernel
theorem dX5_calm_35 : decode cX5_calm 35 = .ok (.aload_n 0, 1) := by decide +kernel
theorem dX5_calm_36 : decode cX5_calm 36 = .ok (.getfield 7, 3) := by decide +kernel
theorem dX5_calm_39 : decode cX5_calm 39 = .ok (.bipush 20, 2) := by decide +kernel
theorem dX5_calm_41 : decode cX5_calm 41 = .ok (.iload_n 2, 1) := by decide +kernel
theorem dX5_calm_42 : decode cX5_calm 42 = .ok (.iadd, 1) := by decide +kernel
theorem dX5_calm_43 : decode cX5_calm 43 = .ok (.iconst 0, 1) := by decide +kernel
theorem dX5_calm_44 : decode cX5_calm 44 = .ok (.iastore, 1) := by decide +kernel
theorem dX5_calm_45 : decode cX5_calm 45 = .ok (.iinc 2 1, 3) := by decide +kernel
theorem dX5_calm_48 : decode cX5_calm 48 = .ok (.goto (-44), 3) := by decide +kernel
theorem dX5_calm_51 : decode cX5_calm 51 = .ok (.iload_n 1, 1) := by decide +kernel
theorem dX5_calm_52 : decode cX5_calm 52 = .ok (.ireturn, 1) := by decide +kernel
theorem dX5_ticks_0 : decode cX5_ticks 0 = .ok (.iload_n 1, 1) := by decide +kernel
theorem dX5_ticks_1 : decode cX5_ticks 1 = .ok (.i2l, 1) := by decide +kernel
theorem dX5_ticks_2 : decode cX5_ticks 2 = .ok (.lconst 0, 1) := by decide +kernel
theorem dX5_ticks_3 : decode cX5_ticks 3 = .ok (.ldc2_w 199, 3) := by decide +kernel
theorem dX5_ticks_6 : decode cX5_ticks 6 = .ok (.invokestatic 53, 3) := by decide +kernel
theorem dX5_ticks_9 : decode cX5_ticks 9 = .ok (.ifCond .ne 5, 3) := by decide +kernel
theorem dX5_ticks_12 : decode cX5_ticks 12 = .ok (.iconst (-1), 1) := by decide +kernel
theorem dX5_ticks_13 : decode cX5_ticks 13 = .ok (.ireturn, 1) := by decide +kernel
theorem dX5_ticks_14 : decode cX5_ticks 14 = .ok (.aload_n 0, 1) := by decide +kernel
theorem dX5_ticks_15 : decode cX5_ticks 15 = .ok (.getfield 7, 3) := by decide +kernel
theorem dX5_ticks_18 : decode cX5_ticks 18 = .ok (.bipush 51, 2) := by decide +kernel
theorem dX5_ticks_20 : decode cX5_ticks 20 = .ok (.iaload, 1) := by decide +kernel
theorem dX5_ticks_21 : decode cX5_ticks 21 = .ok (.iload_n 1, 1) := by decide +kernel
theorem dX5_ticks_22 : decode cX5_ticks 22 = .ok (.iadd, 1) := by decide +kernel
theorem dX5_ticks_23 : decode cX5_ticks 23 = .ok (.sipush 9999, 3) := by decide +kernel
theorem dX5_ticks_26 : decode cX5_ticks 26 = .ok (.if_icmp .le 6, 3) := by decide +kernel
theorem dX5_ticks_29 : decode cX5_ticks 29 = .ok (.bipush (-3), 2) := by decide +kernel
theorem dX5_ticks_31 : decode cX5_ticks 31 = .ok (.ireturn, 1) := by decide +kernel
theorem dX5_ticks_32 : decode cX5_ticks 32 = .ok (.aload_n 0, 1) := by decide +kernel
theorem dX5_ticks_33 : decode cX5_ticks 33 = .ok (.iconst 0, 1) := by decide +kernel
theorem dX5_ticks_34 : decode cX5_ticks 34 = .ok (.putfield 143, 3) := by decide +kernel
theorem dX5_ticks_37 : decode cX5_ticks 37 = .ok (.iconst 0, 1) := by decide +kernel
theorem dX5_ticks_38 : decode cX5_ticks 38 = .ok (.istore_n 2, 1) := by decide +kernel
theorem dX5_ticks_39 : decode cX5_ticks 39 = .ok (.iload_n 2, 1) := by decide +kernel
theorem dX5_ticks_40 : decode cX5_ticks 40 = .ok (.iload_n 1, 1) := by decide +kernel
theorem dX5_ticks_41 : decode cX5_ticks 41 = .ok (.if_icmp .ge 15, 3) := by decide +kernel
theorem dX5_ticks_44 : decode cX5_ticks 44 = .ok (.aload_n 0, 1) := by decide +kernel
theorem dX5_ticks_45 : decode cX5_ticks 45 = .ok (.iconst 0, 1) := by decide +kernel
theorem dX5_ticks_46 : decode cX5_ticks 46 = .ok (.iconst 0, 1) := by decide +kernel
theorem dX5_ticks_47 : decode cX5_ticks 47 = .ok (.invokevirtual 201, 3) := by decide +kernel
theorem dX5_ticks_50 : decode cX5_ticks 50 = .ok (.iinc 2 1, 3) := by decide +kernel
theorem dX5_ticks_53 : decode cX5_ticks 53 = .ok (.goto (-14), 3) := by decide +kernel
theorem dX5_ticks_56 : decode cX5_ticks 56 = .ok (.aload_n 0, 1) := by decide +kernel
theorem dX5_ticks_57 : decode cX5_ticks 57 = .ok (.getfield 143, 3) := by decide +kernel
theorem dX5_ticks_60 : decode cX5_ticks 60 = .ok (.ireturn, 1) := by decide +kernel
theorem dX5_copies_0 : decode cX5_copies 0 = .ok (.iconst 0, 1) := by decide +kernel
theorem dX5_copies_1 : decode cX5_copies 1 = .ok (.istore_n 3, 1) := by decide +kernel
theorem dX5_copies_2 : decode cX5_copies 2 = .ok (.iload_n 3, 1) := by decide +kernel
theorem dX5_copies_3 : decode cX5_copies 3 = .ok (.bipush 52, 2) := by decide +kernel
theorem dX5_copies_5 : decode cX5_copies 5 = .ok (.if_icmp .ge 25, 3) := by decide +kernel
theorem dX5_copies_8 : decode cX5_copies 8 = .ok (.aload_n 0, 1) := by decide +kernel
theorem dX5_copies_9 : decode cX5_copies 9 = .ok (.getfield 7, 3) := by decide +kernel
theorem dX5_copies_12 : decode cX5_copies 12 = .ok (.iload_n 2, 1) := by decide +kernel
theorem dX5_copies_13 : decode cX5_copies 13 = .ok (.iload_n 3, 1) := by decide +kernel
theorem dX5_copies_14 : decode cX5_copies 14 = .ok (.iadd, 1) := by decide +kernel
theorem dX5_copies_15 : decode cX5_copies 15 = .ok (.aload_n 0, 1) := by decide +kernel
theorem dX5_copies_16 : decode cX5_copies 16 = .ok (.getfield 7, 3) := by decide +kernel
theorem dX5_copies_19 : decode cX5_copies 19 = .ok (.iload_n 1, 1) := by decide +kernel
theorem dX5_copies_20 : decode cX5_copies 20 = .ok (.iload_n 3, 1) := by decide +kernel
theorem dX5_copies_21 : decode cX5_copies 21 = .ok (.iadd, 1) := by decide +kernel
theorem dX5_copies_22 : decode cX5_copies 22 = .ok (.iaload, 1) := by decide +kernel
theorem dX5_copies_23 : decode cX5_copies 23 = .ok (.iastore, 1) := by decide +kernel
theorem dX5_copies_24 : decode cX5_copies 24 = .ok (.iinc 3 1, 3) := by decide +kernel
theorem dX5_copies_27 : decode cX5_copies 27 = .ok (.goto (-25), 3) := by decide +kernel
theorem dX5_copies_30 : decode cX5_copies 30 = .ok (.return_, 1) := by decide +kernel
theorem dX5_ticksGo_0 : decode cX5_ticksGo 0 = .ok (.aload_n 0, 1) := by decide +kernel
theorem dX5_ticksGo_1 : decode cX5_ticksGo 1 = .ok (.iload_n 1, 1) := by decide +kernel
theorem dX5_ticksGo_2 : decode cX5_ticksGo 2 = .ok (.sipush 208, 3) := by decide +kernel
theorem dX5_ticksGo_5 : decode cX5_ticksGo 5 = .ok (.invokevirtual 205, 3) := by decide +kernel
theorem dX5_ticksGo_8 : decode cX5_ticksGo 8 = .ok (.aload_n 0, 1) := by decide +kernel
theorem dX5_ticksGo_9 : decode cX5_ticksGo 9 = .ok (.iconst 0, 1) := by decide +kernel
theorem dX5_ticksGo_10 : decode cX5_ticksGo 10 = .ok (.putfield 143, 3) := by decide +kernel
theorem dX5_ticksGo_13 : decode cX5_ticksGo 13 = .ok (.aload_n 0, 1) := by decide +kernel
theorem dX5_ticksGo_14 : decode cX5_ticksGo 14 = .ok (.iconst 0, 1) := by decide +kernel
theorem dX5_ticksGo_15 : decode cX5_ticksGo 15 = .ok (.putfield 140, 3) := by decide +kernel
theorem dX5_ticksGo_18 : decode cX5_ticksGo 18 = .ok (.aload_n 0, 1) := by decide +kernel
theorem dX5_ticksGo_19 : decode cX5_ticksGo 19 = .ok (.iconst 0, 1) := by decide +kernel
theorem dX5_ticksGo_20 : decode cX5_ticksGo 20 = .ok (.putfield 161, 3) := by decide +kernel
theorem dX5_ticksGo_23 : decode cX5_ticksGo 23 = .ok (.iconst 0, 1) := by decide +kernel
theorem dX5_ticksGo_24 : decode cX5_ticksGo 24 = .ok (.istore_n 3, 1) := by decide +kernel
theorem dX5_ticksGo_25 : decode cX5_ticksGo 25 = .ok (.iload_n 3, 1) := by decide +kernel
theorem dX5_ticksGo_26 : decode cX5_ticksGo 26 = .ok (.iload_n 2, 1) := by decide +kernel
theorem dX5_ticksGo_27 : decode cX5_ticksGo 27 = .ok (.if_icmp .ge 17, 3) := by decide +kernel
theorem dX5_ticksGo_30 : decode cX5_ticksGo 30 = .ok (.aload_n 0, 1) := by decide +kernel
theorem dX5_ticksGo_31 : decode cX5_ticksGo 31 = .ok (.sipush 208, 3) := by decide +kernel
theorem dX5_ticksGo_34 : decode cX5_ticksGo 34 = .ok (.iconst 0, 1) := by decide +kernel
theorem dX5_ticksGo_35 : decode cX5_ticksGo 35 = .ok (.invokevirtual 201, 3) := by decide +kernel
theorem dX5_ticksGo_38 : decode cX5_ticksGo 38 = .ok (.iinc 3 1, 3) := by decide +kernel
theorem dX5_ticksGo_41 : decode cX5_ticksGo 41 = .ok (.goto (-16), 3) := by decide +kernel
theorem dX5_ticksGo_44 : decode cX5_ticksGo 44 = .ok (.aload_n 0, 1) := by decide +kernel
theorem dX5_ticksGo_45 : decode cX5_ticksGo 45 = .ok (.getfield 161, 3) := by decide +kernel
theorem dX5_ticksGo_48 : decode cX5_ticksGo 48 = .ok (.ireturn, 1) := by decide +kernel
theorem dX5_runs_0 : decode cX5_runs 0 = .ok (.iload_n 1, 1) := by decide +kernel
theorem dX5_runs_1 : decode cX5_runs 1 = .ok (.invokestatic 209, 3) := by decide +kernel
theorem dX5_runs_4 : decode cX5_runs 4 = .ok (.ifCond .eq 15, 3) := by decide +kernel
theorem dX5_runs_7 : decode cX5_runs 7 = .ok (.iload_n 2, 1) := by decide +kernel
theorem dX5_runs_8 : decode cX5_runs 8 = .ok (.i2l, 1) := by decide +kernel
theorem dX5_runs_9 : decode cX5_runs 9 = .ok (.lconst 0, 1) := by decide +kernel
theorem dX5_runs_10 : decode cX5_runs 10 = .ok (.ldc2_w 180, 3) := by decide +kernel
theorem dX5_runs_13 : decode cX5_runs 13 = .ok (.invokestatic 53, 3) := by decide +kernel
theorem dX5_runs_16 : decode cX5_runs 16 = .ok (.ifCond .ne 5, 3) := by decide +kernel
theorem dX5_runs_19 : decode cX5_runs 19 = .ok (.iconst (-1), 1) := by decide +kernel
theorem dX5_runs_20 : decode cX5_runs 20 = .ok (.ireturn, 1) := by decide +kernel
theorem dX5_runs_21 : decode cX5_runs 21 = .ok (.aload_n 0, 1) := by decide +kernel
theorem dX5_runs_22 : decode cX5_runs 22 = .ok (.iconst 0, 1) := by decide +kernel
theorem dX5_runs_23 : decode cX5_runs 23 = .ok (.iload_n 1, 1) := by decide +kernel
theorem dX5_runs_24 : decode cX5_runs 24 = .ok (.invokevirtual 212, 3) := by decide +kernel
theorem dX5_runs_27 : decode cX5_runs 27 = .ok (.istore_n 3, 1) := by decide +kernel
theorem dX5_runs_28 : decode cX5_runs 28 = .ok (.iload_n 2, 1) := by decide +kernel
theorem dX5_runs_29 : decode cX5_runs 29 = .ok (.ifCond .ne 10, 3) := by decide +kernel
theorem dX5_runs_32 : decode cX5_runs 32 = .ok (.aload_n 0, 1) := by decide +kernel
theorem dX5_runs_33 : decode cX5_runs 33 = .ok (.getfield 143, 3) := by decide +kernel
theorem dX5_runs_36 : decode cX5_runs 36 = .ok (.goto 31, 3) := by decide +kernel
theorem dX5_runs_39 : decode cX5_runs 39 = .ok (.iload_n 2, 1) := by decide +kernel
theorem dX5_runs_40 : decode cX5_runs 40 = .ok (.iconst 1, 1) := by decide +kernel
theorem dX5_runs_41 : decode cX5_runs 41 = .ok (.if_icmp .ne 7, 3) := by decide +kernel
theorem dX5_runs_44 : decode cX5_runs 44 = .ok (.iload_n 3, 1) := by decide +kernel
theorem dX5_runs_45 : decode cX5_runs 45 = .ok (.goto 22, 3) := by decide +kernel
theorem dX5_runs_48 : decode cX5_runs 48 = .ok (.iload_n 2, 1) := by decide +kernel
theorem dX5_runs_49 : decode cX5_runs 49 = .ok (.iconst 2, 1) := by decide +kernel
theorem dX5_runs_50 : decode cX5_runs 50 = .ok (.if_icmp .ne 13, 3) := by decide +kernel
theorem dX5_runs_53 : decode cX5_runs 53 = .ok (.aload_n 0, 1) := by decide +kernel
theorem dX5_runs_54 : decode cX5_runs 54 = .ok (.sipush 208, 3) := by decide +kernel
theorem dX5_runs_57 : decode cX5_runs 57 = .ok (.invokevirtual 158, 3) := by decide +kernel
theorem dX5_runs_60 : decode cX5_runs 60 = .ok (.goto 7, 3) := by decide +kernel
theorem dX5_runs_63 : decode cX5_runs 63 = .ok (.aload_n 0, 1) := by decide +kernel
theorem dX5_runs_64 : decode cX5_runs 64 = .ok (.getfield 140, 3) := by decide +kernel
theorem dX5_runs_67 : decode cX5_runs 67 = .ok (.ireturn, 1) := by decide +kernel
theorem dX5_ahead_0 : decode cX5_ahead 0 = .ok (.aload_n 0, 1) := by decide +kernel
theorem dX5_ahead_1 : decode cX5_ahead 1 = .ok (.iload_n 1, 1) := by decide +kernel
theorem dX5_ahead_2 : decode cX5_ahead 2 = .ok (.invokevirtual 171, 3) := by decide +kernel
theorem dX5_ahead_5 : decode cX5_ahead 5 = .ok (.ifCond .eq 20, 3) := by decide +kernel
theorem dX5_ahead_8 : decode cX5_ahead 8 = .ok (.iload_n 2, 1) := by decide +kernel
theorem dX5_ahead_9 : decode cX5_ahead 9 = .ok (.invokestatic 209, 3) := by decide +kernel
theorem dX5_ahead_12 : decode cX5_ahead 12 = .ok (.ifCond .eq 13, 3) := by decide +kernel
theorem dX5_ahead_15 : decode cX5_ahead 15 = .ok (.iload_n 3, 1) := by decide +kernel
theorem dX5_ahead_16 : decode cX5_ahead 16 = .ok (.i2l, 1) := by decide +kernel
theorem dX5_ahead_17 : decode cX5_ahead 17 = .ok (.lconst 0, 1) := by decide +kernel
theorem dX5_ahead_18 : decode cX5_ahead 18 = .ok (.lconst 1, 1) := by decide +kernel
theorem dX5_ahead_19 : decode cX5_ahead 19 = .ok (.invokestatic 53, 3) := by decide +kernel
theorem dX5_ahead_22 : decode cX5_ahead 22 = .ok (.ifCond .ne 5, 3) := by decide +kernel
theorem dX5_ahead_25 : decode cX5_ahead 25 = .ok (.iconst (-1), 1) := by decide +kernel
theorem dX5_ahead_26 : decode cX5_ahead 26 = .ok (.ireturn, 1) := by decide +kernel
theorem dX5_ahead_27 : decode cX5_ahead 27 = .ok (.aload_n 0, 1) := by decide +kernel
theorem dX5_ahead_28 : decode cX5_ahead 28 = .ok (.iconst 0, 1) := by decide +kernel
theorem dX5_ahead_29 : decode cX5_ahead 29 = .ok (.iload_n 2, 1) := by decide +kernel
theorem dX5_ahead_30 : decode cX5_ahead 30 = .ok (.invokevirtual 212, 3) := by decide +kernel
theorem dX5_ahead_33 : decode cX5_ahead 33 = .ok (.pop, 1) := by decide +kernel
theorem dX5_ahead_34 : decode cX5_ahead 34 = .ok (.iload_n 3, 1) := by decide +kernel
theorem dX5_ahead_35 : decode cX5_ahead 35 = .ok (.ifCond .ne 16, 3) := by decide +kernel
theorem dX5_ahead_38 : decode cX5_ahead 38 = .ok (.aload_n 0, 1) := by decide +kernel
theorem dX5_ahead_39 : decode cX5_ahead 39 = .ok (.getfield 7, 3) := by decide +kernel
theorem dX5_ahead_42 : decode cX5_ahead 42 = .ok (.sipush 224, 3) := by decide +kernel
theorem dX5_ahead_45 : decode cX5_ahead 45 = .ok (.iload_n 1, 1) := by decide +kernel
theorem dX5_ahead_46 : decode cX5_ahead 46 = .ok (.iadd, 1) := by decide +kernel
theorem dX5_ahead_47 : decode cX5_ahead 47 = .ok (.iaload, 1) := by decide +kernel
theorem dX5_ahead_48 : decode cX5_ahead 48 = .ok (.goto 16, 3) := by decide +kernel
theorem dX5_ahead_51 : decode cX5_ahead 51 = .ok (.bipush 100, 2) := by decide +kernel
theorem dX5_ahead_53 : decode cX5_ahead 53 = .ok (.aload_n 0, 1) := by decide +kernel
theorem dX5_ahead_54 : decode cX5_ahead 54 = .ok (.getfield 7, 3) := by decide +kernel
theorem dX5_ahead_57 : decode cX5_ahead 57 = .ok (.sipush 228, 3) := by decide +kernel
theorem dX5_ahead_60 : decode cX5_ahead 60 = .ok (.iload_n 1, 1) := by decide +kernel
theorem dX5_ahead_61 : decode cX5_ahead 61 = .ok (.iadd, 1) := by decide +kernel
theorem dX5_ahead_62 : decode cX5_ahead 62 = .ok (.iaload, 1) := by decide +kernel
theorem dX5_ahead_63 : decode cX5_ahead 63 = .ok (.iadd, 1) := by decide +kernel
theorem dX5_ahead_64 : decode cX5_ahead 64 = .ok (.ireturn, 1) := by decide +kernel
theorem dX5_when_0 : decode cX5_when 0 = .ok (.aload_n 0, 1) := by decide +kernel
theorem dX5_when_1 : decode cX5_when 1 = .ok (.iload_n 1, 1) := by decide +kernel
theorem dX5_when_2 : decode cX5_when 2 = .ok (.invokevirtual 171, 3) := by decide +kernel
theorem dX5_when_5 : decode cX5_when 5 = .ok (.ifCond .eq 15, 3) := by decide +kernel
theorem dX5_when_8 : decode cX5_when 8 = .ok (.iload_n 2, 1) := by decide +kernel
theorem dX5_when_9 : decode cX5_when 9 = .ok (.i2l, 1) := by decide +kernel
theorem dX5_when_10 : decode cX5_when 10 = .ok (.lconst 0, 1) := by decide +kernel
theorem dX5_when_11 : decode cX5_when 11 = .ok (.ldc2_w 138, 3) := by decide +kernel
theorem dX5_when_14 : decode cX5_when 14 = .ok (.invokestatic 53, 3) := by decide +kernel
theorem dX5_when_17 : decode cX5_when 17 = .ok (.ifCond .ne 5, 3) := by decide +kernel
theorem dX5_when_20 : decode cX5_when 20 = .ok (.iconst (-1), 1) := by decide +kernel
theorem dX5_when_21 : decode cX5_when 21 = .ok (.ireturn, 1) := by decide +kernel
theorem dX5_when_22 : decode cX5_when 22 = .ok (.iload_n 2, 1) := by decide +kernel
theorem dX5_when_23 : decode cX5_when 23 = .ok (.aload_n 0, 1) := by decide +kernel
theorem dX5_when_24 : decode cX5_when 24 = .ok (.getfield 7, 3) := by decide +kernel
theorem dX5_when_27 : decode cX5_when 27 = .ok (.bipush 16, 2) := by decide +kernel
theorem dX5_when_29 : decode cX5_when 29 = .ok (.iload_n 1, 1) := by decide +kernel
theorem dX5_when_30 : decode cX5_when 30 = .ok (.iadd, 1) := by decide +kernel
theorem dX5_when_31 : decode cX5_when 31 = .ok (.iaload, 1) := by decide +kernel
theorem dX5_when_32 : decode cX5_when 32 = .ok (.isub, 1) := by decide +kernel
theorem dX5_when_33 : decode cX5_when 33 = .ok (.istore_n 3, 1) := by decide +kernel
theorem dX5_when_34 : decode cX5_when 34 = .ok (.aload_n 0, 1) := by decide +kernel
theorem dX5_when_35 : decode cX5_when 35 = .ok (.iconst 0, 1) := by decide +kernel
theorem dX5_when_36 : decode cX5_when 36 = .ok (.sipush 208, 3) := by decide +kernel
theorem dX5_when_39 : decode cX5_when 39 = .ok (.invokevirtual 205, 3) := by decide +kernel
theorem dX5_when_42 : decode cX5_when 42 = .ok (.iconst 0, 1) := by decide +kernel
theorem dX5_when_43 : decode cX5_when 43 = .ok (.istore 4, 2) := by decide +kernel
theorem dX5_when_45 : decode cX5_when 45 = .ok (.iload 4, 2) := by decide +kernel
theorem dX5_when_47 : decode cX5_when 47 = .ok (.sipush 200, 3) := by decide +kernel
theorem dX5_when_50 : decode cX5_when 50 = .ok (.if_icmp .gt 66, 3) := by decide +kernel
theorem dX5_when_53 : decode cX5_when 53 = .ok (.aload_n 0, 1) := by decide +kernel
theorem dX5_when_54 : decode cX5_when 54 = .ok (.getfield 7, 3) := by decide +kernel
theorem dX5_when_57 : decode cX5_when 57 = .ok (.sipush 224, 3) := by decide +kernel
theorem dX5_when_60 : decode cX5_when 60 = .ok (.iload_n 1, 1) := by decide +kernel
theorem dX5_when_61 : decode cX5_when 61 = .ok (.iadd, 1) := by decide +kernel
theorem dX5_when_62 : decode cX5_when 62 = .ok (.iaload, 1) := by decide +kernel
theorem dX5_when_63 : decode cX5_when 63 = .ok (.aload_n 0, 1) := by decide +kernel
theorem dX5_when_64 : decode cX5_when 64 = .ok (.getfield 7, 3) := by decide +kernel
theorem dX5_when_67 : decode cX5_when 67 = .ok (.bipush 16, 2) := by decide +kernel
theorem dX5_when_69 : decode cX5_when 69 = .ok (.iload_n 1, 1) := by decide +kernel
theorem dX5_when_70 : decode cX5_when 70 = .ok (.iadd, 1) := by decide +kernel
theorem dX5_when_71 : decode cX5_when 71 = .ok (.iaload, 1) := by decide +kernel
theorem dX5_when_72 : decode cX5_when 72 = .ok (.isub, 1) := by decide +kernel
theorem dX5_when_73 : decode cX5_when 73 = .ok (.istore 5, 2) := by decide +kernel
theorem dX5_when_75 : decode cX5_when 75 = .ok (.iload_n 3, 1) := by decide +kernel
theorem dX5_when_76 : decode cX5_when 76 = .ok (.ifCond .eq 23, 3) := by decide +kernel
theorem dX5_when_79 : decode cX5_when 79 = .ok (.iload_n 3, 1) := by decide +kernel
theorem dX5_when_80 : decode cX5_when 80 = .ok (.ifCond .le 9, 3) := by decide +kernel
theorem dX5_when_83 : decode cX5_when 83 = .ok (.iload 5, 2) := by decide +kernel
theorem dX5_when_85 : decode cX5_when 85 = .ok (.iload_n 3, 1) := by decide +kernel
theorem dX5_when_86 : decode cX5_when 86 = .ok (.if_icmp .ge 13, 3) := by decide +kernel
theorem dX5_when_89 : decode cX5_when 89 = .ok (.iload_n 3, 1) := by decide +kernel
theorem dX5_when_90 : decode cX5_when 90 = .ok (.ifCond .ge 12, 3) := by decide +kernel
theorem dX5_when_93 : decode cX5_when 93 = .ok (.iload 5, 2) := by decide +kernel
theorem dX5_when_95 : decode cX5_when 95 = .ok (.iload_n 3, 1) := by decide +kernel
theorem dX5_when_96 : decode cX5_when 96 = .ok (.if_icmp .gt 6, 3) := by decide +kernel
theorem dX5_when_99 : decode cX5_when 99 = .ok (.iload 4, 2) := by decide +kernel
theorem dX5_when_101 : decode cX5_when 101 = .ok (.ireturn, 1) := by decide +kernel
theorem dX5_when_102 : decode cX5_when 102 = .ok (.aload_n 0, 1) := by decide +kernel
theorem dX5_when_103 : decode cX5_when 103 = .ok (.sipush 208, 3) := by decide +kernel
theorem dX5_when_106 : decode cX5_when 106 = .ok (.iconst 0, 1) := by decide +kernel
theorem dX5_when_107 : decode cX5_when 107 = .ok (.invokevirtual 201, 3) := by decide +kernel
theorem dX5_when_110 : decode cX5_when 110 = .ok (.iinc 4 1, 3) := by decide +kernel
theorem dX5_when_113 : decode cX5_when 113 = .ok (.goto (-68), 3) := by decide +kernel
theorem dX5_when_116 : decode cX5_when 116 = .ok (.bipush (-4), 2) := by decide +kernel
theorem dX5_when_118 : decode cX5_when 118 = .ok (.ireturn, 1) := by decide +kernel
theorem dX5_rests_0 : decode cX5_rests 0 = .ok (.aload_n 0, 1) := by decide +kernel
theorem dX5_rests_1 : decode cX5_rests 1 = .ok (.iconst 0, 1) := by decide +kernel
theorem dX5_rests_2 : decode cX5_rests 2 = .ok (.sipush 208, 3) := by decide +kernel
theorem dX5_rests_5 : decode cX5_rests 5 = .ok (.invokevirtual 205, 3) := by decide +kernel
theorem dX5_rests_8 : decode cX5_rests 8 = .ok (.iconst 0, 1) := by decide +kernel
theorem dX5_rests_9 : decode cX5_rests 9 = .ok (.istore_n 1, 1) := by decide +kernel
theorem dX5_rests_10 : decode cX5_rests 10 = .ok (.iload_n 1, 1) := by decide +kernel
theorem dX5_rests_11 : decode cX5_rests 11 = .ok (.sipush 200, 3) := by decide +kernel
theorem dX5_rests_14 : decode cX5_rests 14 = .ok (.if_icmp .gt 37, 3) := by decide +kernel
theorem dX5_rests_17 : decode cX5_rests 17 = .ok (.aload_n 0, 1) := by decide +kernel
theorem dX5_rests_18 : decode cX5_rests 18 = .ok (.iconst 0, 1) := by decide +kernel
theorem dX5_rests_19 : decode cX5_rests 19 = .ok (.putfield 143, 3) := by decide +kernel
theorem dX5_rests_22 : decode cX5_rests 22 = .ok (.aload_n 0, 1) := by decide +kernel
theorem dX5_rests_23 : decode cX5_rests 23 = .ok (.sipush 208, 3) := by decide +kernel
theorem dX5_rests_26 : decode cX5_rests 26 = .ok (.invokevirtual 168, 3) := by decide +kernel
theorem dX5_rests_29 : decode cX5_rests 29 = .ok (.aload_n 0, 1) := by decide +kernel
theorem dX5_rests_30 : decode cX5_rests 30 = .ok (.getfield 143, 3) := by decide +kernel
theorem dX5_rests_33 : decode cX5_rests 33 = .ok (.ifCond .ne 12, 3) := by decide +kernel
theorem dX5_rests_36 : decode cX5_rests 36 = .ok (.aload_n 0, 1) := by decide +kernel
theorem dX5_rests_37 : decode cX5_rests 37 = .ok (.getfield 155, 3) := by decide +kernel
theorem dX5_rests_40 : decode cX5_rests 40 = .ok (.ifCond .ne 5, 3) := by decide +kernel
theorem dX5_rests_43 : decode cX5_rests 43 = .ok (.iload_n 1, 1) := by decide +kernel
theorem dX5_rests_44 : decode cX5_rests 44 = .ok (.ireturn, 1) := by decide +kernel
theorem dX5_rests_45 : decode cX5_rests 45 = .ok (.iinc 1 1, 3) := by decide +kernel
theorem dX5_rests_48 : decode cX5_rests 48 = .ok (.goto (-38), 3) := by decide +kernel
theorem dX5_rests_51 : decode cX5_rests 51 = .ok (.bipush (-4), 2) := by decide +kernel
theorem dX5_rests_53 : decode cX5_rests 53 = .ok (.ireturn, 1) := by decide +kernel
theorem dX5_leastAt_0 : decode cX5_leastAt 0 = .ok (.ldc 215, 2) := by decide +kernel
theorem dX5_leastAt_2 : decode cX5_leastAt 2 = .ok (.istore 6, 2) := by decide +kernel
theorem dX5_leastAt_4 : decode cX5_leastAt 4 = .ok (.iload_n 2, 1) := by decide +kernel
theorem dX5_leastAt_5 : decode cX5_leastAt 5 = .ok (.istore 7, 2) := by decide +kernel
theorem dX5_leastAt_7 : decode cX5_leastAt 7 = .ok (.aload_n 0, 1) := by decide +kernel
theorem dX5_leastAt_8 : decode cX5_leastAt 8 = .ok (.iconst 0, 1) := by decide +kernel
theorem dX5_leastAt_9 : decode cX5_leastAt 9 = .ok (.sipush 260, 3) := by decide +kernel
theorem dX5_leastAt_12 : decode cX5_leastAt 12 = .ok (.invokevirtual 205, 3) := by decide +kernel
theorem dX5_leastAt_15 : decode cX5_leastAt 15 = .ok (.iload_n 2, 1) := by decide +kernel
theorem dX5_leastAt_16 : decode cX5_leastAt 16 = .ok (.istore 8, 2) := by decide +kernel
theorem dX5_leastAt_18 : decode cX5_leastAt 18 = .ok (.iload 8, 2) := by decide +kernel
theorem dX5_leastAt_20 : decode cX5_leastAt 20 = .ok (.iload_n 3, 1) := by decide +kernel
theorem dX5_leastAt_21 : decode cX5_leastAt 21 = .ok (.if_icmp .gt 64, 3) := by decide +kernel
theorem dX5_leastAt_24 : decode cX5_leastAt 24 = .ok (.aload_n 0, 1) := by decide +kernel
theorem dX5_leastAt_25 : decode cX5_leastAt 25 = .ok (.getfield 7, 3) := by decide +kernel
theorem dX5_leastAt_28 : decode cX5_leastAt 28 = .ok (.sipush 260, 3) := by decide +kernel
theorem dX5_leastAt_31 : decode cX5_leastAt 31 = .ok (.iload_n 1, 1) := by decide +kernel
theorem dX5_leastAt_32 : decode cX5_leastAt 32 = .ok (.iadd, 1) := by decide +kernel
theorem dX5_leastAt_33 : decode cX5_leastAt 33 = .ok (.iload 8, 2) := by decide +kernel
theorem dX5_leastAt_35 : decode cX5_leastAt 35 = .ok (.iastore, 1) := by decide +kernel
theorem dX5_leastAt_36 : decode cX5_leastAt 36 = .ok (.aload_n 0, 1) := by decide +kernel
theorem dX5_leastAt_37 : decode cX5_leastAt 37 = .ok (.sipush 260, 3) := by decide +kernel
theorem dX5_leastAt_40 : decode cX5_leastAt 40 = .ok (.iload 4, 2) := by decide +kernel
theorem dX5_leastAt_42 : decode cX5_leastAt 42 = .ok (.invokevirtual 212, 3) := by decide +kernel
theorem dX5_leastAt_45 : decode cX5_leastAt 45 = .ok (.istore 9, 2) := by decide +kernel
theorem dX5_leastAt_47 : decode cX5_leastAt 47 = .ok (.iload 9, 2) := by decide +kernel
theorem dX5_leastAt_49 : decode cX5_leastAt 49 = .ok (.iload 6, 2) := by decide +kernel
theorem dX5_leastAt_51 : decode cX5_leastAt 51 = .ok (.if_icmp .ge 8, 3) := by decide +kernel
theorem dX5_leastAt_54 : decode cX5_leastAt 54 = .ok (.iload 8, 2) := by decide +kernel
theorem dX5_leastAt_56 : decode cX5_leastAt 56 = .ok (.goto 5, 3) := by decide +kernel
theorem dX5_leastAt_59 : decode cX5_leastAt 59 = .ok (.iload 7, 2) := by decide +kernel
theorem dX5_leastAt_61 : decode cX5_leastAt 61 = .ok (.istore 7, 2) := by decide +kernel
theorem dX5_leastAt_63 : decode cX5_leastAt 63 = .ok (.iload 9, 2) := by decide +kernel
theorem dX5_leastAt_65 : decode cX5_leastAt 65 = .ok (.iload 6, 2) := by decide +kernel
theorem dX5_leastAt_67 : decode cX5_leastAt 67 = .ok (.if_icmp .ge 8, 3) := by decide +kernel
theorem dX5_leastAt_70 : decode cX5_leastAt 70 = .ok (.iload 9, 2) := by decide +kernel
theorem dX5_leastAt_72 : decode cX5_leastAt 72 = .ok (.goto 5, 3) := by decide +kernel
theorem dX5_leastAt_75 : decode cX5_leastAt 75 = .ok (.iload 6, 2) := by decide +kernel
theorem dX5_leastAt_77 : decode cX5_leastAt 77 = .ok (.istore 6, 2) := by decide +kernel
theorem dX5_leastAt_79 : decode cX5_leastAt 79 = .ok (.iinc 8 1, 3) := by decide +kernel
theorem dX5_leastAt_82 : decode cX5_leastAt 82 = .ok (.goto (-64), 3) := by decide +kernel
theorem dX5_leastAt_85 : decode cX5_leastAt 85 = .ok (.iload 5, 2) := by decide +kernel
theorem dX5_leastAt_87 : decode cX5_leastAt 87 = .ok (.ifCond .ne 8, 3) := by decide +kernel
theorem dX5_leastAt_90 : decode cX5_leastAt 90 = .ok (.iload 7, 2) := by decide +kernel
theorem dX5_leastAt_92 : decode cX5_leastAt 92 = .ok (.goto 5, 3) := by decide +kernel
theorem dX5_leastAt_95 : decode cX5_leastAt 95 = .ok (.iload 6, 2) := by decide +kernel
theorem dX5_leastAt_97 : decode cX5_leastAt 97 = .ok (.ireturn, 1) := by decide +kernel
theorem dX5_isAsked_0 : decode cX5_isAsked 0 = .ok (.aload_n 0, 1) := by decide +kernel
theorem dX5_isAsked_1 : decode cX5_isAsked 1 = .ok (.iload_n 1, 1) := by decide +kernel
theorem dX5_isAsked_2 : decode cX5_isAsked 2 = .ok (.invokevirtual 171, 3) := by decide +kernel
theorem dX5_isAsked_5 : decode cX5_isAsked 5 = .ok (.ifCond .eq 29, 3) := by decide +kernel
theorem dX5_isAsked_8 : decode cX5_isAsked 8 = .ok (.iload_n 2, 1) := by decide +kernel
theorem dX5_isAsked_9 : decode cX5_isAsked 9 = .ok (.i2l, 1) := by decide +kernel
theorem dX5_isAsked_10 : decode cX5_isAsked 10 = .ok (.lconst 0, 1) := by decide +kernel
theorem dX5_isAsked_11 : decode cX5_isAsked 11 = .ok (.ldc2_w 199, 3) := by decide +kernel
theorem dX5_isAsked_14 : decode cX5_isAsked 14 = .ok (.invokestatic 53, 3) := by decide +kernel
theorem dX5_isAsked_17 : decode cX5_isAsked 17 = .ok (.ifCond .eq 17, 3) := by decide +kernel
theorem dX5_isAsked_20 : decode cX5_isAsked 20 = .ok (.iload_n 3, 1) := by decide +kernel
theorem dX5_isAsked_21 : decode cX5_isAsked 21 = .ok (.i2l, 1) := by decide +kernel
theorem dX5_isAsked_22 : decode cX5_isAsked 22 = .ok (.lconst 0, 1) := by decide +kernel
theorem dX5_isAsked_23 : decode cX5_isAsked 23 = .ok (.lconst 1, 1) := by decide +kernel
theorem dX5_isAsked_24 : decode cX5_isAsked 24 = .ok (.invokestatic 53, 3) := by decide +kernel
theorem dX5_isAsked_27 : decode cX5_isAsked 27 = .ok (.ifCond .eq 7, 3) := by decide +kernel
theorem dX5_isAsked_30 : decode cX5_isAsked 30 = .ok (.iconst 1, 1) := by decide +kernel
theorem dX5_isAsked_31 : decode cX5_isAsked 31 = .ok (.goto 4, 3) := by decide +kernel
theorem dX5_isAsked_34 : decode cX5_isAsked 34 = .ok (.iconst 0, 1) := by decide +kernel
theorem dX5_isAsked_35 : decode cX5_isAsked 35 = .ok (.ireturn, 1) := by decide +kernel
theorem dX5_stiff_0 : decode cX5_stiff 0 = .ok (.aload_n 0, 1) := by decide +kernel
theorem dX5_stiff_1 : decode cX5_stiff 1 = .ok (.iload_n 1, 1) := by decide +kernel
theorem dX5_stiff_2 : decode cX5_stiff 2 = .ok (.iload_n 2, 1) := by decide +kernel
theorem dX5_stiff_3 : decode cX5_stiff 3 = .ok (.iload_n 3, 1) := by decide +kernel
theorem dX5_stiff_4 : decode cX5_stiff 4 = .ok (.invokevirtual 216, 3) := by decide +kernel
theorem dX5_stiff_7 : decode cX5_stiff 7 = .ok (.ifCond .eq 19, 3) := by decide +kernel
theorem dX5_stiff_10 : decode cX5_stiff 10 = .ok (.aload_n 0, 1) := by decide +kernel
theorem dX5_stiff_11 : decode cX5_stiff 11 = .ok (.bipush 8, 2) := by decide +kernel
theorem dX5_stiff_13 : decode cX5_stiff 13 = .ok (.iload_n 1, 1) := by decide +kernel
theorem dX5_stiff_14 : decode cX5_stiff 14 = .ok (.iadd, 1) := by decide +kernel
theorem dX5_stiff_15 : decode cX5_stiff 15 = .ok (.iconst 0, 1) := by decide +kernel
theorem dX5_stiff_16 : decode cX5_stiff 16 = .ok (.bipush 9, 2) := by decide +kernel
theorem dX5_stiff_18 : decode cX5_stiff 18 = .ok (.iload_n 2, 1) := by decide +kernel
theorem dX5_stiff_19 : decode cX5_stiff 19 = .ok (.iload_n 3, 1) := by decide +kernel
theorem dX5_stiff_20 : decode cX5_stiff 20 = .ok (.invokevirtual 220, 3) := by decide +kernel
theorem dX5_stiff_23 : decode cX5_stiff 23 = .ok (.goto 4, 3) := by decide +kernel
theorem dX5_stiff_26 : decode cX5_stiff 26 = .ok (.iconst (-1), 1) := by decide +kernel
theorem dX5_stiff_27 : decode cX5_stiff 27 = .ok (.ireturn, 1) := by decide +kernel
theorem dX5_rest_0 : decode cX5_rest 0 = .ok (.aload_n 0, 1) := by decide +kernel
theorem dX5_rest_1 : decode cX5_rest 1 = .ok (.iload_n 1, 1) := by decide +kernel
theorem dX5_rest_2 : decode cX5_rest 2 = .ok (.iload_n 2, 1) := by decide +kernel
theorem dX5_rest_3 : decode cX5_rest 3 = .ok (.iload_n 3, 1) := by decide +kernel
theorem dX5_rest_4 : decode cX5_rest 4 = .ok (.invokevirtual 216, 3) := by decide +kernel
theorem dX5_rest_7 : decode cX5_rest 7 = .ok (.ifCond .eq 18, 3) := by decide +kernel
theorem dX5_rest_10 : decode cX5_rest 10 = .ok (.aload_n 0, 1) := by decide +kernel
theorem dX5_rest_11 : decode cX5_rest 11 = .ok (.iconst 4, 1) := by decide +kernel
theorem dX5_rest_12 : decode cX5_rest 12 = .ok (.iload_n 1, 1) := by decide +kernel
theorem dX5_rest_13 : decode cX5_rest 13 = .ok (.iadd, 1) := by decide +kernel
theorem dX5_rest_14 : decode cX5_rest 14 = .ok (.iconst 0, 1) := by decide +kernel
theorem dX5_rest_15 : decode cX5_rest 15 = .ok (.bipush 60, 2) := by decide +kernel
theorem dX5_rest_17 : decode cX5_rest 17 = .ok (.iload_n 2, 1) := by decide +kernel
theorem dX5_rest_18 : decode cX5_rest 18 = .ok (.iload_n 3, 1) := by decide +kernel
theorem dX5_rest_19 : decode cX5_rest 19 = .ok (.invokevirtual 220, 3) := by decide +kernel
theorem dX5_rest_22 : decode cX5_rest 22 = .ok (.goto 4, 3) := by decide +kernel
theorem dX5_rest_25 : decode cX5_rest 25 = .ok (.iconst (-1), 1) := by decide +kernel
theorem dX5_rest_26 : decode cX5_rest 26 = .ok (.ireturn, 1) := by decide +kernel
theorem dX5_kind_0 : decode cX5_kind 0 = .ok (.aload_n 0, 1) := by decide +kernel
theorem dX5_kind_1 : decode cX5_kind 1 = .ok (.iload_n 1, 1) := by decide +kernel
theorem dX5_kind_2 : decode cX5_kind 2 = .ok (.iload_n 2, 1) := by decide +kernel
theorem dX5_kind_3 : decode cX5_kind 3 = .ok (.iload_n 3, 1) := by decide +kernel
theorem dX5_kind_4 : decode cX5_kind 4 = .ok (.invokevirtual 216, 3) := by decide +kernel
theorem dX5_kind_7 : decode cX5_kind 7 = .ok (.ifCond .eq 15, 3) := by decide +kernel
theorem dX5_kind_10 : decode cX5_kind 10 = .ok (.aload_n 0, 1) := by decide +kernel
theorem dX5_kind_11 : decode cX5_kind 11 = .ok (.iload_n 1, 1) := by decide +kernel
theorem dX5_kind_12 : decode cX5_kind 12 = .ok (.iconst 0, 1) := by decide +kernel
theorem dX5_kind_13 : decode cX5_kind 13 = .ok (.iconst 3, 1) := by decide +kernel
theorem dX5_kind_14 : decode cX5_kind 14 = .ok (.iload_n 2, 1) := by decide +kernel
theorem dX5_kind_15 : decode cX5_kind 15 = .ok (.iload_n 3, 1) := by decide +kernel
theorem dX5_kind_16 : decode cX5_kind 16 = .ok (.invokevirtual 220, 3) := by decide +kernel
theorem dX5_kind_19 : decode cX5_kind 19 = .ok (.goto 4, 3) := by decide +kernel
theorem dX5_kind_22 : decode cX5_kind 22 = .ok (.iconst (-1), 1) := by decide +kernel
theorem dX5_kind_23 : decode cX5_kind 23 = .ok (.ireturn, 1) := by decide +kernel
theorem dX5_mass_0 : decode cX5_mass 0 = .ok (.aload_n 0, 1) := by decide +kernel
theorem dX5_mass_1 : decode cX5_mass 1 = .ok (.iload_n 1, 1) := by decide +kernel
theorem dX5_mass_2 : decode cX5_mass 2 = .ok (.iload_n 2, 1) := by decide +kernel
theorem dX5_mass_3 : decode cX5_mass 3 = .ok (.iload_n 3, 1) := by decide +kernel
theorem dX5_mass_4 : decode cX5_mass 4 = .ok (.invokevirtual 216, 3) := by decide +kernel
theorem dX5_mass_7 : decode cX5_mass 7 = .ok (.ifCond .eq 19, 3) := by decide +kernel
theorem dX5_mass_10 : decode cX5_mass 10 = .ok (.aload_n 0, 1) := by decide +kernel
theorem dX5_mass_11 : decode cX5_mass 11 = .ok (.bipush 12, 2) := by decide +kernel
theorem dX5_mass_13 : decode cX5_mass 13 = .ok (.iload_n 1, 1) := by decide +kernel
theorem dX5_mass_14 : decode cX5_mass 14 = .ok (.iadd, 1) := by decide +kernel
theorem dX5_mass_15 : decode cX5_mass 15 = .ok (.iconst 1, 1) := by decide +kernel
theorem dX5_mass_16 : decode cX5_mass 16 = .ok (.bipush 9, 2) := by decide +kernel
theorem dX5_mass_18 : decode cX5_mass 18 = .ok (.iload_n 2, 1) := by decide +kernel
theorem dX5_mass_19 : decode cX5_mass 19 = .ok (.iload_n 3, 1) := by decide +kernel
theorem dX5_mass_20 : decode cX5_mass 20 = .ok (.invokevirtual 220, 3) := by decide +kernel
theorem dX5_mass_23 : decode cX5_mass 23 = .ok (.goto 4, 3) := by decide +kernel
theorem dX5_mass_26 : decode cX5_mass 26 = .ok (.iconst (-1), 1) := by decide +kernel
theorem dX5_mass_27 : decode cX5_mass 27 = .ok (.ireturn, 1) := by decide +kernel
theorem dX5_swap_0 : decode cX5_swap 0 = .ok (.iload_n 1, 1) := by decide +kernel
theorem dX5_swap_1 : decode cX5_swap 1 = .ok (.i2l, 1) := by decide +kernel
theorem dX5_swap_2 : decode cX5_swap 2 = .ok (.lconst 0, 1) := by decide +kernel
theorem dX5_swap_3 : decode cX5_swap 3 = .ok (.ldc2_w 199, 3) := by decide +kernel
theorem dX5_swap_6 : decode cX5_swap 6 = .ok (.invokestatic 53, 3) := by decide +kernel
theorem dX5_swap_9 : decode cX5_swap 9 = .ok (.ifCond .eq 13, 3) := by decide +kernel
theorem dX5_swap_12 : decode cX5_swap 12 = .ok (.iload_n 2, 1) := by decide +kernel
theorem dX5_swap_13 : decode cX5_swap 13 = .ok (.i2l, 1) := by decide +kernel
theorem dX5_swap_14 : decode cX5_swap 14 = .ok (.lconst 0, 1) := by decide +kernel
theorem dX5_swap_15 : decode cX5_swap 15 = .ok (.lconst 1, 1) := by decide +kernel
theorem dX5_swap_16 : decode cX5_swap 16 = .ok (.invokestatic 53, 3) := by decide +kernel
theorem dX5_swap_19 : decode cX5_swap 19 = .ok (.ifCond .ne 5, 3) := by decide +kernel
theorem dX5_swap_22 : decode cX5_swap 22 = .ok (.iconst (-1), 1) := by decide +kernel
theorem dX5_swap_23 : decode cX5_swap 23 = .ok (.ireturn, 1) := by decide +kernel
theorem dX5_swap_24 : decode cX5_swap 24 = .ok (.aload_n 0, 1) := by decide +kernel
theorem dX5_swap_25 : decode cX5_swap 25 = .ok (.iconst 0, 1) := by decide +kernel
theorem dX5_swap_26 : decode cX5_swap 26 = .ok (.iload_n 1, 1) := by decide +kernel
theorem dX5_swap_27 : decode cX5_swap 27 = .ok (.invokevirtual 212, 3) := by decide +kernel
theorem dX5_swap_30 : decode cX5_swap 30 = .ok (.istore_n 3, 1) := by decide +kernel
theorem dX5_swap_31 : decode cX5_swap 31 = .ok (.bipush (-4), 2) := by decide +kernel
theorem dX5_swap_33 : decode cX5_swap 33 = .ok (.istore 4, 2) := by decide +kernel
theorem dX5_swap_35 : decode cX5_swap 35 = .ok (.iconst 0, 1) := by decide +kernel
theorem dX5_swap_36 : decode cX5_swap 36 = .ok (.istore 5, 2) := by decide +kernel
theorem dX5_swap_38 : decode cX5_swap 38 = .ok (.iload 5, 2) := by decide +kernel
theorem dX5_swap_40 : decode cX5_swap 40 = .ok (.aload_n 0, 1) := by decide +kernel
theorem dX5_swap_41 : decode cX5_swap 41 = .ok (.getfield 7, 3) := by decide +kernel
theorem dX5_swap_44 : decode cX5_swap 44 = .ok (.bipush 49, 2) := by decide +kernel
theorem dX5_swap_46 : decode cX5_swap 46 = .ok (.iaload, 1) := by decide +kernel
theorem dX5_swap_47 : decode cX5_swap 47 = .ok (.if_icmp .ge 169, 3) := by decide +kernel
theorem dX5_swap_50 : decode cX5_swap 50 = .ok (.iload 5, 2) := by decide +kernel
theorem dX5_swap_52 : decode cX5_swap 52 = .ok (.iconst 1, 1) := by decide +kernel
theorem dX5_swap_53 : decode cX5_swap 53 = .ok (.iadd, 1) := by decide +kernel
theorem dX5_swap_54 : decode cX5_swap 54 = .ok (.istore 6, 2) := by decide +kernel
theorem dX5_swap_56 : decode cX5_swap 56 = .ok (.iload 6, 2) := by decide +kernel
theorem dX5_swap_58 : decode cX5_swap 58 = .ok (.aload_n 0, 1) := by decide +kernel
theorem dX5_swap_59 : decode cX5_swap 59 = .ok (.getfield 7, 3) := by decide +kernel
theorem dX5_swap_62 : decode cX5_swap 62 = .ok (.bipush 49, 2) := by decide +kernel
theorem dX5_swap_64 : decode cX5_swap 64 = .ok (.iaload, 1) := by decide +kernel
theorem dX5_swap_65 : decode cX5_swap 65 = .ok (.if_icmp .ge 145, 3) := by decide +kernel
theorem dX5_swap_68 : decode cX5_swap 68 = .ok (.aload_n 0, 1) := by decide +kernel
theorem dX5_swap_69 : decode cX5_swap 69 = .ok (.iconst 0, 1) := by decide +kernel
theorem dX5_swap_70 : decode cX5_swap 70 = .ok (.sipush 260, 3) := by decide +kernel
theorem dX5_swap_73 : decode cX5_swap 73 = .ok (.invokevirtual 205, 3) := by decide +kernel
theorem dX5_swap_76 : decode cX5_swap 76 = .ok (.aload_n 0, 1) := by decide +kernel
theorem dX5_swap_77 : decode cX5_swap 77 = .ok (.getfield 7, 3) := by decide +kernel
theorem dX5_swap_80 : decode cX5_swap 80 = .ok (.sipush 285, 3) := by decide +kernel
theorem dX5_swap_83 : decode cX5_swap 83 = .ok (.iload 5, 2) := by decide +kernel
theorem dX5_swap_85 : decode cX5_swap 85 = .ok (.iadd, 1) := by decide +kernel
theorem dX5_swap_86 : decode cX5_swap 86 = .ok (.aload_n 0, 1) := by decide +kernel
theorem dX5_swap_87 : decode cX5_swap 87 = .ok (.getfield 7, 3) := by decide +kernel
theorem dX5_swap_90 : decode cX5_swap 90 = .ok (.bipush 25, 2) := by decide +kernel
theorem dX5_swap_92 : decode cX5_swap 92 = .ok (.iload 6, 2) := by decide +kernel
theorem dX5_swap_94 : decode cX5_swap 94 = .ok (.iadd, 1) := by decide +kernel
theorem dX5_swap_95 : decode cX5_swap 95 = .ok (.iaload, 1) := by decide +kernel
theorem dX5_swap_96 : decode cX5_swap 96 = .ok (.iastore, 1) := by decide +kernel
theorem dX5_swap_97 : decode cX5_swap 97 = .ok (.aload_n 0, 1) := by decide +kernel
theorem dX5_swap_98 : decode cX5_swap 98 = .ok (.getfield 7, 3) := by decide +kernel
theorem dX5_swap_101 : decode cX5_swap 101 = .ok (.sipush 285, 3) := by decide +kernel
theorem dX5_swap_104 : decode cX5_swap 104 = .ok (.iload 6, 2) := by decide +kernel
theorem dX5_swap_106 : decode cX5_swap 106 = .ok (.iadd, 1) := by decide +kernel
theorem dX5_swap_107 : decode cX5_swap 107 = .ok (.aload_n 0, 1) := by decide +kernel
theorem dX5_swap_108 : decode cX5_swap 108 = .ok (.getfield 7, 3) := by decide +kernel
theorem dX5_swap_111 : decode cX5_swap 111 = .ok (.bipush 25, 2) := by decide +kernel
theorem dX5_swap_113 : decode cX5_swap 113 = .ok (.iload 5, 2) := by decide +kernel
theorem dX5_swap_115 : decode cX5_swap 115 = .ok (.iadd, 1) := by decide +kernel
theorem dX5_swap_116 : decode cX5_swap 116 = .ok (.iaload, 1) := by decide +kernel
theorem dX5_swap_117 : decode cX5_swap 117 = .ok (.iastore, 1) := by decide +kernel
theorem dX5_swap_118 : decode cX5_swap 118 = .ok (.aload_n 0, 1) := by decide +kernel
theorem dX5_swap_119 : decode cX5_swap 119 = .ok (.getfield 7, 3) := by decide +kernel
theorem dX5_swap_122 : decode cX5_swap 122 = .ok (.sipush 297, 3) := by decide +kernel
theorem dX5_swap_125 : decode cX5_swap 125 = .ok (.iload 5, 2) := by decide +kernel
theorem dX5_swap_127 : decode cX5_swap 127 = .ok (.iadd, 1) := by decide +kernel
theorem dX5_swap_128 : decode cX5_swap 128 = .ok (.aload_n 0, 1) := by decide +kernel
theorem dX5_swap_129 : decode cX5_swap 129 = .ok (.getfield 7, 3) := by decide +kernel
theorem dX5_swap_132 : decode cX5_swap 132 = .ok (.bipush 37, 2) := by decide +kernel
theorem dX5_swap_134 : decode cX5_swap 134 = .ok (.iload 6, 2) := by decide +kernel
theorem dX5_swap_136 : decode cX5_swap 136 = .ok (.iadd, 1) := by decide +kernel
theorem dX5_swap_137 : decode cX5_swap 137 = .ok (.iaload, 1) := by decide +kernel
theorem dX5_swap_138 : decode cX5_swap 138 = .ok (.iastore, 1) := by decide +kernel
theorem dX5_swap_139 : decode cX5_swap 139 = .ok (.aload_n 0, 1) := by decide +kernel
theorem dX5_swap_140 : decode cX5_swap 140 = .ok (.getfield 7, 3) := by decide +kernel
theorem dX5_swap_143 : decode cX5_swap 143 = .ok (.sipush 297, 3) := by decide +kernel
theorem dX5_swap_146 : decode cX5_swap 146 = .ok (.iload 6, 2) := by decide +kernel
theorem dX5_swap_148 : decode cX5_swap 148 = .ok (.iadd, 1) := by decide +kernel
theorem dX5_swap_149 : decode cX5_swap 149 = .ok (.aload_n 0, 1) := by decide +kernel
theorem dX5_swap_150 : decode cX5_swap 150 = .ok (.getfield 7, 3) := by decide +kernel
theorem dX5_swap_153 : decode cX5_swap 153 = .ok (.bipush 37, 2) := by decide +kernel
theorem dX5_swap_155 : decode cX5_swap 155 = .ok (.iload 5, 2) := by decide +kernel
theorem dX5_swap_157 : decode cX5_swap 157 = .ok (.iadd, 1) := by decide +kernel
theorem dX5_swap_158 : decode cX5_swap 158 = .ok (.iaload, 1) := by decide +kernel
theorem dX5_swap_159 : decode cX5_swap 159 = .ok (.iastore, 1) := by decide +kernel
theorem dX5_swap_160 : decode cX5_swap 160 = .ok (.aload_n 0, 1) := by decide +kernel
theorem dX5_swap_161 : decode cX5_swap 161 = .ok (.sipush 260, 3) := by decide +kernel
theorem dX5_swap_164 : decode cX5_swap 164 = .ok (.iload_n 1, 1) := by decide +kernel
theorem dX5_swap_165 : decode cX5_swap 165 = .ok (.invokevirtual 212, 3) := by decide +kernel
theorem dX5_swap_168 : decode cX5_swap 168 = .ok (.istore 7, 2) := by decide +kernel
theorem dX5_swap_170 : decode cX5_swap 170 = .ok (.iload 7, 2) := by decide +kernel
theorem dX5_swap_172 : decode cX5_swap 172 = .ok (.iload_n 3, 1) := by decide +kernel
theorem dX5_swap_173 : decode cX5_swap 173 = .ok (.if_icmp .ge 14, 3) := by decide +kernel
theorem dX5_swap_176 : decode cX5_swap 176 = .ok (.bipush 100, 2) := by decide +kernel
theorem dX5_swap_178 : decode cX5_swap 178 = .ok (.iload 5, 2) := by decide +kernel
theorem dX5_swap_180 : decode cX5_swap 180 = .ok (.imul, 1) := by decide +kernel
theorem dX5_swap_181 : decode cX5_swap 181 = .ok (.iload 6, 2) := by decide +kernel
theorem dX5_swap_183 : decode cX5_swap 183 = .ok (.iadd, 1) := by decide +kernel
theorem dX5_swap_184 : decode cX5_swap 184 = .ok (.goto 5, 3) := by decide +kernel
theorem dX5_swap_187 : decode cX5_swap 187 = .ok (.iload 4, 2) := by decide +kernel
theorem dX5_swap_189 : decode cX5_swap 189 = .ok (.istore 4, 2) := by decide +kernel
theorem dX5_swap_191 : decode cX5_swap 191 = .ok (.iload 7, 2) := by decide +kernel
theorem dX5_swap_193 : decode cX5_swap 193 = .ok (.iload_n 3, 1) := by decide +kernel
theorem dX5_swap_194 : decode cX5_swap 194 = .ok (.if_icmp .ge 8, 3) := by decide +kernel
theorem dX5_swap_197 : decode cX5_swap 197 = .ok (.iload 7, 2) := by decide +kernel
theorem dX5_swap_199 : decode cX5_swap 199 = .ok (.goto 4, 3) := by decide +kernel
theorem dX5_swap_202 : decode cX5_swap 202 = .ok (.iload_n 3, 1) := by decide +kernel
theorem dX5_swap_203 : decode cX5_swap 203 = .ok (.istore_n 3, 1) := by decide +kernel
theorem dX5_swap_204 : decode cX5_swap 204 = .ok (.iinc 6 1, 3) := by decide +kernel
theorem dX5_swap_207 : decode cX5_swap 207 = .ok (.goto (-151), 3) := by decide +kernel
theorem dX5_swap_210 : decode cX5_swap 210 = .ok (.iinc 5 1, 3) := by decide +kernel
theorem dX5_swap_213 : decode cX5_swap 213 = .ok (.goto (-175), 3) := by decide +kernel
theorem dX5_swap_216 : decode cX5_swap 216 = .ok (.iload 4, 2) := by decide +kernel
theorem dX5_swap_218 : decode cX5_swap 218 = .ok (.bipush (-4), 2) := by decide +kernel
theorem dX5_swap_220 : decode cX5_swap 220 = .ok (.if_icmp .eq 7, 3) := by decide +kernel
theorem dX5_swap_223 : decode cX5_swap 223 = .ok (.iload_n 2, 1) := by decide +kernel
theorem dX5_swap_224 : decode cX5_swap 224 = .ok (.ifCond .ne 8, 3) := by decide +kernel
theorem dX5_swap_227 : decode cX5_swap 227 = .ok (.iload 4, 2) := by decide +kernel
theorem dX5_swap_229 : decode cX5_swap 229 = .ok (.goto 4, 3) := by decide +kernel
theorem dX5_swap_232 : decode cX5_swap 232 = .ok (.iload_n 3, 1) := by decide +kernel
theorem dX5_swap_233 : decode cX5_swap 233 = .ok (.ireturn, 1) := by decide +kernel
theorem dX5_miss_0 : decode cX5_miss 0 = .ok (.iload_n 1, 1) := by decide +kernel
theorem dX5_miss_1 : decode cX5_miss 1 = .ok (.i2l, 1) := by decide +kernel
theorem dX5_miss_2 : decode cX5_miss 2 = .ok (.lconst 0, 1) := by decide +kernel
theorem dX5_miss_3 : decode cX5_miss 3 = .ok (.ldc2_w 199, 3) := by decide +kernel
theorem dX5_miss_6 : decode cX5_miss 6 = .ok (.invokestatic 53, 3) := by decide +kernel
theorem dX5_miss_9 : decode cX5_miss 9 = .ok (.ifCond .eq 13, 3) := by decide +kernel
theorem dX5_miss_12 : decode cX5_miss 12 = .ok (.iload_n 2, 1) := by decide +kernel
theorem dX5_miss_13 : decode cX5_miss 13 = .ok (.i2l, 1) := by decide +kernel
theorem dX5_miss_14 : decode cX5_miss 14 = .ok (.lconst 0, 1) := by decide +kernel
theorem dX5_miss_15 : decode cX5_miss 15 = .ok (.lconst 1, 1) := by decide +kernel
theorem dX5_miss_16 : decode cX5_miss 16 = .ok (.invokestatic 53, 3) := by decide +kernel
theorem dX5_miss_19 : decode cX5_miss 19 = .ok (.ifCond .ne 5, 3) := by decide +kernel
theorem dX5_miss_22 : decode cX5_miss 22 = .ok (.iconst (-1), 1) := by decide +kernel
theorem dX5_miss_23 : decode cX5_miss 23 = .ok (.ireturn, 1) := by decide +kernel
theorem dX5_miss_24 : decode cX5_miss 24 = .ok (.aload_n 0, 1) := by decide +kernel
theorem dX5_miss_25 : decode cX5_miss 25 = .ok (.iconst 0, 1) := by decide +kernel
theorem dX5_miss_26 : decode cX5_miss 26 = .ok (.iload_n 1, 1) := by decide +kernel
theorem dX5_miss_27 : decode cX5_miss 27 = .ok (.invokevirtual 212, 3) := by decide +kernel
theorem dX5_miss_30 : decode cX5_miss 30 = .ok (.istore_n 3, 1) := by decide +kernel
theorem dX5_miss_31 : decode cX5_miss 31 = .ok (.bipush (-4), 2) := by decide +kernel
theorem dX5_miss_33 : decode cX5_miss 33 = .ok (.istore 4, 2) := by decide +kernel
theorem dX5_miss_35 : decode cX5_miss 35 = .ok (.iconst 0, 1) := by decide +kernel
theorem dX5_miss_36 : decode cX5_miss 36 = .ok (.istore 5, 2) := by decide +kernel
theorem dX5_miss_38 : decode cX5_miss 38 = .ok (.iload 5, 2) := by decide +kernel
theorem dX5_miss_40 : decode cX5_miss 40 = .ok (.aload_n 0, 1) := by decide +kernel
theorem dX5_miss_41 : decode cX5_miss 41 = .ok (.getfield 7, 3) := by decide +kernel
theorem dX5_miss_44 : decode cX5_miss 44 = .ok (.bipush 49, 2) := by decide +kernel
theorem dX5_miss_46 : decode cX5_miss 46 = .ok (.iaload, 1) := by decide +kernel
theorem dX5_miss_47 : decode cX5_miss 47 = .ok (.if_icmp .ge 57, 3) := by decide +kernel
theorem dX5_miss_50 : decode cX5_miss 50 = .ok (.aload_n 0, 1) := by decide +kernel
theorem dX5_miss_51 : decode cX5_miss 51 = .ok (.iload 5, 2) := by decide +kernel
theorem dX5_miss_53 : decode cX5_miss 53 = .ok (.putfield 28, 3) := by decide +kernel
theorem dX5_miss_56 : decode cX5_miss 56 = .ok (.aload_n 0, 1) := by decide +kernel
theorem dX5_miss_57 : decode cX5_miss 57 = .ok (.iconst 0, 1) := by decide +kernel
theorem dX5_miss_58 : decode cX5_miss 58 = .ok (.iload_n 1, 1) := by decide +kernel
theorem dX5_miss_59 : decode cX5_miss 59 = .ok (.invokevirtual 212, 3) := by decide +kernel
theorem dX5_miss_62 : decode cX5_miss 62 = .ok (.istore 6, 2) := by decide +kernel
theorem dX5_miss_64 : decode cX5_miss 64 = .ok (.aload_n 0, 1) := by decide +kernel
theorem dX5_miss_65 : decode cX5_miss 65 = .ok (.bipush (-4), 2) := by decide +kernel
theorem dX5_miss_67 : decode cX5_miss 67 = .ok (.putfield 28, 3) := by decide +kernel
theorem dX5_miss_70 : decode cX5_miss 70 = .ok (.iload 6, 2) := by decide +kernel
theorem dX5_miss_72 : decode cX5_miss 72 = .ok (.iload_n 3, 1) := by decide +kernel
theorem dX5_miss_73 : decode cX5_miss 73 = .ok (.if_icmp .ge 8, 3) := by decide +kernel
theorem dX5_miss_76 : decode cX5_miss 76 = .ok (.iload 5, 2) := by decide +kernel
theorem dX5_miss_78 : decode cX5_miss 78 = .ok (.goto 5, 3) := by decide +kernel
theorem dX5_miss_81 : decode cX5_miss 81 = .ok (.iload 4, 2) := by decide +kernel
theorem dX5_miss_83 : decode cX5_miss 83 = .ok (.istore 4, 2) := by decide +kernel
theorem dX5_miss_85 : decode cX5_miss 85 = .ok (.iload 6, 2) := by decide +kernel
theorem dX5_miss_87 : decode cX5_miss 87 = .ok (.iload_n 3, 1) := by decide +kernel
theorem dX5_miss_88 : decode cX5_miss 88 = .ok (.if_icmp .ge 8, 3) := by decide +kernel
theorem dX5_miss_91 : decode cX5_miss 91 = .ok (.iload 6, 2) := by decide +kernel
theorem dX5_miss_93 : decode cX5_miss 93 = .ok (.goto 4, 3) := by decide +kernel
theorem dX5_miss_96 : decode cX5_miss 96 = .ok (.iload_n 3, 1) := by decide +kernel
theorem dX5_miss_97 : decode cX5_miss 97 = .ok (.istore_n 3, 1) := by decide +kernel
theorem dX5_miss_98 : decode cX5_miss 98 = .ok (.iinc 5 1, 3) := by decide +kernel
theorem dX5_miss_101 : decode cX5_miss 101 = .ok (.goto (-63), 3) := by decide +kernel
theorem dX5_miss_104 : decode cX5_miss 104 = .ok (.iload 4, 2) := by decide +kernel
theorem dX5_miss_106 : decode cX5_miss 106 = .ok (.bipush (-4), 2) := by decide +kernel
theorem dX5_miss_108 : decode cX5_miss 108 = .ok (.if_icmp .eq 7, 3) := by decide +kernel
theorem dX5_miss_111 : decode cX5_miss 111 = .ok (.iload_n 2, 1) := by decide +kernel
theorem dX5_miss_112 : decode cX5_miss 112 = .ok (.ifCond .ne 8, 3) := by decide +kernel
theorem dX5_miss_115 : decode cX5_miss 115 = .ok (.iload 4, 2) := by decide +kernel
theorem dX5_miss_117 : decode cX5_miss 117 = .ok (.goto 4, 3) := by decide +kernel
theorem dX5_miss_120 : decode cX5_miss 120 = .ok (.iload_n 3, 1) := by decide +kernel
theorem dX5_miss_121 : decode cX5_miss 121 = .ok (.ireturn, 1) := by decide +kernel
theorem dX5_lowest_0 : decode cX5_lowest 0 = .ok (.lload_n 0, 1) := by decide +kernel
theorem dX5_lowest_1 : decode cX5_lowest 1 = .ok (.lstore 5, 2) := by decide +kernel
theorem dX5_lowest_3 : decode cX5_lowest 3 = .ok (.lload_n 2, 1) := by decide +kernel
theorem dX5_lowest_4 : decode cX5_lowest 4 = .ok (.lstore 7, 2) := by decide +kernel
theorem dX5_lowest_6 : decode cX5_lowest 6 = .ok (.lload 7, 2) := by decide +kernel
theorem dX5_lowest_8 : decode cX5_lowest 8 = .ok (.lconst 0, 1) := by decide +kernel
theorem dX5_lowest_9 : decode cX5_lowest 9 = .ok (.lcmp, 1) := by decide +kernel
theorem dX5_lowest_10 : decode cX5_lowest 10 = .ok (.ifCond .eq 21, 3) := by decide +kernel
theorem dX5_lowest_13 : decode cX5_lowest 13 = .ok (.lload 5, 2) := by decide +kernel
theorem dX5_lowest_15 : decode cX5_lowest 15 = .ok (.lload 7, 2) := by decide +kernel
theorem dX5_lowest_17 : decode cX5_lowest 17 = .ok (.lrem, 1) := by decide +kernel
theorem dX5_lowest_18 : decode cX5_lowest 18 = .ok (.lstore 9, 2) := by decide +kernel
theorem dX5_lowest_20 : decode cX5_lowest 20 = .ok (.lload 7, 2) := by decide +kernel
theorem dX5_lowest_22 : decode cX5_lowest 22 = .ok (.lstore 5, 2) := by decide +kernel
theorem dX5_lowest_24 : decode cX5_lowest 24 = .ok (.lload 9, 2) := by decide +kernel
theorem dX5_lowest_26 : decode cX5_lowest 26 = .ok (.lstore 7, 2) := by decide +kernel
theorem dX5_lowest_28 : decode cX5_lowest 28 = .ok (.goto (-22), 3) := by decide +kernel
theorem dX5_lowest_31 : decode cX5_lowest 31 = .ok (.iload 4, 2) := by decide +kernel
theorem dX5_lowest_33 : decode cX5_lowest 33 = .ok (.ifCond .ne 7, 3) := by decide +kernel
theorem dX5_lowest_36 : decode cX5_lowest 36 = .ok (.lload_n 0, 1) := by decide +kernel
theorem dX5_lowest_37 : decode cX5_lowest 37 = .ok (.goto 4, 3) := by decide +kernel
theorem dX5_lowest_40 : decode cX5_lowest 40 = .ok (.lload_n 2, 1) := by decide +kernel
theorem dX5_lowest_41 : decode cX5_lowest 41 = .ok (.lload 5, 2) := by decide +kernel
theorem dX5_lowest_43 : decode cX5_lowest 43 = .ok (.ldiv, 1) := by decide +kernel
theorem dX5_lowest_44 : decode cX5_lowest 44 = .ok (.lreturn, 1) := by decide +kernel
theorem dX5_byMisses_0 : decode cX5_byMisses 0 = .ok (.lconst 0, 1) := by decide +kernel
theorem dX5_byMisses_1 : decode cX5_byMisses 1 = .ok (.lstore 5, 2) := by decide +kernel
theorem dX5_byMisses_3 : decode cX5_byMisses 3 = .ok (.lconst 1, 1) := by decide +kernel
theorem dX5_byMisses_4 : decode cX5_byMisses 4 = .ok (.lstore 7, 2) := by decide +kernel
theorem dX5_byMisses_6 : decode cX5_byMisses 6 = .ok (.iconst 0, 1) := by decide +kernel
theorem dX5_byMisses_7 : decode cX5_byMisses 7 = .ok (.istore 9, 2) := by decide +kernel
theorem dX5_byMisses_9 : decode cX5_byMisses 9 = .ok (.iload 9, 2) := by decide +kernel
theorem dX5_byMisses_11 : decode cX5_byMisses 11 = .ok (.iload_n 3, 1) := by decide +kernel
theorem dX5_byMisses_12 : decode cX5_byMisses 12 = .ok (.if_icmp .ge 17, 3) := by decide +kernel
theorem dX5_byMisses_15 : decode cX5_byMisses 15 = .ok (.lload 7, 2) := by decide +kernel
theorem dX5_byMisses_17 : decode cX5_byMisses 17 = .ok (.ldc2_w 224, 3) := by decide +kernel
theorem dX5_byMisses_20 : decode cX5_byMisses 20 = .ok (.lmul, 1) := by decide +kernel
theorem dX5_byMisses_21 : decode cX5_byMisses 21 = .ok (.lstore 7, 2) := by decide +kernel
theorem dX5_byMisses_23 : decode cX5_byMisses 23 = .ok (.iinc 9 1, 3) := by decide +kernel
theorem dX5_byMisses_26 : decode cX5_byMisses 26 = .ok (.goto (-17), 3) := by decide +kernel
theorem dX5_byMisses_29 : decode cX5_byMisses 29 = .ok (.iconst 0, 1) := by decide +kernel
theorem dX5_byMisses_30 : decode cX5_byMisses 30 = .ok (.istore 9, 2) := by decide +kernel
theorem dX5_byMisses_32 : decode cX5_byMisses 32 = .ok (.iload 9, 2) := by decide +kernel
theorem dX5_byMisses_34 : decode cX5_byMisses 34 = .ok (.iconst 1, 1) := by decide +kernel
theorem dX5_byMisses_35 : decode cX5_byMisses 35 = .ok (.iload_n 3, 1) := by decide +kernel
theorem dX5_byMisses_36 : decode cX5_byMisses 36 = .ok (.ishl, 1) := by decide +kernel
theorem dX5_byMisses_37 : decode cX5_byMisses 37 = .ok (.if_icmp .ge 132, 3) := by decide +kernel
theorem dX5_byMisses_40 : decode cX5_byMisses 40 = .ok (.lconst 1, 1) := by decide +kernel
theorem dX5_byMisses_41 : decode cX5_byMisses 41 = .ok (.lstore 10, 2) := by decide +kernel
theorem dX5_byMisses_43 : decode cX5_byMisses 43 = .ok (.aload_n 0, 1) := by decide +kernel
theorem dX5_byMisses_44 : decode cX5_byMisses 44 = .ok (.iconst 0, 1) := by decide +kernel
theorem dX5_byMisses_45 : decode cX5_byMisses 45 = .ok (.sipush 208, 3) := by decide +kernel
theorem dX5_byMisses_48 : decode cX5_byMisses 48 = .ok (.invokevirtual 205, 3) := by decide +kernel
theorem dX5_byMisses_51 : decode cX5_byMisses 51 = .ok (.iconst 0, 1) := by decide +kernel
theorem dX5_byMisses_52 : decode cX5_byMisses 52 = .ok (.istore 12, 2) := by decide +kernel
theorem dX5_byMisses_54 : decode cX5_byMisses 54 = .ok (.iload 12, 2) := by decide +kernel
theorem dX5_byMisses_56 : decode cX5_byMisses 56 = .ok (.iload_n 3, 1) := by decide +kernel
theorem dX5_byMisses_57 : decode cX5_byMisses 57 = .ok (.if_icmp .ge 56, 3) := by decide +kernel
theorem dX5_byMisses_60 : decode cX5_byMisses 60 = .ok (.iload 9, 2) := by decide +kernel
theorem dX5_byMisses_62 : decode cX5_byMisses 62 = .ok (.iload 12, 2) := by decide +kernel
theorem dX5_byMisses_64 : decode cX5_byMisses 64 = .ok (.ishr, 1) := by decide +kernel
theorem dX5_byMisses_65 : decode cX5_byMisses 65 = .ok (.iconst 1, 1) := by decide +kernel
theorem dX5_byMisses_66 : decode cX5_byMisses 66 = .ok (.iand, 1) := by decide +kernel
theorem dX5_byMisses_67 : decode cX5_byMisses 67 = .ok (.iconst 1, 1) := by decide +kernel
theorem dX5_byMisses_68 : decode cX5_byMisses 68 = .ok (.if_icmp .ne 7, 3) := by decide +kernel
theorem dX5_byMisses_71 : decode cX5_byMisses 71 = .ok (.iconst 1, 1) := by decide +kernel
theorem dX5_byMisses_72 : decode cX5_byMisses 72 = .ok (.goto 4, 3) := by decide +kernel
theorem dX5_byMisses_75 : decode cX5_byMisses 75 = .ok (.iconst 0, 1) := by decide +kernel
theorem dX5_byMisses_76 : decode cX5_byMisses 76 = .ok (.istore 13, 2) := by decide +kernel
theorem dX5_byMisses_78 : decode cX5_byMisses 78 = .ok (.lload 10, 2) := by decide +kernel
theorem dX5_byMisses_80 : decode cX5_byMisses 80 = .ok (.iload 13, 2) := by decide +kernel
theorem dX5_byMisses_82 : decode cX5_byMisses 82 = .ok (.ifCond .eq 8, 3) := by decide +kernel
theorem dX5_byMisses_85 : decode cX5_byMisses 85 = .ok (.iload_n 1, 1) := by decide +kernel
theorem dX5_byMisses_86 : decode cX5_byMisses 86 = .ok (.i2l, 1) := by decide +kernel
theorem dX5_byMisses_87 : decode cX5_byMisses 87 = .ok (.goto 8, 3) := by decide +kernel
theorem dX5_byMisses_90 : decode cX5_byMisses 90 = .ok (.bipush 10, 2) := by decide +kernel
theorem dX5_byMisses_92 : decode cX5_byMisses 92 = .ok (.iload_n 1, 1) := by decide +kernel
theorem dX5_byMisses_93 : decode cX5_byMisses 93 = .ok (.isub, 1) := by decide +kernel
theorem dX5_byMisses_94 : decode cX5_byMisses 94 = .ok (.i2l, 1) := by decide +kernel
theorem dX5_byMisses_95 : decode cX5_byMisses 95 = .ok (.lmul, 1) := by decide +kernel
theorem dX5_byMisses_96 : decode cX5_byMisses 96 = .ok (.lstore 10, 2) := by decide +kernel
theorem dX5_byMisses_98 : decode cX5_byMisses 98 = .ok (.aload_n 0, 1) := by decide +kernel
theorem dX5_byMisses_99 : decode cX5_byMisses 99 = .ok (.sipush 208, 3) := by decide +kernel
theorem dX5_byMisses_102 : decode cX5_byMisses 102 = .ok (.iload 13, 2) := by decide +kernel
theorem dX5_byMisses_104 : decode cX5_byMisses 104 = .ok (.invokevirtual 201, 3) := by decide +kernel
theorem dX5_byMisses_107 : decode cX5_byMisses 107 = .ok (.iinc 12 1, 3) := by decide +kernel
theorem dX5_byMisses_110 : decode cX5_byMisses 110 = .ok (.goto (-56), 3) := by decide +kernel
theorem dX5_byMisses_113 : decode cX5_byMisses 113 = .ok (.lload 5, 2) := by decide +kernel
theorem dX5_byMisses_115 : decode cX5_byMisses 115 = .ok (.lload 10, 2) := by decide +kernel
theorem dX5_byMisses_117 : decode cX5_byMisses 117 = .ok (.iload_n 2, 1) := by decide +kernel
theorem dX5_byMisses_118 : decode cX5_byMisses 118 = .ok (.bipush (-4), 2) := by decide +kernel
theorem dX5_byMisses_120 : decode cX5_byMisses 120 = .ok (.if_icmp .ne 22, 3) := by decide +kernel
theorem dX5_byMisses_123 : decode cX5_byMisses 123 = .ok (.aload_n 0, 1) := by decide +kernel
theorem dX5_byMisses_124 : decode cX5_byMisses 124 = .ok (.sipush 208, 3) := by decide +kernel
theorem dX5_byMisses_127 : decode cX5_byMisses 127 = .ok (.invokevirtual 158, 3) := by decide +kernel
theorem dX5_byMisses_130 : decode cX5_byMisses 130 = .ok (.aload_n 0, 1) := by decide +kernel
theorem dX5_byMisses_131 : decode cX5_byMisses 131 = .ok (.iconst 0, 1) := by decide +kernel
theorem dX5_byMisses_132 : decode cX5_byMisses 132 = .ok (.invokevirtual 158, 3) := by decide +kernel
theorem dX5_byMisses_135 : decode cX5_byMisses 135 = .ok (.isub, 1) := by decide +kernel
theorem dX5_byMisses_136 : decode cX5_byMisses 136 = .ok (.invokestatic 146, 3) := by decide +kernel
theorem dX5_byMisses_139 : decode cX5_byMisses 139 = .ok (.goto 19, 3) := by decide +kernel
theorem dX5_byMisses_142 : decode cX5_byMisses 142 = .ok (.aload_n 0, 1) := by decide +kernel
theorem dX5_byMisses_143 : decode cX5_byMisses 143 = .ok (.sipush 208, 3) := by decide +kernel
theorem dX5_byMisses_146 : decode cX5_byMisses 146 = .ok (.invokevirtual 158, 3) := by decide +kernel
theorem dX5_byMisses_149 : decode cX5_byMisses 149 = .ok (.iload_n 2, 1) := by decide +kernel
theorem dX5_byMisses_150 : decode cX5_byMisses 150 = .ok (.if_icmp .lt 7, 3) := by decide +kernel
theorem dX5_byMisses_153 : decode cX5_byMisses 153 = .ok (.iconst 1, 1) := by decide +kernel
theorem dX5_byMisses_154 : decode cX5_byMisses 154 = .ok (.goto 4, 3) := by decide +kernel
theorem dX5_byMisses_157 : decode cX5_byMisses 157 = .ok (.iconst 0, 1) := by decide +kernel
theorem dX5_byMisses_158 : decode cX5_byMisses 158 = .ok (.i2l, 1) := by decide +kernel
theorem dX5_byMisses_159 : decode cX5_byMisses 159 = .ok (.lmul, 1) := by decide +kernel
theorem dX5_byMisses_160 : decode cX5_byMisses 160 = .ok (.ladd, 1) := by decide +kernel
theorem dX5_byMisses_161 : decode cX5_byMisses 161 = .ok (.lstore 5, 2) := by decide +kernel
theorem dX5_byMisses_163 : decode cX5_byMisses 163 = .ok (.iinc 9 1, 3) := by decide +kernel
theorem dX5_byMisses_166 : decode cX5_byMisses 166 = .ok (.goto (-134), 3) := by decide +kernel
theorem dX5_byMisses_169 : decode cX5_byMisses 169 = .ok (.lload 5, 2) := by decide +kernel
theorem dX5_byMisses_171 : decode cX5_byMisses 171 = .ok (.lload 7, 2) := by decide +kernel
theorem dX5_byMisses_173 : decode cX5_byMisses 173 = .ok (.iload 4, 2) := by decide +kernel
theorem dX5_byMisses_175 : decode cX5_byMisses 175 = .ok (.invokestatic 226, 3) := by decide +kernel
theorem dX5_byMisses_178 : decode cX5_byMisses 178 = .ok (.lreturn, 1) := by decide +kernel
theorem dX5_luck_0 : decode cX5_luck 0 = .ok (.iload_n 1, 1) := by decide +kernel
theorem dX5_luck_1 : decode cX5_luck 1 = .ok (.i2l, 1) := by decide +kernel
theorem dX5_luck_2 : decode cX5_luck 2 = .ok (.lconst 0, 1) := by decide +kernel
theorem dX5_luck_3 : decode cX5_luck 3 = .ok (.ldc2_w 224, 3) := by decide +kernel
theorem dX5_luck_6 : decode cX5_luck 6 = .ok (.invokestatic 53, 3) := by decide +kernel
theorem dX5_luck_9 : decode cX5_luck 9 = .ok (.ifCond .eq 38, 3) := by decide +kernel
theorem dX5_luck_12 : decode cX5_luck 12 = .ok (.iload_n 2, 1) := by decide +kernel
theorem dX5_luck_13 : decode cX5_luck 13 = .ok (.i2l, 1) := by decide +kernel
theorem dX5_luck_14 : decode cX5_luck 14 = .ok (.lconst 0, 1) := by decide +kernel
theorem dX5_luck_15 : decode cX5_luck 15 = .ok (.ldc2_w 138, 3) := by decide +kernel
theorem dX5_luck_18 : decode cX5_luck 18 = .ok (.invokestatic 53, 3) := by decide +kernel
theorem dX5_luck_21 : decode cX5_luck 21 = .ok (.ifCond .eq 26, 3) := by decide +kernel
theorem dX5_luck_24 : decode cX5_luck 24 = .ok (.iload_n 3, 1) := by decide +kernel
theorem dX5_luck_25 : decode cX5_luck 25 = .ok (.i2l, 1) := by decide +kernel
theorem dX5_luck_26 : decode cX5_luck 26 = .ok (.lconst 0, 1) := by decide +kernel
theorem dX5_luck_27 : decode cX5_luck 27 = .ok (.ldc2_w 230, 3) := by decide +kernel
theorem dX5_luck_30 : decode cX5_luck 30 = .ok (.invokestatic 53, 3) := by decide +kernel
theorem dX5_luck_33 : decode cX5_luck 33 = .ok (.ifCond .eq 14, 3) := by decide +kernel
theorem dX5_luck_36 : decode cX5_luck 36 = .ok (.iload 4, 2) := by decide +kernel
theorem dX5_luck_38 : decode cX5_luck 38 = .ok (.i2l, 1) := by decide +kernel
theorem dX5_luck_39 : decode cX5_luck 39 = .ok (.lconst 0, 1) := by decide +kernel
theorem dX5_luck_40 : decode cX5_luck 40 = .ok (.lconst 1, 1) := by decide +kernel
theorem dX5_luck_41 : decode cX5_luck 41 = .ok (.invokestatic 53, 3) := by decide +kernel
theorem dX5_luck_44 : decode cX5_luck 44 = .ok (.ifCond .ne 7, 3) := by decide +kernel
theorem dX5_luck_47 : decode cX5_luck 47 = .ok (.ldc2_w 232, 3) := by decide +kernel
theorem dX5_luck_50 : decode cX5_luck 50 = .ok (.lreturn, 1) := by decide +kernel
theorem dX5_luck_51 : decode cX5_luck 51 = .ok (.aload_n 0, 1) := by decide +kernel
theorem dX5_luck_52 : decode cX5_luck 52 = .ok (.getfield 7, 3) := by decide +kernel
theorem dX5_luck_55 : decode cX5_luck 55 = .ok (.bipush 24, 2) := by decide +kernel
theorem dX5_luck_57 : decode cX5_luck 57 = .ok (.iaload, 1) := by decide +kernel
theorem dX5_luck_58 : decode cX5_luck 58 = .ok (.ifCond .ne 9, 3) := by decide +kernel
theorem dX5_luck_61 : decode cX5_luck 61 = .ok (.ldc2_w 234, 3) := by decide +kernel
theorem dX5_luck_64 : decode cX5_luck 64 = .ok (.goto 12, 3) := by decide +kernel
theorem dX5_luck_67 : decode cX5_luck 67 = .ok (.aload_n 0, 1) := by decide +kernel
theorem dX5_luck_68 : decode cX5_luck 68 = .ok (.iload_n 1, 1) := by decide +kernel
theorem dX5_luck_69 : decode cX5_luck 69 = .ok (.iload_n 2, 1) := by decide +kernel
theorem dX5_luck_70 : decode cX5_luck 70 = .ok (.iload_n 3, 1) := by decide +kernel
theorem dX5_luck_71 : decode cX5_luck 71 = .ok (.iload 4, 2) := by decide +kernel
theorem dX5_luck_73 : decode cX5_luck 73 = .ok (.invokevirtual 236, 3) := by decide +kernel
theorem dX5_luck_76 : decode cX5_luck 76 = .ok (.lreturn, 1) := by decide +kernel
theorem dX5_mean_0 : decode cX5_mean 0 = .ok (.iload_n 1, 1) := by decide +kernel
theorem dX5_mean_1 : decode cX5_mean 1 = .ok (.i2l, 1) := by decide +kernel
theorem dX5_mean_2 : decode cX5_mean 2 = .ok (.lconst 0, 1) := by decide +kernel
theorem dX5_mean_3 : decode cX5_mean 3 = .ok (.ldc2_w 224, 3) := by decide +kernel
theorem dX5_mean_6 : decode cX5_mean 6 = .ok (.invokestatic 53, 3) := by decide +kernel
theorem dX5_mean_9 : decode cX5_mean 9 = .ok (.ifCond .eq 25, 3) := by decide +kernel
theorem dX5_mean_12 : decode cX5_mean 12 = .ok (.iload_n 2, 1) := by decide +kernel
theorem dX5_mean_13 : decode cX5_mean 13 = .ok (.i2l, 1) := by decide +kernel
theorem dX5_mean_14 : decode cX5_mean 14 = .ok (.lconst 0, 1) := by decide +kernel
theorem dX5_mean_15 : decode cX5_mean 15 = .ok (.ldc2_w 230, 3) := by decide +kernel
theorem dX5_mean_18 : decode cX5_mean 18 = .ok (.invokestatic 53, 3) := by decide +kernel
theorem dX5_mean_21 : decode cX5_mean 21 = .ok (.ifCond .eq 13, 3) := by decide +kernel
theorem dX5_mean_24 : decode cX5_mean 24 = .ok (.iload_n 3, 1) := by decide +kernel
theorem dX5_mean_25 : decode cX5_mean 25 = .ok (.i2l, 1) := by decide +kernel
theorem dX5_mean_26 : decode cX5_mean 26 = .ok (.lconst 0, 1) := by decide +kernel
theorem dX5_mean_27 : decode cX5_mean 27 = .ok (.lconst 1, 1) := by decide +kernel
theorem dX5_mean_28 : decode cX5_mean 28 = .ok (.invokestatic 53, 3) := by decide +kernel
theorem dX5_mean_31 : decode cX5_mean 31 = .ok (.ifCond .ne 7, 3) := by decide +kernel
theorem dX5_mean_34 : decode cX5_mean 34 = .ok (.ldc2_w 232, 3) := by decide +kernel
theorem dX5_mean_37 : decode cX5_mean 37 = .ok (.lreturn, 1) := by decide +kernel
theorem dX5_mean_38 : decode cX5_mean 38 = .ok (.aload_n 0, 1) := by decide +kernel
theorem dX5_mean_39 : decode cX5_mean 39 = .ok (.iload_n 1, 1) := by decide +kernel
theorem dX5_mean_40 : decode cX5_mean 40 = .ok (.bipush (-4), 2) := by decide +kernel
theorem dX5_mean_42 : decode cX5_mean 42 = .ok (.iload_n 2, 1) := by decide +kernel
theorem dX5_mean_43 : decode cX5_mean 43 = .ok (.iload_n 3, 1) := by decide +kernel
theorem dX5_mean_44 : decode cX5_mean 44 = .ok (.invokevirtual 236, 3) := by decide +kernel
theorem dX5_mean_47 : decode cX5_mean 47 = .ok (.lreturn, 1) := by decide +kernel
theorem dX5_see_0 : decode cX5_see 0 = .ok (.iload_n 1, 1) := by decide +kernel
theorem dX5_see_1 : decode cX5_see 1 = .ok (.i2l, 1) := by decide +kernel
theorem dX5_see_2 : decode cX5_see 2 = .ok (.lconst 0, 1) := by decide +kernel
theorem dX5_see_3 : decode cX5_see 3 = .ok (.ldc2_w 240, 3) := by decide +kernel
theorem dX5_see_6 : decode cX5_see 6 = .ok (.invokestatic 53, 3) := by decide +kernel
theorem dX5_see_9 : decode cX5_see 9 = .ok (.ifCond .eq 23, 3) := by decide +kernel
theorem dX5_see_12 : decode cX5_see 12 = .ok (.aload_n 0, 1) := by decide +kernel
theorem dX5_see_13 : decode cX5_see 13 = .ok (.iload_n 2, 1) := by decide +kernel
theorem dX5_see_14 : decode cX5_see 14 = .ok (.invokevirtual 171, 3) := by decide +kernel
theorem dX5_see_17 : decode cX5_see 17 = .ok (.ifCond .eq 15, 3) := by decide +kernel
theorem dX5_see_20 : decode cX5_see 20 = .ok (.iload_n 3, 1) := by decide +kernel
theorem dX5_see_21 : decode cX5_see 21 = .ok (.i2l, 1) := by decide +kernel
theorem dX5_see_22 : decode cX5_see 22 = .ok (.lconst 0, 1) := by decide +kernel
theorem dX5_see_23 : decode cX5_see 23 = .ok (.ldc2_w 138, 3) := by decide +kernel
theorem dX5_see_26 : decode cX5_see 26 = .ok (.invokestatic 53, 3) := by decide +kernel
theorem dX5_see_29 : decode cX5_see 29 = .ok (.ifCond .ne 5, 3) := by decide +kernel
theorem dX5_see_32 : decode cX5_see 32 = .ok (.iconst (-1), 1) := by decide +kernel
theorem dX5_see_33 : decode cX5_see 33 = .ok (.ireturn, 1) := by decide +kernel
theorem dX5_see_34 : decode cX5_see 34 = .ok (.aload_n 0, 1) := by decide +kernel
theorem dX5_see_35 : decode cX5_see 35 = .ok (.getfield 120, 3) := by decide +kernel
theorem dX5_see_38 : decode cX5_see 38 = .ok (.bipush 6, 2) := by decide +kernel
theorem dX5_see_40 : decode cX5_see 40 = .ok (.if_icmp .ne 6, 3) := by decide +kernel
theorem dX5_see_43 : decode cX5_see 43 = .ok (.bipush (-3), 2) := by decide +kernel
theorem dX5_see_45 : decode cX5_see 45 = .ok (.ireturn, 1) := by decide +kernel
theorem dX5_see_46 : decode cX5_see 46 = .ok (.aload_n 0, 1) := by decide +kernel
theorem dX5_see_47 : decode cX5_see 47 = .ok (.getfield 32, 3) := by decide +kernel
theorem dX5_see_50 : decode cX5_see 50 = .ok (.iconst 3, 1) := by decide +kernel
theorem dX5_see_51 : decode cX5_see 51 = .ok (.aload_n 0, 1) := by decide +kernel
theorem dX5_see_52 : decode cX5_see 52 = .ok (.getfield 120, 3) := by decide +kernel
theorem dX5_see_55 : decode cX5_see 55 = .ok (.imul, 1) := by decide +kernel
theorem dX5_see_56 : decode cX5_see 56 = .ok (.iload_n 1, 1) := by decide +kernel
theorem dX5_see_57 : decode cX5_see 57 = .ok (.iastore, 1) := by decide +kernel
theorem dX5_see_58 : decode cX5_see 58 = .ok (.aload_n 0, 1) := by decide +kernel
theorem dX5_see_59 : decode cX5_see 59 = .ok (.getfield 32, 3) := by decide +kernel
theorem dX5_see_62 : decode cX5_see 62 = .ok (.iconst 3, 1) := by decide +kernel
theorem dX5_see_63 : decode cX5_see 63 = .ok (.aload_n 0, 1) := by decide +kernel
theorem dX5_see_64 : decode cX5_see 64 = .ok (.getfield 120, 3) := by decide +kernel
theorem dX5_see_67 : decode cX5_see 67 = .ok (.imul, 1) := by decide +kernel
theorem dX5_see_68 : decode cX5_see 68 = .ok (.iconst 1, 1) := by decide +kernel
theorem dX5_see_69 : decode cX5_see 69 = .ok (.iadd, 1) := by decide +kernel
theorem dX5_see_70 : decode cX5_see 70 = .ok (.iload_n 2, 1) := by decide +kernel
theorem dX5_see_71 : decode cX5_see 71 = .ok (.iastore, 1) := by decide +kernel
theorem dX5_see_72 : decode cX5_see 72 = .ok (.aload_n 0, 1) := by decide +kernel
theorem dX5_see_73 : decode cX5_see 73 = .ok (.getfield 32, 3) := by decide +kernel
theorem dX5_see_76 : decode cX5_see 76 = .ok (.iconst 3, 1) := by decide +kernel
theorem dX5_see_77 : decode cX5_see 77 = .ok (.aload_n 0, 1) := by decide +kernel
theorem dX5_see_78 : decode cX5_see 78 = .ok (.getfield 120, 3) := by decide +kernel
theorem dX5_see_81 : decode cX5_see 81 = .ok (.imul, 1) := by decide +kernel
theorem dX5_see_82 : decode cX5_see 82 = .ok (.iconst 2, 1) := by decide +kernel
theorem dX5_see_83 : decode cX5_see 83 = .ok (.iadd, 1) := by decide +kernel
theorem dX5_see_84 : decode cX5_see 84 = .ok (.iload_n 3, 1) := by decide +kernel
theorem dX5_see_85 : decode cX5_see 85 = .ok (.iastore, 1) := by decide +kernel
theorem dX5_see_86 : decode cX5_see 86 = .ok (.aload_n 0, 1) := by decide +kernel
theorem dX5_see_87 : decode cX5_see 87 = .ok (.dup, 1) := by decide +kernel
theorem dX5_see_88 : decode cX5_see 88 = .ok (.getfield 120, 3) := by decide +kernel
theorem dX5_see_91 : decode cX5_see 91 = .ok (.iconst 1, 1) := by decide +kernel
theorem dX5_see_92 : decode cX5_see 92 = .ok (.iadd, 1) := by decide +kernel
theorem dX5_see_93 : decode cX5_see 93 = .ok (.putfield 120, 3) := by decide +kernel
theorem dX5_see_96 : decode cX5_see 96 = .ok (.aload_n 0, 1) := by decide +kernel
theorem dX5_see_97 : decode cX5_see 97 = .ok (.getfield 120, 3) := by decide +kernel
theorem dX5_see_100 : decode cX5_see 100 = .ok (.ireturn, 1) := by decide +kernel
theorem dX5_forget_0 : decode cX5_forget 0 = .ok (.iload_n 1, 1) := by decide +kernel
theorem dX5_forget_1 : decode cX5_forget 1 = .ok (.i2l, 1) := by decide +kernel
theorem dX5_forget_2 : decode cX5_forget 2 = .ok (.lconst 0, 1) := by decide +kernel
theorem dX5_forget_3 : decode cX5_forget 3 = .ok (.aload_n 0, 1) := by decide +kernel
theorem dX5_forget_4 : decode cX5_forget 4 = .ok (.getfield 120, 3) := by decide +kernel
theorem dX5_forget_7 : decode cX5_forget 7 = .ok (.i2l, 1) := by decide +kernel
theorem dX5_forget_8 : decode cX5_forget 8 = .ok (.invokestatic 53, 3) := by decide +kernel
theorem dX5_forget_11 : decode cX5_forget 11 = .ok (.ifCond .ne 5, 3) := by decide +kernel
theorem dX5_forget_14 : decode cX5_forget 14 = .ok (.iconst (-1), 1) := by decide +kernel
theorem dX5_forget_15 : decode cX5_forget 15 = .ok (.ireturn, 1) := by decide +kernel
theorem dX5_forget_16 : decode cX5_forget 16 = .ok (.aload_n 0, 1) := by decide +kernel
theorem dX5_forget_17 : decode cX5_forget 17 = .ok (.getfield 120, 3) := by decide +kernel
theorem dX5_forget_20 : decode cX5_forget 20 = .ok (.istore_n 2, 1) := by decide +kernel
theorem dX5_forget_21 : decode cX5_forget 21 = .ok (.aload_n 0, 1) := by decide +kernel
theorem dX5_forget_22 : decode cX5_forget 22 = .ok (.iload_n 1, 1) := by decide +kernel
theorem dX5_forget_23 : decode cX5_forget 23 = .ok (.putfield 120, 3) := by decide +kernel
theorem dX5_forget_26 : decode cX5_forget 26 = .ok (.iload_n 2, 1) := by decide +kernel
theorem dX5_forget_27 : decode cX5_forget 27 = .ok (.ireturn, 1) := by decide +kernel
theorem dX5_isAsSeen_0 : decode cX5_isAsSeen 0 = .ok (.aload_n 0, 1) := by decide +kernel
theorem dX5_isAsSeen_1 : decode cX5_isAsSeen 1 = .ok (.sipush 260, 3) := by decide +kernel
theorem dX5_isAsSeen_4 : decode cX5_isAsSeen 4 = .ok (.sipush 208, 3) := by decide +kernel
theorem dX5_isAsSeen_7 : decode cX5_isAsSeen 7 = .ok (.invokevirtual 205, 3) := by decide +kernel
theorem dX5_isAsSeen_10 : decode cX5_isAsSeen 10 = .ok (.iconst 1, 1) := by decide +kernel
theorem dX5_isAsSeen_11 : decode cX5_isAsSeen 11 = .ok (.istore_n 3, 1) := by decide +kernel
theorem dX5_isAsSeen_12 : decode cX5_isAsSeen 12 = .ok (.iconst 0, 1) := by decide +kernel
theorem dX5_isAsSeen_13 : decode cX5_isAsSeen 13 = .ok (.istore 4, 2) := by decide +kernel
theorem dX5_isAsSeen_15 : decode cX5_isAsSeen 15 = .ok (.iload 4, 2) := by decide +kernel
theorem dX5_isAsSeen_17 : decode cX5_isAsSeen 17 = .ok (.bipush 40, 2) := by decide +kernel
theorem dX5_isAsSeen_19 : decode cX5_isAsSeen 19 = .ok (.if_icmp .gt 143, 3) := by decide +kernel
theorem dX5_isAsSeen_22 : decode cX5_isAsSeen 22 = .ok (.aload_n 0, 1) := by decide +kernel
theorem dX5_isAsSeen_23 : decode cX5_isAsSeen 23 = .ok (.getfield 35, 3) := by decide +kernel
theorem dX5_isAsSeen_26 : decode cX5_isAsSeen 26 = .ok (.bipush 41, 2) := by decide +kernel
theorem dX5_isAsSeen_28 : decode cX5_isAsSeen 28 = .ok (.iload_n 1, 1) := by decide +kernel
theorem dX5_isAsSeen_29 : decode cX5_isAsSeen 29 = .ok (.imul, 1) := by decide +kernel
theorem dX5_isAsSeen_30 : decode cX5_isAsSeen 30 = .ok (.iload 4, 2) := by decide +kernel
theorem dX5_isAsSeen_32 : decode cX5_isAsSeen 32 = .ok (.iadd, 1) := by decide +kernel
theorem dX5_isAsSeen_33 : decode cX5_isAsSeen 33 = .ok (.aload_n 0, 1) := by decide +kernel
theorem dX5_isAsSeen_34 : decode cX5_isAsSeen 34 = .ok (.getfield 7, 3) := by decide +kernel
theorem dX5_isAsSeen_37 : decode cX5_isAsSeen 37 = .ok (.sipush 224, 3) := by decide +kernel
theorem dX5_isAsSeen_40 : decode cX5_isAsSeen 40 = .ok (.iload_n 2, 1) := by decide +kernel
theorem dX5_isAsSeen_41 : decode cX5_isAsSeen 41 = .ok (.iadd, 1) := by decide +kernel
theorem dX5_isAsSeen_42 : decode cX5_isAsSeen 42 = .ok (.iaload, 1) := by decide +kernel
theorem dX5_isAsSeen_43 : decode cX5_isAsSeen 43 = .ok (.iastore, 1) := by decide +kernel
theorem dX5_isAsSeen_44 : decode cX5_isAsSeen 44 = .ok (.iconst 0, 1) := by decide +kernel
theorem dX5_isAsSeen_45 : decode cX5_isAsSeen 45 = .ok (.istore 5, 2) := by decide +kernel
theorem dX5_isAsSeen_47 : decode cX5_isAsSeen 47 = .ok (.iload 5, 2) := by decide +kernel
theorem dX5_isAsSeen_49 : decode cX5_isAsSeen 49 = .ok (.aload_n 0, 1) := by decide +kernel
theorem dX5_isAsSeen_50 : decode cX5_isAsSeen 50 = .ok (.getfield 120, 3) := by decide +kernel
theorem dX5_isAsSeen_53 : decode cX5_isAsSeen 53 = .ok (.if_icmp .ge 95, 3) := by decide +kernel
theorem dX5_isAsSeen_56 : decode cX5_isAsSeen 56 = .ok (.aload_n 0, 1) := by decide +kernel
theorem dX5_isAsSeen_57 : decode cX5_isAsSeen 57 = .ok (.getfield 32, 3) := by decide +kernel
theorem dX5_isAsSeen_60 : decode cX5_isAsSeen 60 = .ok (.iconst 3, 1) := by decide +kernel
theorem dX5_isAsSeen_61 : decode cX5_isAsSeen 61 = .ok (.iload 5, 2) := by decide +kernel
theorem dX5_isAsSeen_63 : decode cX5_isAsSeen 63 = .ok (.imul, 1) := by decide +kernel
theorem dX5_isAsSeen_64 : decode cX5_isAsSeen 64 = .ok (.iconst 1, 1) := by decide +kernel
theorem dX5_isAsSeen_65 : decode cX5_isAsSeen 65 = .ok (.iadd, 1) := by decide +kernel
theorem dX5_isAsSeen_66 : decode cX5_isAsSeen 66 = .ok (.iaload, 1) := by decide +kernel
theorem dX5_isAsSeen_67 : decode cX5_isAsSeen 67 = .ok (.istore 6, 2) := by decide +kernel
theorem dX5_isAsSeen_69 : decode cX5_isAsSeen 69 = .ok (.iload 6, 2) := by decide +kernel
theorem dX5_isAsSeen_71 : decode cX5_isAsSeen 71 = .ok (.aload_n 0, 1) := by decide +kernel
theorem dX5_isAsSeen_72 : decode cX5_isAsSeen 72 = .ok (.getfield 7, 3) := by decide +kernel
theorem dX5_isAsSeen_75 : decode cX5_isAsSeen 75 = .ok (.bipush 24, 2) := by decide +kernel
theorem dX5_isAsSeen_77 : decode cX5_isAsSeen 77 = .ok (.iaload, 1) := by decide +kernel
theorem dX5_isAsSeen_78 : decode cX5_isAsSeen 78 = .ok (.if_icmp .ge 32, 3) := by decide +kernel
theorem dX5_isAsSeen_81 : decode cX5_isAsSeen 81 = .ok (.aload_n 0, 1) := by decide +kernel
theorem dX5_isAsSeen_82 : decode cX5_isAsSeen 82 = .ok (.getfield 7, 3) := by decide +kernel
theorem dX5_isAsSeen_85 : decode cX5_isAsSeen 85 = .ok (.sipush 224, 3) := by decide +kernel
theorem dX5_isAsSeen_88 : decode cX5_isAsSeen 88 = .ok (.iload 6, 2) := by decide +kernel
theorem dX5_isAsSeen_90 : decode cX5_isAsSeen 90 = .ok (.iadd, 1) := by decide +kernel
theorem dX5_isAsSeen_91 : decode cX5_isAsSeen 91 = .ok (.iaload, 1) := by decide +kernel
theorem dX5_isAsSeen_92 : decode cX5_isAsSeen 92 = .ok (.aload_n 0, 1) := by decide +kernel
theorem dX5_isAsSeen_93 : decode cX5_isAsSeen 93 = .ok (.getfield 32, 3) := by decide +kernel
theorem dX5_isAsSeen_96 : decode cX5_isAsSeen 96 = .ok (.iconst 3, 1) := by decide +kernel
theorem dX5_isAsSeen_97 : decode cX5_isAsSeen 97 = .ok (.iload 5, 2) := by decide +kernel
theorem dX5_isAsSeen_99 : decode cX5_isAsSeen 99 = .ok (.imul, 1) := by decide +kernel
theorem dX5_isAsSeen_100 : decode cX5_isAsSeen 100 = .ok (.iconst 2, 1) := by decide +kernel
theorem dX5_isAsSeen_101 : decode cX5_isAsSeen 101 = .ok (.iadd, 1) := by decide +kernel
theorem dX5_isAsSeen_102 : decode cX5_isAsSeen 102 = .ok (.iaload, 1) := by decide +kernel
theorem dX5_isAsSeen_103 : decode cX5_isAsSeen 103 = .ok (.if_icmp .ne 7, 3) := by decide +kernel
theorem dX5_isAsSeen_106 : decode cX5_isAsSeen 106 = .ok (.iconst 1, 1) := by decide +kernel
theorem dX5_isAsSeen_107 : decode cX5_isAsSeen 107 = .ok (.goto 4, 3) := by decide +kernel
theorem dX5_isAsSeen_110 : decode cX5_isAsSeen 110 = .ok (.iconst 0, 1) := by decide +kernel
theorem dX5_isAsSeen_111 : decode cX5_isAsSeen 111 = .ok (.istore 7, 2) := by decide +kernel
theorem dX5_isAsSeen_113 : decode cX5_isAsSeen 113 = .ok (.iload_n 3, 1) := by decide +kernel
theorem dX5_isAsSeen_114 : decode cX5_isAsSeen 114 = .ok (.ifCond .eq 26, 3) := by decide +kernel
theorem dX5_isAsSeen_117 : decode cX5_isAsSeen 117 = .ok (.aload_n 0, 1) := by decide +kernel
theorem dX5_isAsSeen_118 : decode cX5_isAsSeen 118 = .ok (.getfield 32, 3) := by decide +kernel
theorem dX5_isAsSeen_121 : decode cX5_isAsSeen 121 = .ok (.iconst 3, 1) := by decide +kernel
theorem dX5_isAsSeen_122 : decode cX5_isAsSeen 122 = .ok (.iload 5, 2) := by decide +kernel
theorem dX5_isAsSeen_124 : decode cX5_isAsSeen 124 = .ok (.imul, 1) := by decide +kernel
theorem dX5_isAsSeen_125 : decode cX5_isAsSeen 125 = .ok (.iaload, 1) := by decide +kernel
theorem dX5_isAsSeen_126 : decode cX5_isAsSeen 126 = .ok (.iload 4, 2) := by decide +kernel
theorem dX5_isAsSeen_128 : decode cX5_isAsSeen 128 = .ok (.if_icmp .ne 8, 3) := by decide +kernel
theorem dX5_isAsSeen_131 : decode cX5_isAsSeen 131 = .ok (.iload 7, 2) := by decide +kernel
theorem dX5_isAsSeen_133 : decode cX5_isAsSeen 133 = .ok (.ifCond .eq 7, 3) := by decide +kernel
theorem dX5_isAsSeen_136 : decode cX5_isAsSeen 136 = .ok (.iconst 1, 1) := by decide +kernel
theorem dX5_isAsSeen_137 : decode cX5_isAsSeen 137 = .ok (.goto 4, 3) := by decide +kernel
theorem dX5_isAsSeen_140 : decode cX5_isAsSeen 140 = .ok (.iconst 0, 1) := by decide +kernel
theorem dX5_isAsSeen_141 : decode cX5_isAsSeen 141 = .ok (.istore_n 3, 1) := by decide +kernel
theorem dX5_isAsSeen_142 : decode cX5_isAsSeen 142 = .ok (.iinc 5 1, 3) := by decide +kernel
theorem dX5_isAsSeen_145 : decode cX5_isAsSeen 145 = .ok (.goto (-98), 3) := by decide +kernel
theorem dX5_isAsSeen_148 : decode cX5_isAsSeen 148 = .ok (.aload_n 0, 1) := by decide +kernel
theorem dX5_isAsSeen_149 : decode cX5_isAsSeen 149 = .ok (.sipush 208, 3) := by decide +kernel
theorem dX5_isAsSeen_152 : decode cX5_isAsSeen 152 = .ok (.iconst 0, 1) := by decide +kernel
theorem dX5_isAsSeen_153 : decode cX5_isAsSeen 153 = .ok (.invokevirtual 201, 3) := by decide +kernel
theorem dX5_isAsSeen_156 : decode cX5_isAsSeen 156 = .ok (.iinc 4 1, 3) := by decide +kernel
theorem dX5_isAsSeen_159 : decode cX5_isAsSeen 159 = .ok (.goto (-144), 3) := by decide +kernel
theorem dX5_isAsSeen_162 : decode cX5_isAsSeen 162 = .ok (.iload_n 3, 1) := by decide +kernel
theorem dX5_isAsSeen_163 : decode cX5_isAsSeen 163 = .ok (.ireturn, 1) := by decide +kernel
theorem dX5_numbersAt_0 : decode cX5_numbersAt 0 = .ok (.iconst 0, 1) := by decide +kernel
theorem dX5_numbersAt_1 : decode cX5_numbersAt 1 = .ok (.istore 4, 2) := by decide +kernel
theorem dX5_numbersAt_3 : decode cX5_numbersAt 3 = .ok (.aload_n 0, 1) := by decide +kernel
theorem dX5_numbersAt_4 : decode cX5_numbersAt 4 = .ok (.iconst 0, 1) := by decide +kernel
theorem dX5_numbersAt_5 : decode cX5_numbersAt 5 = .ok (.sipush 260, 3) := by decide +kernel
theorem dX5_numbersAt_8 : decode cX5_numbersAt 8 = .ok (.invokevirtual 205, 3) := by decide +kernel
theorem dX5_numbersAt_11 : decode cX5_numbersAt 11 = .ok (.iconst 0, 1) := by decide +kernel
theorem dX5_numbersAt_12 : decode cX5_numbersAt 12 = .ok (.istore 5, 2) := by decide +kernel
theorem dX5_numbersAt_14 : decode cX5_numbersAt 14 = .ok (.iload 5, 2) := by decide +kernel
theorem dX5_numbersAt_16 : decode cX5_numbersAt 16 = .ok (.iload_n 3, 1) := by decide +kernel
theorem dX5_numbersAt_17 : decode cX5_numbersAt 17 = .ok (.if_icmp .ge 44, 3) := by decide +kernel
theorem dX5_numbersAt_20 : decode cX5_numbersAt 20 = .ok (.aload_n 0, 1) := by decide +kernel
theorem dX5_numbersAt_21 : decode cX5_numbersAt 21 = .ok (.getfield 7, 3) := by decide +kernel
theorem dX5_numbersAt_24 : decode cX5_numbersAt 24 = .ok (.sipush 260, 3) := by decide +kernel
theorem dX5_numbersAt_27 : decode cX5_numbersAt 27 = .ok (.iload_n 1, 1) := by decide +kernel
theorem dX5_numbersAt_28 : decode cX5_numbersAt 28 = .ok (.iadd, 1) := by decide +kernel
theorem dX5_numbersAt_29 : decode cX5_numbersAt 29 = .ok (.iload 5, 2) := by decide +kernel
theorem dX5_numbersAt_31 : decode cX5_numbersAt 31 = .ok (.iastore, 1) := by decide +kernel
theorem dX5_numbersAt_32 : decode cX5_numbersAt 32 = .ok (.iload 4, 2) := by decide +kernel
theorem dX5_numbersAt_34 : decode cX5_numbersAt 34 = .ok (.aload_n 0, 1) := by decide +kernel
theorem dX5_numbersAt_35 : decode cX5_numbersAt 35 = .ok (.iload 5, 2) := by decide +kernel
theorem dX5_numbersAt_37 : decode cX5_numbersAt 37 = .ok (.iload_n 2, 1) := by decide +kernel
theorem dX5_numbersAt_38 : decode cX5_numbersAt 38 = .ok (.invokevirtual 242, 3) := by decide +kernel
theorem dX5_numbersAt_41 : decode cX5_numbersAt 41 = .ok (.ifCond .eq 10, 3) := by decide +kernel
theorem dX5_numbersAt_44 : decode cX5_numbersAt 44 = .ok (.iconst 1, 1) := by decide +kernel
theorem dX5_numbersAt_45 : decode cX5_numbersAt 45 = .ok (.iload 5, 2) := by decide +kernel
theorem dX5_numbersAt_47 : decode cX5_numbersAt 47 = .ok (.ishl, 1) := by decide +kernel
theorem dX5_numbersAt_48 : decode cX5_numbersAt 48 = .ok (.goto 4, 3) := by decide +kernel
theorem dX5_numbersAt_51 : decode cX5_numbersAt 51 = .ok (.iconst 0, 1) := by decide +kernel
theorem dX5_numbersAt_52 : decode cX5_numbersAt 52 = .ok (.ior, 1) := by decide +kernel
theorem dX5_numbersAt_53 : decode cX5_numbersAt 53 = .ok (.istore 4, 2) := by decide +kernel
theorem dX5_numbersAt_55 : decode cX5_numbersAt 55 = .ok (.iinc 5 1, 3) := by decide +kernel
theorem dX5_numbersAt_58 : decode cX5_numbersAt 58 = .ok (.goto (-44), 3) := by decide +kernel
theorem dX5_numbersAt_61 : decode cX5_numbersAt 61 = .ok (.iload 4, 2) := by decide +kernel
theorem dX5_numbersAt_63 : decode cX5_numbersAt 63 = .ok (.ireturn, 1) := by decide +kernel
theorem dX5_kinds_0 : decode cX5_kinds 0 = .ok (.aload_n 0, 1) := by decide +kernel
theorem dX5_kinds_1 : decode cX5_kinds 1 = .ok (.iload_n 1, 1) := by decide +kernel
theorem dX5_kinds_2 : decode cX5_kinds 2 = .ok (.invokevirtual 171, 3) := by decide +kernel
theorem dX5_kinds_5 : decode cX5_kinds 5 = .ok (.ifCond .eq 13, 3) := by decide +kernel
theorem dX5_kinds_8 : decode cX5_kinds 8 = .ok (.aload_n 0, 1) := by decide +kernel
theorem dX5_kinds_9 : decode cX5_kinds 9 = .ok (.iload_n 1, 1) := by decide +kernel
theorem dX5_kinds_10 : decode cX5_kinds 10 = .ok (.iload_n 1, 1) := by decide +kernel
theorem dX5_kinds_11 : decode cX5_kinds 11 = .ok (.iconst 4, 1) := by decide +kernel
theorem dX5_kinds_12 : decode cX5_kinds 12 = .ok (.invokevirtual 245, 3) := by decide +kernel
theorem dX5_kinds_15 : decode cX5_kinds 15 = .ok (.goto 4, 3) := by decide +kernel
theorem dX5_kinds_18 : decode cX5_kinds 18 = .ok (.iconst (-1), 1) := by decide +kernel
theorem dX5_kinds_19 : decode cX5_kinds 19 = .ok (.ireturn, 1) := by decide +kernel
theorem dX5_stiffs_0 : decode cX5_stiffs 0 = .ok (.aload_n 0, 1) := by decide +kernel
theorem dX5_stiffs_1 : decode cX5_stiffs 1 = .ok (.iload_n 1, 1) := by decide +kernel
theorem dX5_stiffs_2 : decode cX5_stiffs 2 = .ok (.invokevirtual 171, 3) := by decide +kernel
theorem dX5_stiffs_5 : decode cX5_stiffs 5 = .ok (.ifCond .eq 17, 3) := by decide +kernel
theorem dX5_stiffs_8 : decode cX5_stiffs 8 = .ok (.aload_n 0, 1) := by decide +kernel
theorem dX5_stiffs_9 : decode cX5_stiffs 9 = .ok (.bipush 8, 2) := by decide +kernel
theorem dX5_stiffs_11 : decode cX5_stiffs 11 = .ok (.iload_n 1, 1) := by decide +kernel
theorem dX5_stiffs_12 : decode cX5_stiffs 12 = .ok (.iadd, 1) := by decide +kernel
theorem dX5_stiffs_13 : decode cX5_stiffs 13 = .ok (.iload_n 1, 1) := by decide +kernel
theorem dX5_stiffs_14 : decode cX5_stiffs 14 = .ok (.bipush 10, 2) := by decide +kernel
theorem dX5_stiffs_16 : decode cX5_stiffs 16 = .ok (.invokevirtual 245, 3) := by decide +kernel
theorem dX5_stiffs_19 : decode cX5_stiffs 19 = .ok (.goto 4, 3) := by decide +kernel
theorem dX5_stiffs_22 : decode cX5_stiffs 22 = .ok (.iconst (-1), 1) := by decide +kernel
theorem dX5_stiffs_23 : decode cX5_stiffs 23 = .ok (.ireturn, 1) := by decide +kernel
theorem dX5_worstAt_0 : decode cX5_worstAt 0 = .ok (.iconst 0, 1) := by decide +kernel
theorem dX5_worstAt_1 : decode cX5_worstAt 1 = .ok (.istore_n 3, 1) := by decide +kernel
theorem dX5_worstAt_2 : decode cX5_worstAt 2 = .ok (.iconst 0, 1) := by decide +kernel
theorem dX5_worstAt_3 : decode cX5_worstAt 3 = .ok (.istore 4, 2) := by decide +kernel
theorem dX5_worstAt_5 : decode cX5_worstAt 5 = .ok (.iload 4, 2) := by decide +kernel
theorem dX5_worstAt_7 : decode cX5_worstAt 7 = .ok (.bipush 9, 2) := by decide +kernel
theorem dX5_worstAt_9 : decode cX5_worstAt 9 = .ok (.if_icmp .gt 98, 3) := by decide +kernel
theorem dX5_worstAt_12 : decode cX5_worstAt 12 = .ok (.iconst 0, 1) := by decide +kernel
theorem dX5_worstAt_13 : decode cX5_worstAt 13 = .ok (.istore 5, 2) := by decide +kernel
theorem dX5_worstAt_15 : decode cX5_worstAt 15 = .ok (.iconst 0, 1) := by decide +kernel
theorem dX5_worstAt_16 : decode cX5_worstAt 16 = .ok (.istore 6, 2) := by decide +kernel
theorem dX5_worstAt_18 : decode cX5_worstAt 18 = .ok (.iload 6, 2) := by decide +kernel
theorem dX5_worstAt_20 : decode cX5_worstAt 20 = .ok (.bipush 9, 2) := by decide +kernel
theorem dX5_worstAt_22 : decode cX5_worstAt 22 = .ok (.if_icmp .gt 66, 3) := by decide +kernel
theorem dX5_worstAt_25 : decode cX5_worstAt 25 = .ok (.iload_n 1, 1) := by decide +kernel
theorem dX5_worstAt_26 : decode cX5_worstAt 26 = .ok (.iload 4, 2) := by decide +kernel
theorem dX5_worstAt_28 : decode cX5_worstAt 28 = .ok (.ishr, 1) := by decide +kernel
theorem dX5_worstAt_29 : decode cX5_worstAt 29 = .ok (.iconst 1, 1) := by decide +kernel
theorem dX5_worstAt_30 : decode cX5_worstAt 30 = .ok (.iand, 1) := by decide +kernel
theorem dX5_worstAt_31 : decode cX5_worstAt 31 = .ok (.iconst 1, 1) := by decide +kernel
theorem dX5_worstAt_32 : decode cX5_worstAt 32 = .ok (.if_icmp .ne 56, 3) := by decide +kernel
theorem dX5_worstAt_35 : decode cX5_worstAt 35 = .ok (.iload 5, 2) := by decide +kernel
theorem dX5_worstAt_37 : decode cX5_worstAt 37 = .ok (.iload_n 1, 1) := by decide +kernel
theorem dX5_worstAt_38 : decode cX5_worstAt 38 = .ok (.iload 6, 2) := by decide +kernel
theorem dX5_worstAt_40 : decode cX5_worstAt 40 = .ok (.ishr, 1) := by decide +kernel
theorem dX5_worstAt_41 : decode cX5_worstAt 41 = .ok (.iconst 1, 1) := by decide +kernel
theorem dX5_worstAt_42 : decode cX5_worstAt 42 = .ok (.iand, 1) := by decide +kernel
theorem dX5_worstAt_43 : decode cX5_worstAt 43 = .ok (.iconst 1, 1) := by decide +kernel
theorem dX5_worstAt_44 : decode cX5_worstAt 44 = .ok (.if_icmp .ne 34, 3) := by decide +kernel
theorem dX5_worstAt_47 : decode cX5_worstAt 47 = .ok (.aload_n 0, 1) := by decide +kernel
theorem dX5_worstAt_48 : decode cX5_worstAt 48 = .ok (.getfield 35, 3) := by decide +kernel
theorem dX5_worstAt_51 : decode cX5_worstAt 51 = .ok (.bipush 41, 2) := by decide +kernel
theorem dX5_worstAt_53 : decode cX5_worstAt 53 = .ok (.iload 4, 2) := by decide +kernel
theorem dX5_worstAt_55 : decode cX5_worstAt 55 = .ok (.imul, 1) := by decide +kernel
theorem dX5_worstAt_56 : decode cX5_worstAt 56 = .ok (.iload_n 2, 1) := by decide +kernel
theorem dX5_worstAt_57 : decode cX5_worstAt 57 = .ok (.iadd, 1) := by decide +kernel
theorem dX5_worstAt_58 : decode cX5_worstAt 58 = .ok (.iaload, 1) := by decide +kernel
theorem dX5_worstAt_59 : decode cX5_worstAt 59 = .ok (.aload_n 0, 1) := by decide +kernel
theorem dX5_worstAt_60 : decode cX5_worstAt 60 = .ok (.getfield 35, 3) := by decide +kernel
theorem dX5_worstAt_63 : decode cX5_worstAt 63 = .ok (.bipush 41, 2) := by decide +kernel
theorem dX5_worstAt_65 : decode cX5_worstAt 65 = .ok (.iload 6, 2) := by decide +kernel
theorem dX5_worstAt_67 : decode cX5_worstAt 67 = .ok (.imul, 1) := by decide +kernel
theorem dX5_worstAt_68 : decode cX5_worstAt 68 = .ok (.iload_n 2, 1) := by decide +kernel
theorem dX5_worstAt_69 : decode cX5_worstAt 69 = .ok (.iadd, 1) := by decide +kernel
theorem dX5_worstAt_70 : decode cX5_worstAt 70 = .ok (.iaload, 1) := by decide +kernel
theorem dX5_worstAt_71 : decode cX5_worstAt 71 = .ok (.if_icmp .ne 7, 3) := by decide +kernel
theorem dX5_worstAt_74 : decode cX5_worstAt 74 = .ok (.iconst 1, 1) := by decide +kernel
theorem dX5_worstAt_75 : decode cX5_worstAt 75 = .ok (.goto 4, 3) := by decide +kernel
theorem dX5_worstAt_78 : decode cX5_worstAt 78 = .ok (.iconst 0, 1) := by decide +kernel
theorem dX5_worstAt_79 : decode cX5_worstAt 79 = .ok (.iadd, 1) := by decide +kernel
theorem dX5_worstAt_80 : decode cX5_worstAt 80 = .ok (.istore 5, 2) := by decide +kernel
theorem dX5_worstAt_82 : decode cX5_worstAt 82 = .ok (.iinc 6 1, 3) := by decide +kernel
theorem dX5_worstAt_85 : decode cX5_worstAt 85 = .ok (.goto (-67), 3) := by decide +kernel
theorem dX5_worstAt_88 : decode cX5_worstAt 88 = .ok (.iload 5, 2) := by decide +kernel
theorem dX5_worstAt_90 : decode cX5_worstAt 90 = .ok (.iload_n 3, 1) := by decide +kernel
theorem dX5_worstAt_91 : decode cX5_worstAt 91 = .ok (.if_icmp .le 8, 3) := by decide +kernel
theorem dX5_worstAt_94 : decode cX5_worstAt 94 = .ok (.iload 5, 2) := by decide +kernel
theorem dX5_worstAt_96 : decode cX5_worstAt 96 = .ok (.goto 4, 3) := by decide +kernel
theorem dX5_worstAt_99 : decode cX5_worstAt 99 = .ok (.iload_n 3, 1) := by decide +kernel
theorem dX5_worstAt_100 : decode cX5_worstAt 100 = .ok (.istore_n 3, 1) := by decide +kernel
theorem dX5_worstAt_101 : decode cX5_worstAt 101 = .ok (.iinc 4 1, 3) := by decide +kernel
theorem dX5_worstAt_104 : decode cX5_worstAt 104 = .ok (.goto (-99), 3) := by decide +kernel
theorem dX5_worstAt_107 : decode cX5_worstAt 107 = .ok (.iload_n 3, 1) := by decide +kernel
theorem dX5_worstAt_108 : decode cX5_worstAt 108 = .ok (.ireturn, 1) := by decide +kernel
theorem dX5_ask_0 : decode cX5_ask 0 = .ok (.aload_n 0, 1) := by decide +kernel
theorem dX5_ask_1 : decode cX5_ask 1 = .ok (.iload_n 1, 1) := by decide +kernel
theorem dX5_ask_2 : decode cX5_ask 2 = .ok (.invokevirtual 171, 3) := by decide +kernel
theorem dX5_ask_5 : decode cX5_ask 5 = .ok (.ifCond .eq 13, 3) := by decide +kernel
theorem dX5_ask_8 : decode cX5_ask 8 = .ok (.iload_n 2, 1) := by decide +kernel
theorem dX5_ask_9 : decode cX5_ask 9 = .ok (.i2l, 1) := by decide +kernel
theorem dX5_ask_10 : decode cX5_ask 10 = .ok (.lconst 0, 1) := by decide +kernel
theorem dX5_ask_11 : decode cX5_ask 11 = .ok (.lconst 1, 1) := by decide +kernel
theorem dX5_ask_12 : decode cX5_ask 12 = .ok (.invokestatic 53, 3) := by decide +kernel
theorem dX5_ask_15 : decode cX5_ask 15 = .ok (.ifCond .ne 5, 3) := by decide +kernel
theorem dX5_ask_18 : decode cX5_ask 18 = .ok (.iconst (-1), 1) := by decide +kernel
theorem dX5_ask_19 : decode cX5_ask 19 = .ok (.ireturn, 1) := by decide +kernel
theorem dX5_ask_20 : decode cX5_ask 20 = .ok (.aload_n 0, 1) := by decide +kernel
theorem dX5_ask_21 : decode cX5_ask 21 = .ok (.bipush 8, 2) := by decide +kernel
theorem dX5_ask_23 : decode cX5_ask 23 = .ok (.iload_n 1, 1) := by decide +kernel
theorem dX5_ask_24 : decode cX5_ask 24 = .ok (.iadd, 1) := by decide +kernel
theorem dX5_ask_25 : decode cX5_ask 25 = .ok (.iload_n 1, 1) := by decide +kernel
theorem dX5_ask_26 : decode cX5_ask 26 = .ok (.bipush 10, 2) := by decide +kernel
theorem dX5_ask_28 : decode cX5_ask 28 = .ok (.invokevirtual 245, 3) := by decide +kernel
theorem dX5_ask_31 : decode cX5_ask 31 = .ok (.istore_n 3, 1) := by decide +kernel
theorem dX5_ask_32 : decode cX5_ask 32 = .ok (.iconst 0, 1) := by decide +kernel
theorem dX5_ask_33 : decode cX5_ask 33 = .ok (.istore 4, 2) := by decide +kernel
theorem dX5_ask_35 : decode cX5_ask 35 = .ok (.iconst 0, 1) := by decide +kernel
theorem dX5_ask_36 : decode cX5_ask 36 = .ok (.istore 5, 2) := by decide +kernel
theorem dX5_ask_38 : decode cX5_ask 38 = .ok (.iload 5, 2) := by decide +kernel
theorem dX5_ask_40 : decode cX5_ask 40 = .ok (.bipush 9, 2) := by decide +kernel
theorem dX5_ask_42 : decode cX5_ask 42 = .ok (.if_icmp .gt 20, 3) := by decide +kernel
theorem dX5_ask_45 : decode cX5_ask 45 = .ok (.iload 4, 2) := by decide +kernel
theorem dX5_ask_47 : decode cX5_ask 47 = .ok (.iload_n 3, 1) := by decide +kernel
theorem dX5_ask_48 : decode cX5_ask 48 = .ok (.iload 5, 2) := by decide +kernel
theorem dX5_ask_50 : decode cX5_ask 50 = .ok (.ishr, 1) := by decide +kernel
theorem dX5_ask_51 : decode cX5_ask 51 = .ok (.iconst 1, 1) := by decide +kernel
theorem dX5_ask_52 : decode cX5_ask 52 = .ok (.iand, 1) := by decide +kernel
theorem dX5_ask_53 : decode cX5_ask 53 = .ok (.iadd, 1) := by decide +kernel
theorem dX5_ask_54 : decode cX5_ask 54 = .ok (.istore 4, 2) := by decide +kernel
theorem dX5_ask_56 : decode cX5_ask 56 = .ok (.iinc 5 1, 3) := by decide +kernel
theorem dX5_ask_59 : decode cX5_ask 59 = .ok (.goto (-21), 3) := by decide +kernel
theorem dX5_ask_62 : decode cX5_ask 62 = .ok (.bipush (-4), 2) := by decide +kernel
theorem dX5_ask_64 : decode cX5_ask 64 = .ok (.istore 5, 2) := by decide +kernel
theorem dX5_ask_66 : decode cX5_ask 66 = .ok (.iconst 0, 1) := by decide +kernel
theorem dX5_ask_67 : decode cX5_ask 67 = .ok (.istore 6, 2) := by decide +kernel
theorem dX5_ask_69 : decode cX5_ask 69 = .ok (.iload 6, 2) := by decide +kernel
theorem dX5_ask_71 : decode cX5_ask 71 = .ok (.bipush 40, 2) := by decide +kernel
theorem dX5_ask_73 : decode cX5_ask 73 = .ok (.if_icmp .gt 50, 3) := by decide +kernel
theorem dX5_ask_76 : decode cX5_ask 76 = .ok (.aload_n 0, 1) := by decide +kernel
theorem dX5_ask_77 : decode cX5_ask 77 = .ok (.iload_n 3, 1) := by decide +kernel
theorem dX5_ask_78 : decode cX5_ask 78 = .ok (.iload 6, 2) := by decide +kernel
theorem dX5_ask_80 : decode cX5_ask 80 = .ok (.invokevirtual 249, 3) := by decide +kernel
theorem dX5_ask_83 : decode cX5_ask 83 = .ok (.istore 7, 2) := by decide +kernel
theorem dX5_ask_85 : decode cX5_ask 85 = .ok (.iload 7, 2) := by decide +kernel
theorem dX5_ask_87 : decode cX5_ask 87 = .ok (.iload 4, 2) := by decide +kernel
theorem dX5_ask_89 : decode cX5_ask 89 = .ok (.if_icmp .ge 8, 3) := by decide +kernel
theorem dX5_ask_92 : decode cX5_ask 92 = .ok (.iload 6, 2) := by decide +kernel
theorem dX5_ask_94 : decode cX5_ask 94 = .ok (.goto 5, 3) := by decide +kernel
theorem dX5_ask_97 : decode cX5_ask 97 = .ok (.iload 5, 2) := by decide +kernel
theorem dX5_ask_99 : decode cX5_ask 99 = .ok (.istore 5, 2) := by decide +kernel
theorem dX5_ask_101 : decode cX5_ask 101 = .ok (.iload 7, 2) := by decide +kernel
theorem dX5_ask_103 : decode cX5_ask 103 = .ok (.iload 4, 2) := by decide +kernel
theorem dX5_ask_105 : decode cX5_ask 105 = .ok (.if_icmp .ge 8, 3) := by decide +kernel
theorem dX5_ask_108 : decode cX5_ask 108 = .ok (.iload 7, 2) := by decide +kernel
theorem dX5_ask_110 : decode cX5_ask 110 = .ok (.goto 5, 3) := by decide +kernel
theorem dX5_ask_113 : decode cX5_ask 113 = .ok (.iload 4, 2) := by decide +kernel
theorem dX5_ask_115 : decode cX5_ask 115 = .ok (.istore 4, 2) := by decide +kernel
theorem dX5_ask_117 : decode cX5_ask 117 = .ok (.iinc 6 1, 3) := by decide +kernel
theorem dX5_ask_120 : decode cX5_ask 120 = .ok (.goto (-51), 3) := by decide +kernel
theorem dX5_ask_123 : decode cX5_ask 123 = .ok (.iload 5, 2) := by decide +kernel
theorem dX5_ask_125 : decode cX5_ask 125 = .ok (.bipush (-4), 2) := by decide +kernel
theorem dX5_ask_127 : decode cX5_ask 127 = .ok (.if_icmp .eq 7, 3) := by decide +kernel
theorem dX5_ask_130 : decode cX5_ask 130 = .ok (.iload_n 2, 1) := by decide +kernel
theorem dX5_ask_131 : decode cX5_ask 131 = .ok (.ifCond .ne 8, 3) := by decide +kernel
theorem dX5_ask_134 : decode cX5_ask 134 = .ok (.iload 5, 2) := by decide +kernel
theorem dX5_ask_136 : decode cX5_ask 136 = .ok (.goto 5, 3) := by decide +kernel
theorem dX5_ask_139 : decode cX5_ask 139 = .ok (.iload 4, 2) := by decide +kernel
theorem dX5_ask_141 : decode cX5_ask 141 = .ok (.ireturn, 1) := by decide +kernel
theorem dX5_drift_0 : decode cX5_drift 0 = .ok (.iload_n 2, 1) := by decide +kernel
theorem dX5_drift_1 : decode cX5_drift 1 = .ok (.i2l, 1) := by decide +kernel
theorem dX5_drift_2 : decode cX5_drift 2 = .ok (.lconst 1, 1) := by decide +kernel
theorem dX5_drift_3 : decode cX5_drift 3 = .ok (.ldc2_w 123, 3) := by decide +kernel
theorem dX5_drift_6 : decode cX5_drift 6 = .ok (.invokestatic 53, 3) := by decide +kernel
theorem dX5_drift_9 : decode cX5_drift 9 = .ok (.ifCond .eq 13, 3) := by decide +kernel
theorem dX5_drift_12 : decode cX5_drift 12 = .ok (.iload_n 3, 1) := by decide +kernel
theorem dX5_drift_13 : decode cX5_drift 13 = .ok (.i2l, 1) := by decide +kernel
theorem dX5_drift_14 : decode cX5_drift 14 = .ok (.lconst 0, 1) := by decide +kernel
theorem dX5_drift_15 : decode cX5_drift 15 = .ok (.lconst 1, 1) := by decide +kernel
theorem dX5_drift_16 : decode cX5_drift 16 = .ok (.invokestatic 53, 3) := by decide +kernel
theorem dX5_drift_19 : decode cX5_drift 19 = .ok (.ifCond .ne 5, 3) := by decide +kernel
theorem dX5_drift_22 : decode cX5_drift 22 = .ok (.iconst (-1), 1) := by decide +kernel
theorem dX5_drift_23 : decode cX5_drift 23 = .ok (.ireturn, 1) := by decide +kernel
theorem dX5_drift_24 : decode cX5_drift 24 = .ok (.aload_n 0, 1) := by decide +kernel
theorem dX5_drift_25 : decode cX5_drift 25 = .ok (.getfield 7, 3) := by decide +kernel
theorem dX5_drift_28 : decode cX5_drift 28 = .ok (.bipush 24, 2) := by decide +kernel
theorem dX5_drift_30 : decode cX5_drift 30 = .ok (.iaload, 1) := by decide +kernel
theorem dX5_drift_31 : decode cX5_drift 31 = .ok (.ifCond .ne 6, 3) := by decide +kernel
theorem dX5_drift_34 : decode cX5_drift 34 = .ok (.bipush (-2), 2) := by decide +kernel
theorem dX5_drift_36 : decode cX5_drift 36 = .ok (.ireturn, 1) := by decide +kernel
theorem dX5_drift_37 : decode cX5_drift 37 = .ok (.aload_n 0, 1) := by decide +kernel
theorem dX5_drift_38 : decode cX5_drift 38 = .ok (.iconst 0, 1) := by decide +kernel
theorem dX5_drift_39 : decode cX5_drift 39 = .ok (.sipush 208, 3) := by decide +kernel
theorem dX5_drift_42 : decode cX5_drift 42 = .ok (.invokevirtual 205, 3) := by decide +kernel
theorem dX5_drift_45 : decode cX5_drift 45 = .ok (.aload_n 0, 1) := by decide +kernel
theorem dX5_drift_46 : decode cX5_drift 46 = .ok (.iconst 0, 1) := by decide +kernel
theorem dX5_drift_47 : decode cX5_drift 47 = .ok (.putfield 161, 3) := by decide +kernel
theorem dX5_drift_50 : decode cX5_drift 50 = .ok (.iload_n 1, 1) := by decide +kernel
theorem dX5_drift_51 : decode cX5_drift 51 = .ok (.istore 4, 2) := by decide +kernel
theorem dX5_drift_53 : decode cX5_drift 53 = .ok (.iconst 0, 1) := by decide +kernel
theorem dX5_drift_54 : decode cX5_drift 54 = .ok (.istore 5, 2) := by decide +kernel
theorem dX5_drift_56 : decode cX5_drift 56 = .ok (.iload 5, 2) := by decide +kernel
theorem dX5_drift_58 : decode cX5_drift 58 = .ok (.iload_n 2, 1) := by decide +kernel
theorem dX5_drift_59 : decode cX5_drift 59 = .ok (.if_icmp .ge 66, 3) := by decide +kernel
theorem dX5_drift_62 : decode cX5_drift 62 = .ok (.iload 4, 2) := by decide +kernel
theorem dX5_drift_64 : decode cX5_drift 64 = .ok (.ldc 252, 2) := by decide +kernel
theorem dX5_drift_66 : decode cX5_drift 66 = .ok (.imul, 1) := by decide +kernel
theorem dX5_drift_67 : decode cX5_drift 67 = .ok (.sipush 12345, 3) := by decide +kernel
theorem dX5_drift_70 : decode cX5_drift 70 = .ok (.iadd, 1) := by decide +kernel
theorem dX5_drift_71 : decode cX5_drift 71 = .ok (.istore 4, 2) := by decide +kernel
theorem dX5_drift_73 : decode cX5_drift 73 = .ok (.iload 4, 2) := by decide +kernel
theorem dX5_drift_75 : decode cX5_drift 75 = .ok (.bipush 16, 2) := by decide +kernel
theorem dX5_drift_77 : decode cX5_drift 77 = .ok (.ishr, 1) := by decide +kernel
theorem dX5_drift_78 : decode cX5_drift 78 = .ok (.sipush 32767, 3) := by decide +kernel
theorem dX5_drift_81 : decode cX5_drift 81 = .ok (.iand, 1) := by decide +kernel
theorem dX5_drift_82 : decode cX5_drift 82 = .ok (.istore 6, 2) := by decide +kernel
theorem dX5_drift_84 : decode cX5_drift 84 = .ok (.aload_n 0, 1) := by decide +kernel
theorem dX5_drift_85 : decode cX5_drift 85 = .ok (.sipush 208, 3) := by decide +kernel
theorem dX5_drift_88 : decode cX5_drift 88 = .ok (.iload 6, 2) := by decide +kernel
theorem dX5_drift_90 : decode cX5_drift 90 = .ok (.aload_n 0, 1) := by decide +kernel
theorem dX5_drift_91 : decode cX5_drift 91 = .ok (.getfield 7, 3) := by decide +kernel
theorem dX5_drift_94 : decode cX5_drift 94 = .ok (.bipush 24, 2) := by decide +kernel
theorem dX5_drift_96 : decode cX5_drift 96 = .ok (.iaload, 1) := by decide +kernel
theorem dX5_drift_97 : decode cX5_drift 97 = .ok (.irem, 1) := by decide +kernel
theorem dX5_drift_98 : decode cX5_drift 98 = .ok (.iload 6, 2) := by decide +kernel
theorem dX5_drift_100 : decode cX5_drift 100 = .ok (.bipush 8, 2) := by decide +kernel
theorem dX5_drift_102 : decode cX5_drift 102 = .ok (.idiv, 1) := by decide +kernel
theorem dX5_drift_103 : decode cX5_drift 103 = .ok (.bipush 19, 2) := by decide +kernel
theorem dX5_drift_105 : decode cX5_drift 105 = .ok (.irem, 1) := by decide +kernel
theorem dX5_drift_106 : decode cX5_drift 106 = .ok (.bipush 9, 2) := by decide +kernel
theorem dX5_drift_108 : decode cX5_drift 108 = .ok (.isub, 1) := by decide +kernel
theorem dX5_drift_109 : decode cX5_drift 109 = .ok (.invokevirtual 164, 3) := by decide +kernel
theorem dX5_drift_112 : decode cX5_drift 112 = .ok (.aload_n 0, 1) := by decide +kernel
theorem dX5_drift_113 : decode cX5_drift 113 = .ok (.sipush 208, 3) := by decide +kernel
theorem dX5_drift_116 : decode cX5_drift 116 = .ok (.invokevirtual 168, 3) := by decide +kernel
theorem dX5_drift_119 : decode cX5_drift 119 = .ok (.iinc 5 1, 3) := by decide +kernel
theorem dX5_drift_122 : decode cX5_drift 122 = .ok (.goto (-66), 3) := by decide +kernel
theorem dX5_drift_125 : decode cX5_drift 125 = .ok (.iload_n 3, 1) := by decide +kernel
theorem dX5_drift_126 : decode cX5_drift 126 = .ok (.ifCond .ne 10, 3) := by decide +kernel
theorem dX5_drift_129 : decode cX5_drift 129 = .ok (.aload_n 0, 1) := by decide +kernel
theorem dX5_drift_130 : decode cX5_drift 130 = .ok (.getfield 161, 3) := by decide +kernel
theorem dX5_drift_133 : decode cX5_drift 133 = .ok (.goto 10, 3) := by decide +kernel
theorem dX5_drift_136 : decode cX5_drift 136 = .ok (.aload_n 0, 1) := by decide +kernel
theorem dX5_drift_137 : decode cX5_drift 137 = .ok (.sipush 208, 3) := by decide +kernel
theorem dX5_drift_140 : decode cX5_drift 140 = .ok (.invokevirtual 158, 3) := by decide +kernel
theorem dX5_drift_143 : decode cX5_drift 143 = .ok (.ireturn, 1) := by decide +kernel
theorem dX5_keep_0 : decode cX5_keep 0 = .ok (.iload_n 1, 1) := by decide +kernel
theorem dX5_keep_1 : decode cX5_keep 1 = .ok (.i2l, 1) := by decide +kernel
theorem dX5_keep_2 : decode cX5_keep 2 = .ok (.lconst 0, 1) := by decide +kernel
theorem dX5_keep_3 : decode cX5_keep 3 = .ok (.lconst 1, 1) := by decide +kernel
theorem dX5_keep_4 : decode cX5_keep 4 = .ok (.invokestatic 53, 3) := by decide +kernel
theorem dX5_keep_7 : decode cX5_keep 7 = .ok (.ifCond .ne 5, 3) := by decide +kernel
theorem dX5_keep_10 : decode cX5_keep 10 = .ok (.iconst (-1), 1) := by decide +kernel
theorem dX5_keep_11 : decode cX5_keep 11 = .ok (.ireturn, 1) := by decide +kernel
theorem dX5_keep_12 : decode cX5_keep 12 = .ok (.aload_n 0, 1) := by decide +kernel
theorem dX5_keep_13 : decode cX5_keep 13 = .ok (.iconst 0, 1) := by decide +kernel
theorem dX5_keep_14 : decode cX5_keep 14 = .ok (.bipush 52, 2) := by decide +kernel
theorem dX5_keep_16 : decode cX5_keep 16 = .ok (.iload_n 1, 1) := by decide +kernel
theorem dX5_keep_17 : decode cX5_keep 17 = .ok (.iconst 1, 1) := by decide +kernel
theorem dX5_keep_18 : decode cX5_keep 18 = .ok (.iadd, 1) := by decide +kernel
theorem dX5_keep_19 : decode cX5_keep 19 = .ok (.imul, 1) := by decide +kernel
theorem dX5_keep_20 : decode cX5_keep 20 = .ok (.invokevirtual 205, 3) := by decide +kernel
theorem dX5_keep_23 : decode cX5_keep 23 = .ok (.aload_n 0, 1) := by decide +kernel
theorem dX5_keep_24 : decode cX5_keep 24 = .ok (.getfield 38, 3) := by decide +kernel
theorem dX5_keep_27 : decode cX5_keep 27 = .ok (.iload_n 1, 1) := by decide +kernel
theorem dX5_keep_28 : decode cX5_keep 28 = .ok (.baload, 1) := by decide +kernel
theorem dX5_keep_29 : decode cX5_keep 29 = .ok (.ifCond .eq 7, 3) := by decide +kernel
theorem dX5_keep_32 : decode cX5_keep 32 = .ok (.iconst 1, 1) := by decide +kernel
theorem dX5_keep_33 : decode cX5_keep 33 = .ok (.goto 4, 3) := by decide +kernel
theorem dX5_keep_36 : decode cX5_keep 36 = .ok (.iconst 0, 1) := by decide +kernel
theorem dX5_keep_37 : decode cX5_keep 37 = .ok (.istore_n 2, 1) := by decide +kernel
theorem dX5_keep_38 : decode cX5_keep 38 = .ok (.aload_n 0, 1) := by decide +kernel
theorem dX5_keep_39 : decode cX5_keep 39 = .ok (.getfield 38, 3) := by decide +kernel
theorem dX5_keep_42 : decode cX5_keep 42 = .ok (.iload_n 1, 1) := by decide +kernel
theorem dX5_keep_43 : decode cX5_keep 43 = .ok (.iconst 1, 1) := by decide +kernel
theorem dX5_keep_44 : decode cX5_keep 44 = .ok (.bastore, 1) := by decide +kernel
theorem dX5_keep_45 : decode cX5_keep 45 = .ok (.iload_n 2, 1) := by decide +kernel
theorem dX5_keep_46 : decode cX5_keep 46 = .ok (.ireturn, 1) := by decide +kernel
theorem dX5_back_0 : decode cX5_back 0 = .ok (.iload_n 1, 1) := by decide +kernel
theorem dX5_back_1 : decode cX5_back 1 = .ok (.i2l, 1) := by decide +kernel
theorem dX5_back_2 : decode cX5_back 2 = .ok (.lconst 0, 1) := by decide +kernel
theorem dX5_back_3 : decode cX5_back 3 = .ok (.lconst 1, 1) := by decide +kernel
theorem dX5_back_4 : decode cX5_back 4 = .ok (.invokestatic 53, 3) := by decide +kernel
theorem dX5_back_7 : decode cX5_back 7 = .ok (.ifCond .ne 5, 3) := by decide +kernel
theorem dX5_back_10 : decode cX5_back 10 = .ok (.iconst (-1), 1) := by decide +kernel
theorem dX5_back_11 : decode cX5_back 11 = .ok (.ireturn, 1) := by decide +kernel
theorem dX5_back_12 : decode cX5_back 12 = .ok (.aload_n 0, 1) := by decide +kernel
theorem dX5_back_13 : decode cX5_back 13 = .ok (.getfield 38, 3) := by decide +kernel
theorem dX5_back_16 : decode cX5_back 16 = .ok (.iload_n 1, 1) := by decide +kernel
theorem dX5_back_17 : decode cX5_back 17 = .ok (.baload, 1) := by decide +kernel
theorem dX5_back_18 : decode cX5_back 18 = .ok (.ifCond .ne 6, 3) := by decide +kernel
theorem dX5_back_21 : decode cX5_back 21 = .ok (.bipush (-2), 2) := by decide +kernel
theorem dX5_back_23 : decode cX5_back 23 = .ok (.ireturn, 1) := by decide +kernel
theorem dX5_back_24 : decode cX5_back 24 = .ok (.aload_n 0, 1) := by decide +kernel
theorem dX5_back_25 : decode cX5_back 25 = .ok (.bipush 52, 2) := by decide +kernel
theorem dX5_back_27 : decode cX5_back 27 = .ok (.iload_n 1, 1) := by decide +kernel
theorem dX5_back_28 : decode cX5_back 28 = .ok (.iconst 1, 1) := by decide +kernel
theorem dX5_back_29 : decode cX5_back 29 = .ok (.iadd, 1) := by decide +kernel
theorem dX5_back_30 : decode cX5_back 30 = .ok (.imul, 1) := by decide +kernel
theorem dX5_back_31 : decode cX5_back 31 = .ok (.iconst 0, 1) := by decide +kernel
theorem dX5_back_32 : decode cX5_back 32 = .ok (.invokevirtual 205, 3) := by decide +kernel
theorem dX5_back_35 : decode cX5_back 35 = .ok (.aload_n 0, 1) := by decide +kernel
theorem dX5_back_36 : decode cX5_back 36 = .ok (.getfield 7, 3) := by decide +kernel
theorem dX5_back_39 : decode cX5_back 39 = .ok (.bipush 51, 2) := by decide +kernel
theorem dX5_back_41 : decode cX5_back 41 = .ok (.iaload, 1) := by decide +kernel
theorem dX5_back_42 : decode cX5_back 42 = .ok (.ireturn, 1) := by decide +kernel
theorem dX5_sheet_0 : decode cX5_sheet 0 = .ok (.iload_n 1, 1) := by decide +kernel
theorem dX5_sheet_1 : decode cX5_sheet 1 = .ok (.i2l, 1) := by decide +kernel
theorem dX5_sheet_2 : decode cX5_sheet 2 = .ok (.lconst 0, 1) := by decide +kernel
theorem dX5_sheet_3 : decode cX5_sheet 3 = .ok (.ldc2_w 180, 3) := by decide +kernel
theorem dX5_sheet_6 : decode cX5_sheet 6 = .ok (.invokestatic 53, 3) := by decide +kernel
theorem dX5_sheet_9 : decode cX5_sheet 9 = .ok (.ifCond .eq 21, 3) := by decide +kernel
theorem dX5_sheet_12 : decode cX5_sheet 12 = .ok (.iload_n 2, 1) := by decide +kernel
theorem dX5_sheet_13 : decode cX5_sheet 13 = .ok (.i2l, 1) := by decide +kernel
theorem dX5_sheet_14 : decode cX5_sheet 14 = .ok (.lconst 0, 1) := by decide +kernel
theorem dX5_sheet_15 : decode cX5_sheet 15 = .ok (.ldc2_w 253, 3) := by decide +kernel
theorem dX5_sheet_18 : decode cX5_sheet 18 = .ok (.invokestatic 53, 3) := by decide +kernel
theorem dX5_sheet_21 : decode cX5_sheet 21 = .ok (.ifCond .eq 9, 3) := by decide +kernel
theorem dX5_sheet_24 : decode cX5_sheet 24 = .ok (.iload_n 3, 1) := by decide +kernel
theorem dX5_sheet_25 : decode cX5_sheet 25 = .ok (.bipush 40, 2) := by decide +kernel
theorem dX5_sheet_27 : decode cX5_sheet 27 = .ok (.if_icmp .le 5, 3) := by decide +kernel
theorem dX5_sheet_30 : decode cX5_sheet 30 = .ok (.iconst (-1), 1) := by decide +kernel
theorem dX5_sheet_31 : decode cX5_sheet 31 = .ok (.ireturn, 1) := by decide +kernel
theorem dX5_sheet_32 : decode cX5_sheet 32 = .ok (.iload_n 3, 1) := by decide +kernel
theorem dX5_sheet_33 : decode cX5_sheet 33 = .ok (.ifCond .ge 6, 3) := by decide +kernel
theorem dX5_sheet_36 : decode cX5_sheet 36 = .ok (.bipush (-14), 2) := by decide +kernel
theorem dX5_sheet_38 : decode cX5_sheet 38 = .ok (.ireturn, 1) := by decide +kernel
theorem dX5_sheet_39 : decode cX5_sheet 39 = .ok (.aload_n 0, 1) := by decide +kernel
theorem dX5_sheet_40 : decode cX5_sheet 40 = .ok (.getfield 42, 3) := by decide +kernel
theorem dX5_sheet_43 : decode cX5_sheet 43 = .ok (.iload_n 1, 1) := by decide +kernel
theorem dX5_sheet_44 : decode cX5_sheet 44 = .ok (.iload_n 2, 1) := by decide +kernel
theorem dX5_sheet_45 : decode cX5_sheet 45 = .ok (.iastore, 1) := by decide +kernel
theorem dX5_sheet_46 : decode cX5_sheet 46 = .ok (.aload_n 0, 1) := by decide +kernel
theorem dX5_sheet_47 : decode cX5_sheet 47 = .ok (.getfield 45, 3) := by decide +kernel
theorem dX5_sheet_50 : decode cX5_sheet 50 = .ok (.iload_n 1, 1) := by decide +kernel
theorem dX5_sheet_51 : decode cX5_sheet 51 = .ok (.iload_n 3, 1) := by decide +kernel
theorem dX5_sheet_52 : decode cX5_sheet 52 = .ok (.iastore, 1) := by decide +kernel
theorem dX5_sheet_53 : decode cX5_sheet 53 = .ok (.iconst 0, 1) := by decide +kernel
theorem dX5_sheet_54 : decode cX5_sheet 54 = .ok (.istore 4, 2) := by decide +kernel
theorem dX5_sheet_56 : decode cX5_sheet 56 = .ok (.iload 4, 2) := by decide +kernel
theorem dX5_sheet_58 : decode cX5_sheet 58 = .ok (.bipush 40, 2) := by decide +kernel
theorem dX5_sheet_60 : decode cX5_sheet 60 = .ok (.if_icmp .ge 22, 3) := by decide +kernel
theorem dX5_sheet_63 : decode cX5_sheet 63 = .ok (.aload_n 0, 1) := by decide +kernel
theorem dX5_sheet_64 : decode cX5_sheet 64 = .ok (.getfield 48, 3) := by decide +kernel
theorem dX5_sheet_67 : decode cX5_sheet 67 = .ok (.bipush 40, 2) := by decide +kernel
theorem dX5_sheet_69 : decode cX5_sheet 69 = .ok (.iload_n 1, 1) := by decide +kernel
theorem dX5_sheet_70 : decode cX5_sheet 70 = .ok (.imul, 1) := by decide +kernel
theorem dX5_sheet_71 : decode cX5_sheet 71 = .ok (.iload 4, 2) := by decide +kernel
theorem dX5_sheet_73 : decode cX5_sheet 73 = .ok (.iadd, 1) := by decide +kernel
theorem dX5_sheet_74 : decode cX5_sheet 74 = .ok (.iconst 0, 1) := by decide +kernel
theorem dX5_sheet_75 : decode cX5_sheet 75 = .ok (.iastore, 1) := by decide +kernel
theorem dX5_sheet_76 : decode cX5_sheet 76 = .ok (.iinc 4 1, 3) := by decide +kernel
theorem dX5_sheet_79 : decode cX5_sheet 79 = .ok (.goto (-23), 3) := by decide +kernel
theorem dX5_sheet_82 : decode cX5_sheet 82 = .ok (.iconst 1, 1) := by decide +kernel
theorem dX5_sheet_83 : decode cX5_sheet 83 = .ok (.ireturn, 1) := by decide +kernel
theorem dX5_lay_0 : decode cX5_lay 0 = .ok (.iload_n 1, 1) := by decide +kernel
theorem dX5_lay_1 : decode cX5_lay 1 = .ok (.i2l, 1) := by decide +kernel
theorem dX5_lay_2 : decode cX5_lay 2 = .ok (.lconst 0, 1) := by decide +kernel
theorem dX5_lay_3 : decode cX5_lay 3 = .ok (.ldc2_w 180, 3) := by decide +kernel
theorem dX5_lay_6 : decode cX5_lay 6 = .ok (.invokestatic 53, 3) := by decide +kernel
theorem dX5_lay_9 : decode cX5_lay 9 = .ok (.ifCond .ne 5, 3) := by decide +kernel
theorem dX5_lay_12 : decode cX5_lay 12 = .ok (.iconst (-1), 1) := by decide +kernel
theorem dX5_lay_13 : decode cX5_lay 13 = .ok (.ireturn, 1) := by decide +kernel
theorem dX5_lay_14 : decode cX5_lay 14 = .ok (.aload_n 0, 1) := by decide +kernel
theorem dX5_lay_15 : decode cX5_lay 15 = .ok (.getfield 42, 3) := by decide +kernel
theorem dX5_lay_18 : decode cX5_lay 18 = .ok (.iload_n 1, 1) := by decide +kernel
theorem dX5_lay_19 : decode cX5_lay 19 = .ok (.iaload, 1) := by decide +kernel
theorem dX5_lay_20 : decode cX5_lay 20 = .ok (.bipush (-4), 2) := by decide +kernel
theorem dX5_lay_22 : decode cX5_lay 22 = .ok (.if_icmp .ne 6, 3) := by decide +kernel
theorem dX5_lay_25 : decode cX5_lay 25 = .ok (.bipush (-11), 2) := by decide +kernel
theorem dX5_lay_27 : decode cX5_lay 27 = .ok (.ireturn, 1) := by decide +kernel
theorem dX5_lay_28 : decode cX5_lay 28 = .ok (.iload_n 2, 1) := by decide +kernel
theorem dX5_lay_29 : decode cX5_lay 29 = .ok (.i2l, 1) := by decide +kernel
theorem dX5_lay_30 : decode cX5_lay 30 = .ok (.lconst 0, 1) := by decide +kernel
theorem dX5_lay_31 : decode cX5_lay 31 = .ok (.aload_n 0, 1) := by decide +kernel
theorem dX5_lay_32 : decode cX5_lay 32 = .ok (.getfield 45, 3) := by decide +kernel
theorem dX5_lay_35 : decode cX5_lay 35 = .ok (.iload_n 1, 1) := by decide +kernel
theorem dX5_lay_36 : decode cX5_lay 36 = .ok (.iaload, 1) := by decide +kernel
theorem dX5_lay_37 : decode cX5_lay 37 = .ok (.iconst 1, 1) := by decide +kernel
theorem dX5_lay_38 : decode cX5_lay 38 = .ok (.isub, 1) := by decide +kernel
theorem dX5_lay_39 : decode cX5_lay 39 = .ok (.i2l, 1) := by decide +kernel
theorem dX5_lay_40 : decode cX5_lay 40 = .ok (.invokestatic 53, 3) := by decide +kernel
theorem dX5_lay_43 : decode cX5_lay 43 = .ok (.ifCond .ne 6, 3) := by decide +kernel
theorem dX5_lay_46 : decode cX5_lay 46 = .ok (.bipush (-12), 2) := by decide +kernel
theorem dX5_lay_48 : decode cX5_lay 48 = .ok (.ireturn, 1) := by decide +kernel
theorem dX5_lay_49 : decode cX5_lay 49 = .ok (.aload_n 0, 1) := by decide +kernel
theorem dX5_lay_50 : decode cX5_lay 50 = .ok (.getfield 48, 3) := by decide +kernel
theorem dX5_lay_53 : decode cX5_lay 53 = .ok (.bipush 40, 2) := by decide +kernel
theorem dX5_lay_55 : decode cX5_lay 55 = .ok (.iload_n 1, 1) := by decide +kernel
theorem dX5_lay_56 : decode cX5_lay 56 = .ok (.imul, 1) := by decide +kernel
theorem dX5_lay_57 : decode cX5_lay 57 = .ok (.iload_n 2, 1) := by decide +kernel
theorem dX5_lay_58 : decode cX5_lay 58 = .ok (.iadd, 1) := by decide +kernel
theorem dX5_lay_59 : decode cX5_lay 59 = .ok (.aload_n 0, 1) := by decide +kernel
theorem dX5_lay_60 : decode cX5_lay 60 = .ok (.getfield 42, 3) := by decide +kernel
theorem dX5_lay_63 : decode cX5_lay 63 = .ok (.iload_n 1, 1) := by decide +kernel
theorem dX5_lay_64 : decode cX5_lay 64 = .ok (.iaload, 1) := by decide +kernel
theorem dX5_lay_65 : decode cX5_lay 65 = .ok (.ifCond .ne 13, 3) := by decide +kernel
theorem dX5_lay_68 : decode cX5_lay 68 = .ok (.iload_n 3, 1) := by decide +kernel
theorem dX5_lay_69 : decode cX5_lay 69 = .ok (.bipush 24, 2) := by decide +kernel
theorem dX5_lay_71 : decode cX5_lay 71 = .ok (.ishl, 1) := by decide +kernel
theorem dX5_lay_72 : decode cX5_lay 72 = .ok (.bipush 24, 2) := by decide +kernel
theorem dX5_lay_74 : decode cX5_lay 74 = .ok (.ishr, 1) := by decide +kernel
theorem dX5_lay_75 : decode cX5_lay 75 = .ok (.goto 24, 3) := by decide +kernel
theorem dX5_lay_78 : decode cX5_lay 78 = .ok (.aload_n 0, 1) := by decide +kernel
theorem dX5_lay_79 : decode cX5_lay 79 = .ok (.getfield 42, 3) := by decide +kernel
theorem dX5_lay_82 : decode cX5_lay 82 = .ok (.iload_n 1, 1) := by decide +kernel
theorem dX5_lay_83 : decode cX5_lay 83 = .ok (.iaload, 1) := by decide +kernel
theorem dX5_lay_84 : decode cX5_lay 84 = .ok (.iconst 1, 1) := by decide +kernel
theorem dX5_lay_85 : decode cX5_lay 85 = .ok (.if_icmp .ne 13, 3) := by decide +kernel
theorem dX5_lay_88 : decode cX5_lay 88 = .ok (.iload_n 3, 1) := by decide +kernel
theorem dX5_lay_89 : decode cX5_lay 89 = .ok (.bipush 16, 2) := by decide +kernel
theorem dX5_lay_91 : decode cX5_lay 91 = .ok (.ishl, 1) := by decide +kernel
theorem dX5_lay_92 : decode cX5_lay 92 = .ok (.bipush 16, 2) := by decide +kernel
theorem dX5_lay_94 : decode cX5_lay 94 = .ok (.ishr, 1) := by decide +kernel
theorem dX5_lay_95 : decode cX5_lay 95 = .ok (.goto 4, 3) := by decide +kernel
theorem dX5_lay_98 : decode cX5_lay 98 = .ok (.iload_n 3, 1) := by decide +kernel
theorem dX5_lay_99 : decode cX5_lay 99 = .ok (.iastore, 1) := by decide +kernel
theorem dX5_lay_100 : decode cX5_lay 100 = .ok (.iconst 1, 1) := by decide +kernel
theorem dX5_lay_101 : decode cX5_lay 101 = .ok (.ireturn, 1) := by decide +kernel
theorem dX5_read_0 : decode cX5_read 0 = .ok (.iload_n 1, 1) := by decide +kernel
theorem dX5_read_1 : decode cX5_read 1 = .ok (.i2l, 1) := by decide +kernel
theorem dX5_read_2 : decode cX5_read 2 = .ok (.lconst 0, 1) := by decide +kernel
theorem dX5_read_3 : decode cX5_read 3 = .ok (.ldc2_w 180, 3) := by decide +kernel
theorem dX5_read_6 : decode cX5_read 6 = .ok (.invokestatic 53, 3) := by decide +kernel
theorem dX5_read_9 : decode cX5_read 9 = .ok (.ifCond .eq 28, 3) := by decide +kernel
theorem dX5_read_12 : decode cX5_read 12 = .ok (.iload_n 2, 1) := by decide +kernel
theorem dX5_read_13 : decode cX5_read 13 = .ok (.i2l, 1) := by decide +kernel
theorem dX5_read_14 : decode cX5_read 14 = .ok (.lconst 0, 1) := by decide +kernel
theorem dX5_read_15 : decode cX5_read 15 = .ok (.ldc2_w 253, 3) := by decide +kernel
theorem dX5_read_18 : decode cX5_read 18 = .ok (.invokestatic 53, 3) := by decide +kernel
theorem dX5_read_21 : decode cX5_read 21 = .ok (.ifCond .eq 16, 3) := by decide +kernel
theorem dX5_read_24 : decode cX5_read 24 = .ok (.iload 4, 2) := by decide +kernel
theorem dX5_read_26 : decode cX5_read 26 = .ok (.i2l, 1) := by decide +kernel
theorem dX5_read_27 : decode cX5_read 27 = .ok (.lconst 0, 1) := by decide +kernel
theorem dX5_read_28 : decode cX5_read 28 = .ok (.ldc2_w 255, 3) := by decide +kernel
theorem dX5_read_31 : decode cX5_read 31 = .ok (.invokestatic 53, 3) := by decide +kernel
theorem dX5_read_34 : decode cX5_read 34 = .ok (.ifCond .ne 5, 3) := by decide +kernel
theorem dX5_read_37 : decode cX5_read 37 = .ok (.iconst (-1), 1) := by decide +kernel
theorem dX5_read_38 : decode cX5_read 38 = .ok (.ireturn, 1) := by decide +kernel
theorem dX5_read_39 : decode cX5_read 39 = .ok (.aload_n 0, 1) := by decide +kernel
theorem dX5_read_40 : decode cX5_read 40 = .ok (.iconst 0, 1) := by decide +kernel
theorem dX5_read_41 : decode cX5_read 41 = .ok (.sipush 156, 3) := by decide +kernel
theorem dX5_read_44 : decode cX5_read 44 = .ok (.invokevirtual 205, 3) := by decide +kernel
theorem dX5_read_47 : decode cX5_read 47 = .ok (.iconst 0, 1) := by decide +kernel
theorem dX5_read_48 : decode cX5_read 48 = .ok (.istore 5, 2) := by decide +kernel
theorem dX5_read_50 : decode cX5_read 50 = .ok (.iconst 0, 1) := by decide +kernel
theorem dX5_read_51 : decode cX5_read 51 = .ok (.istore 6, 2) := by decide +kernel
theorem dX5_read_53 : decode cX5_read 53 = .ok (.iconst 0, 1) := by decide +kernel
theorem dX5_read_54 : decode cX5_read 54 = .ok (.istore 7, 2) := by decide +kernel
theorem dX5_read_56 : decode cX5_read 56 = .ok (.iload 7, 2) := by decide +kernel
theorem dX5_read_58 : decode cX5_read 58 = .ok (.iconst 2, 1) := by decide +kernel
theorem dX5_read_59 : decode cX5_read 59 = .ok (.iload 4, 2) := by decide +kernel
theorem dX5_read_61 : decode cX5_read 61 = .ok (.imul, 1) := by decide +kernel
theorem dX5_read_62 : decode cX5_read 62 = .ok (.if_icmp .ge 136, 3) := by decide +kernel
theorem dX5_read_65 : decode cX5_read 65 = .ok (.iload 5, 2) := by decide +kernel
theorem dX5_read_67 : decode cX5_read 67 = .ok (.ifCond .ne 131, 3) := by decide +kernel
theorem dX5_read_70 : decode cX5_read 70 = .ok (.aload_n 0, 1) := by decide +kernel
theorem dX5_read_71 : decode cX5_read 71 = .ok (.getfield 42, 3) := by decide +kernel
theorem dX5_read_74 : decode cX5_read 74 = .ok (.iload_n 1, 1) := by decide +kernel
theorem dX5_read_75 : decode cX5_read 75 = .ok (.iaload, 1) := by decide +kernel
theorem dX5_read_76 : decode cX5_read 76 = .ok (.bipush (-4), 2) := by decide +kernel
theorem dX5_read_78 : decode cX5_read 78 = .ok (.if_icmp .ne 7, 3) := by decide +kernel
theorem dX5_read_81 : decode cX5_read 81 = .ok (.iconst 1, 1) := by decide +kernel
theorem dX5_read_82 : decode cX5_read 82 = .ok (.goto 44, 3) := by decide +kernel
theorem dX5_read_85 : decode cX5_read 85 = .ok (.aload_n 0, 1) := by decide +kernel
theorem dX5_read_86 : decode cX5_read 86 = .ok (.getfield 42, 3) := by decide +kernel
theorem dX5_read_89 : decode cX5_read 89 = .ok (.iload_n 1, 1) := by decide +kernel
theorem dX5_read_90 : decode cX5_read 90 = .ok (.iaload, 1) := by decide +kernel
theorem dX5_read_91 : decode cX5_read 91 = .ok (.iload_n 2, 1) := by decide +kernel
theorem dX5_read_92 : decode cX5_read 92 = .ok (.if_icmp .eq 7, 3) := by decide +kernel
theorem dX5_read_95 : decode cX5_read 95 = .ok (.iconst 3, 1) := by decide +kernel
theorem dX5_read_96 : decode cX5_read 96 = .ok (.goto 30, 3) := by decide +kernel
theorem dX5_read_99 : decode cX5_read 99 = .ok (.iload_n 3, 1) := by decide +kernel
theorem dX5_read_100 : decode cX5_read 100 = .ok (.i2l, 1) := by decide +kernel
theorem dX5_read_101 : decode cX5_read 101 = .ok (.iload 7, 2) := by decide +kernel
theorem dX5_read_103 : decode cX5_read 103 = .ok (.i2l, 1) := by decide +kernel
theorem dX5_read_104 : decode cX5_read 104 = .ok (.ladd, 1) := by decide +kernel
theorem dX5_read_105 : decode cX5_read 105 = .ok (.lconst 0, 1) := by decide +kernel
theorem dX5_read_106 : decode cX5_read 106 = .ok (.aload_n 0, 1) := by decide +kernel
theorem dX5_read_107 : decode cX5_read 107 = .ok (.getfield 45, 3) := by decide +kernel
theorem dX5_read_110 : decode cX5_read 110 = .ok (.iload_n 1, 1) := by decide +kernel
theorem dX5_read_111 : decode cX5_read 111 = .ok (.iaload, 1) := by decide +kernel
theorem dX5_read_112 : decode cX5_read 112 = .ok (.iconst 1, 1) := by decide +kernel
theorem dX5_read_113 : decode cX5_read 113 = .ok (.isub, 1) := by decide +kernel
theorem dX5_read_114 : decode cX5_read 114 = .ok (.i2l, 1) := by decide +kernel
theorem dX5_read_115 : decode cX5_read 115 = .ok (.invokestatic 53, 3) := by decide +kernel
theorem dX5_read_118 : decode cX5_read 118 = .ok (.ifCond .ne 7, 3) := by decide +kernel
theorem dX5_read_121 : decode cX5_read 121 = .ok (.iconst 2, 1) := by decide +kernel
theorem dX5_read_122 : decode cX5_read 122 = .ok (.goto 4, 3) := by decide +kernel
theorem dX5_read_125 : decode cX5_read 125 = .ok (.iconst 0, 1) := by decide +kernel
theorem dX5_read_126 : decode cX5_read 126 = .ok (.istore 5, 2) := by decide +kernel
theorem dX5_read_128 : decode cX5_read 128 = .ok (.iload 5, 2) := by decide +kernel
theorem dX5_read_130 : decode cX5_read 130 = .ok (.ifCond .ne 62, 3) := by decide +kernel
theorem dX5_read_133 : decode cX5_read 133 = .ok (.iload 7, 2) := by decide +kernel
theorem dX5_read_135 : decode cX5_read 135 = .ok (.iconst 2, 1) := by decide +kernel
theorem dX5_read_136 : decode cX5_read 136 = .ok (.irem, 1) := by decide +kernel
theorem dX5_read_137 : decode cX5_read 137 = .ok (.iconst 1, 1) := by decide +kernel
theorem dX5_read_138 : decode cX5_read 138 = .ok (.if_icmp .ne 54, 3) := by decide +kernel
theorem dX5_read_141 : decode cX5_read 141 = .ok (.bipush 40, 2) := by decide +kernel
theorem dX5_read_143 : decode cX5_read 143 = .ok (.iload_n 1, 1) := by decide +kernel
theorem dX5_read_144 : decode cX5_read 144 = .ok (.imul, 1) := by decide +kernel
theorem dX5_read_145 : decode cX5_read 145 = .ok (.iload_n 3, 1) := by decide +kernel
theorem dX5_read_146 : decode cX5_read 146 = .ok (.iadd, 1) := by decide +kernel
theorem dX5_read_147 : decode cX5_read 147 = .ok (.iload 7, 2) := by decide +kernel
theorem dX5_read_149 : decode cX5_read 149 = .ok (.iadd, 1) := by decide +kernel
theorem dX5_read_150 : decode cX5_read 150 = .ok (.istore 8, 2) := by decide +kernel
theorem dX5_read_152 : decode cX5_read 152 = .ok (.aload_n 0, 1) := by decide +kernel
theorem dX5_read_153 : decode cX5_read 153 = .ok (.aload_n 0, 1) := by decide +kernel
theorem dX5_read_154 : decode cX5_read 154 = .ok (.getfield 48, 3) := by decide +kernel
theorem dX5_read_157 : decode cX5_read 157 = .ok (.iload 8, 2) := by decide +kernel
theorem dX5_read_159 : decode cX5_read 159 = .ok (.iconst 1, 1) := by decide +kernel
theorem dX5_read_160 : decode cX5_read 160 = .ok (.isub, 1) := by decide +kernel
theorem dX5_read_161 : decode cX5_read 161 = .ok (.iaload, 1) := by decide +kernel
theorem dX5_read_162 : decode cX5_read 162 = .ok (.aload_n 0, 1) := by decide +kernel
theorem dX5_read_163 : decode cX5_read 163 = .ok (.getfield 48, 3) := by decide +kernel
theorem dX5_read_166 : decode cX5_read 166 = .ok (.iload 8, 2) := by decide +kernel
theorem dX5_read_168 : decode cX5_read 168 = .ok (.iaload, 1) := by decide +kernel
theorem dX5_read_169 : decode cX5_read 169 = .ok (.invokevirtual 196, 3) := by decide +kernel
theorem dX5_read_172 : decode cX5_read 172 = .ok (.ifCond .ge 17, 3) := by decide +kernel
theorem dX5_read_175 : decode cX5_read 175 = .ok (.aload_n 0, 1) := by decide +kernel
theorem dX5_read_176 : decode cX5_read 176 = .ok (.sipush 156, 3) := by decide +kernel
theorem dX5_read_179 : decode cX5_read 179 = .ok (.iconst 0, 1) := by decide +kernel
theorem dX5_read_180 : decode cX5_read 180 = .ok (.invokevirtual 205, 3) := by decide +kernel
theorem dX5_read_183 : decode cX5_read 183 = .ok (.bipush (-20), 2) := by decide +kernel
theorem dX5_read_185 : decode cX5_read 185 = .ok (.iload 6, 2) := by decide +kernel
theorem dX5_read_187 : decode cX5_read 187 = .ok (.isub, 1) := by decide +kernel
theorem dX5_read_188 : decode cX5_read 188 = .ok (.ireturn, 1) := by decide +kernel
theorem dX5_read_189 : decode cX5_read 189 = .ok (.iinc 6 1, 3) := by decide +kernel
theorem dX5_read_192 : decode cX5_read 192 = .ok (.iinc 7 1, 3) := by decide +kernel
theorem dX5_read_195 : decode cX5_read 195 = .ok (.goto (-139), 3) := by decide +kernel
theorem dX5_read_198 : decode cX5_read 198 = .ok (.aload_n 0, 1) := by decide +kernel
theorem dX5_read_199 : decode cX5_read 199 = .ok (.iload 5, 2) := by decide +kernel
theorem dX5_read_201 : decode cX5_read 201 = .ok (.putfield 257, 3) := by decide +kernel
theorem dX5_read_204 : decode cX5_read 204 = .ok (.iload 6, 2) := by decide +kernel
theorem dX5_read_206 : decode cX5_read 206 = .ok (.ireturn, 1) := by decide +kernel
theorem dX5_torn_0 : decode cX5_torn 0 = .ok (.aload_n 0, 1) := by decide +kernel
theorem dX5_torn_1 : decode cX5_torn 1 = .ok (.getfield 257, 3) := by decide +kernel
theorem dX5_torn_4 : decode cX5_torn 4 = .ok (.ireturn, 1) := by decide +kernel
theorem dX5_count_0 : decode cX5_count 0 = .ok (.iconst 0, 1) := by decide +kernel
theorem dX5_count_1 : decode cX5_count 1 = .ok (.istore_n 2, 1) := by decide +kernel
theorem dX5_count_2 : decode cX5_count 2 = .ok (.iconst 0, 1) := by decide +kernel
theorem dX5_count_3 : decode cX5_count 3 = .ok (.istore_n 3, 1) := by decide +kernel
theorem dX5_count_4 : decode cX5_count 4 = .ok (.iconst 0, 1) := by decide +kernel
theorem dX5_count_5 : decode cX5_count 5 = .ok (.istore 4, 2) := by decide +kernel
theorem dX5_count_7 : decode cX5_count 7 = .ok (.iload 4, 2) := by decide +kernel
theorem dX5_count_9 : decode cX5_count 9 = .ok (.aload_n 0, 1) := by decide +kernel
theorem dX5_count_10 : decode cX5_count 10 = .ok (.getfield 7, 3) := by decide +kernel
theorem dX5_count_13 : decode cX5_count 13 = .ok (.bipush 24, 2) := by decide +kernel
theorem dX5_count_15 : decode cX5_count 15 = .ok (.iaload, 1) := by decide +kernel
theorem dX5_count_16 : decode cX5_count 16 = .ok (.if_icmp .ge 35, 3) := by decide +kernel
theorem dX5_count_19 : decode cX5_count 19 = .ok (.iload_n 2, 1) := by decide +kernel
theorem dX5_count_20 : decode cX5_count 20 = .ok (.aload_n 0, 1) := by decide +kernel
theorem dX5_count_21 : decode cX5_count 21 = .ok (.getfield 7, 3) := by decide +kernel
theorem dX5_count_24 : decode cX5_count 24 = .ok (.bipush 8, 2) := by decide +kernel
theorem dX5_count_26 : decode cX5_count 26 = .ok (.iload 4, 2) := by decide +kernel
theorem dX5_count_28 : decode cX5_count 28 = .ok (.iadd, 1) := by decide +kernel
theorem dX5_count_29 : decode cX5_count 29 = .ok (.iaload, 1) := by decide +kernel
theorem dX5_count_30 : decode cX5_count 30 = .ok (.iadd, 1) := by decide +kernel
theorem dX5_count_31 : decode cX5_count 31 = .ok (.istore_n 2, 1) := by decide +kernel
theorem dX5_count_32 : decode cX5_count 32 = .ok (.iload_n 3, 1) := by decide +kernel
theorem dX5_count_33 : decode cX5_count 33 = .ok (.aload_n 0, 1) := by decide +kernel
theorem dX5_count_34 : decode cX5_count 34 = .ok (.getfield 7, 3) := by decide +kernel
theorem dX5_count_37 : decode cX5_count 37 = .ok (.bipush 12, 2) := by decide +kernel
theorem dX5_count_39 : decode cX5_count 39 = .ok (.iload 4, 2) := by decide +kernel
theorem dX5_count_41 : decode cX5_count 41 = .ok (.iadd, 1) := by decide +kernel
theorem dX5_count_42 : decode cX5_count 42 = .ok (.iaload, 1) := by decide +kernel
theorem dX5_count_43 : decode cX5_count 43 = .ok (.iadd, 1) := by decide +kernel
theorem dX5_count_44 : decode cX5_count 44 = .ok (.istore_n 3, 1) := by decide +kernel
theorem dX5_count_45 : decode cX5_count 45 = .ok (.iinc 4 1, 3) := by decide +kernel
theorem dX5_count_48 : decode cX5_count 48 = .ok (.goto (-41), 3) := by decide +kernel
theorem dX5_count_51 : decode cX5_count 51 = .ok (.iload_n 1, 1) := by decide +kernel
theorem dX5_count_52 : decode cX5_count 52 = .ok (.tableswitch 107 0 5 #[40, 45, 75, 80, 103, 105], 40) := by decide +kernel
theorem dX5_count_92 : decode cX5_count 92 = .ok (.aload_n 0, 1) := by decide +kernel
theorem dX5_count_93 : decode cX5_count 93 = .ok (.getfield 120, 3) := by decide +kernel
theorem dX5_count_96 : decode cX5_count 96 = .ok (.ireturn, 1) := by decide +kernel
theorem dX5_count_97 : decode cX5_count 97 = .ok (.aload_n 0, 1) := by decide +kernel
theorem dX5_count_98 : decode cX5_count 98 = .ok (.getfield 38, 3) := by decide +kernel
theorem dX5_count_101 : decode cX5_count 101 = .ok (.iconst 0, 1) := by decide +kernel
theorem dX5_count_102 : decode cX5_count 102 = .ok (.baload, 1) := by decide +kernel
theorem dX5_count_103 : decode cX5_count 103 = .ok (.ifCond .eq 7, 3) := by decide +kernel
theorem dX5_count_106 : decode cX5_count 106 = .ok (.iconst 1, 1) := by decide +kernel
theorem dX5_count_107 : decode cX5_count 107 = .ok (.goto 4, 3) := by decide +kernel
theorem dX5_count_110 : decode cX5_count 110 = .ok (.iconst 0, 1) := by decide +kernel
theorem dX5_count_111 : decode cX5_count 111 = .ok (.aload_n 0, 1) := by decide +kernel
theorem dX5_count_112 : decode cX5_count 112 = .ok (.getfield 38, 3) := by decide +kernel
theorem dX5_count_115 : decode cX5_count 115 = .ok (.iconst 1, 1) := by decide +kernel
theorem dX5_count_116 : decode cX5_count 116 = .ok (.baload, 1) := by decide +kernel
theorem dX5_count_117 : decode cX5_count 117 = .ok (.ifCond .eq 7, 3) := by decide +kernel
theorem dX5_count_120 : decode cX5_count 120 = .ok (.iconst 1, 1) := by decide +kernel
theorem dX5_count_121 : decode cX5_count 121 = .ok (.goto 4, 3) := by decide +kernel
theorem dX5_count_124 : decode cX5_count 124 = .ok (.iconst 0, 1) := by decide +kernel
theorem dX5_count_125 : decode cX5_count 125 = .ok (.iadd, 1) := by decide +kernel
theorem dX5_count_126 : decode cX5_count 126 = .ok (.ireturn, 1) := by decide +kernel
theorem dX5_count_127 : decode cX5_count 127 = .ok (.aload_n 0, 1) := by decide +kernel
theorem dX5_count_128 : decode cX5_count 128 = .ok (.getfield 57, 3) := by decide +kernel
theorem dX5_count_131 : decode cX5_count 131 = .ok (.ireturn, 1) := by decide +kernel
theorem dX5_count_132 : decode cX5_count 132 = .ok (.aload_n 0, 1) := by decide +kernel
theorem dX5_count_133 : decode cX5_count 133 = .ok (.getfield 42, 3) := by decide +kernel
theorem dX5_count_136 : decode cX5_count 136 = .ok (.iconst 0, 1) := by decide +kernel
theorem dX5_count_137 : decode cX5_count 137 = .ok (.iaload, 1) := by decide +kernel
theorem dX5_count_138 : decode cX5_count 138 = .ok (.bipush (-4), 2) := by decide +kernel
theorem dX5_count_140 : decode cX5_count 140 = .ok (.if_icmp .ne 8, 3) := by decide +kernel
theorem dX5_count_143 : decode cX5_count 143 = .ok (.bipush (-4), 2) := by decide +kernel
theorem dX5_count_145 : decode cX5_count 145 = .ok (.goto 9, 3) := by decide +kernel
theorem dX5_count_148 : decode cX5_count 148 = .ok (.aload_n 0, 1) := by decide +kernel
theorem dX5_count_149 : decode cX5_count 149 = .ok (.getfield 45, 3) := by decide +kernel
theorem dX5_count_152 : decode cX5_count 152 = .ok (.iconst 0, 1) := by decide +kernel
theorem dX5_count_153 : decode cX5_count 153 = .ok (.iaload, 1) := by decide +kernel
theorem dX5_count_154 : decode cX5_count 154 = .ok (.ireturn, 1) := by decide +kernel
theorem dX5_count_155 : decode cX5_count 155 = .ok (.iload_n 2, 1) := by decide +kernel
theorem dX5_count_156 : decode cX5_count 156 = .ok (.ireturn, 1) := by decide +kernel
theorem dX5_count_157 : decode cX5_count 157 = .ok (.iload_n 3, 1) := by decide +kernel
theorem dX5_count_158 : decode cX5_count 158 = .ok (.ireturn, 1) := by decide +kernel
theorem dX5_count_159 : decode cX5_count 159 = .ok (.iconst (-1), 1) := by decide +kernel
theorem dX5_count_160 : decode cX5_count 160 = .ok (.ireturn, 1) := by decide +kernel
