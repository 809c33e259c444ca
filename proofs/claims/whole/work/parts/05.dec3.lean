theorem dX10_init_0 : decode cX10_init 0 = .ok (.aload_n 0, 1) := by decide +kernel
theorem dX10_init_1 : decode cX10_init 1 = .ok (.invokespecial 1, 3) := by decide +kernel
theorem dX10_init_4 : decode cX10_init 4 = .ok (.aload_n 0, 1) := by decide +kernel
theorem dX10_init_5 : decode cX10_init 5 = .ok (.sipush 1460, 3) := by decide +kernel
theorem dX10_init_8 : decode cX10_init 8 = .ok (.newarray .int, 2) := by decide +kernel
theorem dX10_init_10 : decode cX10_init 10 = .ok (.putfield 9, 3) := by decide +kernel
theorem dX10_init_13 : decode cX10_init 13 = .ok (.aload_n 0, 1) := by decide +kernel
theorem dX10_init_14 : decode cX10_init 14 = .ok (.sipush 1460, 3) := by decide +kernel
theorem dX10_init_17 : decode cX10_init 17 = .ok (.newarray .int, 2) := by decide +kernel
theorem dX10_init_19 : decode cX10_init 19 = .ok (.putfield 13, 3) := by decide +kernel
theorem dX10_init_22 : decode cX10_init 22 = .ok (.aload_n 0, 1) := by decide +kernel
theorem dX10_init_23 : decode cX10_init 23 = .ok (.sipush 1460, 3) := by decide +kernel
theorem dX10_init_26 : decode cX10_init 26 = .ok (.newarray .int, 2) := by decide +kernel
theorem dX10_init_28 : decode cX10_init 28 = .ok (.putfield 16, 3) := by decide +kernel
theorem dX10_init_31 : decode cX10_init 31 = .ok (.aload_n 0, 1) := by decide +kernel
theorem dX10_init_32 : decode cX10_init 32 = .ok (.bipush 10, 2) := by decide +kernel
theorem dX10_init_34 : decode cX10_init 34 = .ok (.newarray .int, 2) := by decide +kernel
theorem dX10_init_36 : decode cX10_init 36 = .ok (.putfield 19, 3) := by decide +kernel
theorem dX10_init_39 : decode cX10_init 39 = .ok (.aload_n 0, 1) := by decide +kernel
theorem dX10_init_40 : decode cX10_init 40 = .ok (.bipush 9, 2) := by decide +kernel
theorem dX10_init_42 : decode cX10_init 42 = .ok (.newarray .int, 2) := by decide +kernel
theorem dX10_init_44 : decode cX10_init 44 = .ok (.putfield 22, 3) := by decide +kernel
theorem dX10_init_47 : decode cX10_init 47 = .ok (.aload_n 0, 1) := by decide +kernel
theorem dX10_init_48 : decode cX10_init 48 = .ok (.bipush 8, 2) := by decide +kernel
theorem dX10_init_50 : decode cX10_init 50 = .ok (.newarray .int, 2) := by decide +kernel
theorem dX10_init_52 : decode cX10_init 52 = .ok (.putfield 25, 3) := by decide +kernel
theorem dX10_init_55 : decode cX10_init 55 = .ok (.aload_n 0, 1) := by decide +kernel
theorem dX10_init_56 : decode cX10_init 56 = .ok (.bipush 8, 2) := by decide +kernel
theorem dX10_init_58 : decode cX10_init 58 = .ok (.newarray .int, 2) := by decide +kernel
theorem dX10_init_60 : decode cX10_init 60 = .ok (.putfield 28, 3) := by decide +kernel
theorem dX10_init_63 : decode cX10_init 63 = .ok (.aload_n 0, 1) := by decide +kernel
theorem dX10_init_64 : decode cX10_init 64 = .ok (.bipush 88, 2) := by decide +kernel
theorem dX10_init_66 : decode cX10_init 66 = .ok (.newarray .int, 2) := by decide +kernel
theorem dX10_init_68 : decode cX10_init 68 = .ok (.putfield 31, 3) := by decide +kernel
theorem dX10_init_71 : decode cX10_init 71 = .ok (.aload_n 0, 1) := by decide +kernel
theorem dX10_init_72 : decode cX10_init 72 = .ok (.bipush 96, 2) := by decide +kernel
theorem dX10_init_74 : decode cX10_init 74 = .ok (.newarray .int, 2) := by decide +kernel
theorem dX10_init_76 : decode cX10_init 76 = .ok (.putfield 34, 3) := by decide +kernel
theorem dX10_init_79 : decode cX10_init 79 = .ok (.aload_n 0, 1) := by decide +kernel
theorem dX10_init_80 : decode cX10_init 80 = .ok (.bipush 12, 2) := by decide +kernel
theorem dX10_init_82 : decode cX10_init 82 = .ok (.newarray .char, 2) := by decide +kernel
theorem dX10_init_84 : decode cX10_init 84 = .ok (.dup, 1) := by decide +kernel
theorem dX10_init_85 : decode cX10_init 85 = .ok (.iconst 0, 1) := by decide +kernel
theorem dX10_init_86 : decode cX10_init 86 = .ok (.bipush 108, 2) := by decide +kernel
theorem dX10_init_88 : decode cX10_init 88 = .ok (.castore, 1) := by decide +kernel
theorem dX10_init_89 : decode cX10_init 89 = .ok (.dup, 1) := by decide +kernel
theorem dX10_init_90 : decode cX10_init 90 = .ok (.iconst 1, 1) := by decide +kernel
theorem dX10_init_91 : decode cX10_init 91 = .ok (.bipush 101, 2) := by decide +kernel
theorem dX10_init_93 : decode cX10_init 93 = .ok (.castore, 1) := by decide +kernel
theorem dX10_init_94 : decode cX10_init 94 = .ok (.dup, 1) := by decide +kernel
theorem dX10_init_95 : decode cX10_init 95 = .ok (.iconst 2, 1) := by decide +kernel
theorem dX10_init_96 : decode cX10_init 96 = .ok (.bipush 116, 2) := by decide +kernel
theorem dX10_init_98 : decode cX10_init 98 = .ok (.castore, 1) := by decide +kernel
theorem dX10_init_99 : decode cX10_init 99 = .ok (.dup, 1) := by decide +kernel
theorem dX10_init_100 : decode cX10_init 100 = .ok (.iconst 3, 1) := by decide +kernel
theorem dX10_init_101 : decode cX10_init 101 = .ok (.bipush 115, 2) := by decide +kernel
theorem dX10_init_103 : decode cX10_init 103 = .ok (.castore, 1) := by decide +kernel
theorem dX10_init_104 : decode cX10_init 104 = .ok (.dup, 1) := by decide +kernel
theorem dX10_init_105 : decode cX10_init 105 = .ok (.iconst 4, 1) := by decide +kernel
theorem dX10_init_106 : decode cX10_init 106 = .ok (.bipush 103, 2) := by decide +kernel
theorem dX10_init_108 : decode cX10_init 108 = .ok (.castore, 1) := by decide +kernel
theorem dX10_init_109 : decode cX10_init 109 = .ok (.dup, 1) := by decide +kernel
theorem dX10_init_110 : decode cX10_init 110 = .ok (.iconst 5, 1) := by decide +kernel
theorem dX10_init_111 : decode cX10_init 111 = .ok (.bipush 117, 2) := by decide +kernel
theorem dX10_init_113 : decode cX10_init 113 = .ok (.castore, 1) := by decide +kernel
theorem dX10_init_114 : decode cX10_init 114 = .ok (.dup, 1) := by decide +kernel
theorem dX10_init_115 : decode cX10_init 115 = .ok (.bipush 6, 2) := by decide +kernel
theorem dX10_init_117 : decode cX10_init 117 = .ok (.bipush 115, 2) := by decide +kernel
theorem dX10_init_119 : decode cX10_init 119 = .ok (.castore, 1) := by decide +kernel
theorem dX10_init_120 : decode cX10_init 120 = .ok (.dup, 1) := by decide +kernel
theorem dX10_init_121 : decode cX10_init 121 = .ok (.bipush 7, 2) := by decide +kernel
theorem dX10_init_123 : decode cX10_init 123 = .ok (.bipush 116, 2) := by decide +kernel
theorem dX10_init_125 : decode cX10_init 125 = .ok (.castore, 1) := by decide +kernel
theorem dX10_init_126 : decode cX10_init 126 = .ok (.dup, 1) := by decide +kernel
theorem dX10_init_127 : decode cX10_init 127 = .ok (.bipush 8, 2) := by decide +kernel
theorem dX10_init_129 : decode cX10_init 129 = .ok (.bipush 102, 2) := by decide +kernel
theorem dX10_init_131 : decode cX10_init 131 = .ok (.castore, 1) := by decide +kernel
theorem dX10_init_132 : decode cX10_init 132 = .ok (.dup, 1) := by decide +kernel
theorem dX10_init_133 : decode cX10_init 133 = .ok (.bipush 9, 2) := by decide +kernel
theorem dX10_init_135 : decode cX10_init 135 = .ok (.bipush 105, 2) := by decide +kernel
theorem dX10_init_137 : decode cX10_init 137 = .ok (.castore, 1) := by decide +kernel
theorem dX10_init_138 : decode cX10_init 138 = .ok (.dup, 1) := by decide +kernel
theorem dX10_init_139 : decode cX10_init 139 = .ok (.bipush 10, 2) := by decide +kernel
theorem dX10_init_141 : decode cX10_init 141 = .ok (.bipush 110, 2) := by decide +kernel
theorem dX10_init_143 : decode cX10_init 143 = .ok (.castore, 1) := by decide +kernel
theorem dX10_init_144 : decode cX10_init 144 = .ok (.dup, 1) := by decide +kernel
theorem dX10_init_145 : decode cX10_init 145 = .ok (.bipush 11, 2) := by decide +kernel
theorem dX10_init_147 : decode cX10_init 147 = .ok (.bipush 101, 2) := by decide +kernel
theorem dX10_init_149 : decode cX10_init 149 = .ok (.castore, 1) := by decide +kernel
theorem dX10_init_150 : decode cX10_init 150 = .ok (.putfield 37, 3) := by decide +kernel
theorem dX10_init_153 : decode cX10_init 153 = .ok (.aload_n 0, 1) := by decide +kernel
theorem dX10_init_154 : decode cX10_init 154 = .ok (.iconst 4, 1) := by decide +kernel
theorem dX10_init_155 : decode cX10_init 155 = .ok (.newarray .int, 2) := by decide +kernel
theorem dX10_init_157 : decode cX10_init 157 = .ok (.dup, 1) := by decide +kernel
theorem dX10_init_158 : decode cX10_init 158 = .ok (.iconst 0, 1) := by decide +kernel
theorem dX10_init_159 : decode cX10_init 159 = .ok (.iconst 0, 1) := by decide +kernel
theorem dX10_init_160 : decode cX10_init 160 = .ok (.iastore, 1) := by decide +kernel
theorem dX10_init_161 : decode cX10_init 161 = .ok (.dup, 1) := by decide +kernel
theorem dX10_init_162 : decode cX10_init 162 = .ok (.iconst 1, 1) := by decide +kernel
theorem dX10_init_163 : decode cX10_init 163 = .ok (.iconst 4, 1) := by decide +kernel
theorem dX10_init_164 : decode cX10_init 164 = .ok (.iastore, 1) := by decide +kernel
theorem dX10_init_165 : decode cX10_init 165 = .ok (.dup, 1) := by decide +kernel
theorem dX10_init_166 : decode cX10_init 166 = .ok (.iconst 2, 1) := by decide +kernel
theorem dX10_init_167 : decode cX10_init 167 = .ok (.bipush 8, 2) := by decide +kernel
theorem dX10_init_169 : decode cX10_init 169 = .ok (.iastore, 1) := by decide +kernel
theorem dX10_init_170 : decode cX10_init 170 = .ok (.dup, 1) := by decide +kernel
theorem dX10_init_171 : decode cX10_init 171 = .ok (.iconst 3, 1) := by decide +kernel
theorem dX10_init_172 : decode cX10_init 172 = .ok (.bipush 12, 2) := by decide +kernel
theorem dX10_init_174 : decode cX10_init 174 = .ok (.iastore, 1) := by decide +kernel
theorem dX10_init_175 : decode cX10_init 175 = .ok (.putfield 41, 3) := by decide +kernel
theorem dX10_init_178 : decode cX10_init 178 = .ok (.aload_n 0, 1) := by decide +kernel
theorem dX10_init_179 : decode cX10_init 179 = .ok (.bipush 96, 2) := by decide +kernel
theorem dX10_init_181 : decode cX10_init 181 = .ok (.newarray .int, 2) := by decide +kernel
theorem dX10_init_183 : decode cX10_init 183 = .ok (.putfield 44, 3) := by decide +kernel
theorem dX10_init_186 : decode cX10_init 186 = .ok (.aload_n 0, 1) := by decide +kernel
theorem dX10_init_187 : decode cX10_init 187 = .ok (.bipush 96, 2) := by decide +kernel
theorem dX10_init_189 : decode cX10_init 189 = .ok (.newarray .int, 2) := by decide +kernel
theorem dX10_init_191 : decode cX10_init 191 = .ok (.putfield 47, 3) := by decide +kernel
theorem dX10_init_194 : decode cX10_init 194 = .ok (.aload_n 0, 1) := by decide +kernel
theorem dX10_init_195 : decode cX10_init 195 = .ok (.bipush 10, 2) := by decide +kernel
theorem dX10_init_197 : decode cX10_init 197 = .ok (.newarray .boolean, 2) := by decide +kernel
theorem dX10_init_199 : decode cX10_init 199 = .ok (.putfield 50, 3) := by decide +kernel
theorem dX10_init_202 : decode cX10_init 202 = .ok (.aload_n 0, 1) := by decide +kernel
theorem dX10_init_203 : decode cX10_init 203 = .ok (.bipush 96, 2) := by decide +kernel
theorem dX10_init_205 : decode cX10_init 205 = .ok (.newarray .int, 2) := by decide +kernel
theorem dX10_init_207 : decode cX10_init 207 = .ok (.putfield 54, 3) := by decide +kernel
theorem dX10_init_210 : decode cX10_init 210 = .ok (.aload_n 0, 1) := by decide +kernel
theorem dX10_init_211 : decode cX10_init 211 = .ok (.iconst 4, 1) := by decide +kernel
theorem dX10_init_212 : decode cX10_init 212 = .ok (.newarray .int, 2) := by decide +kernel
theorem dX10_init_214 : decode cX10_init 214 = .ok (.putfield 57, 3) := by decide +kernel
theorem dX10_init_217 : decode cX10_init 217 = .ok (.aload_n 0, 1) := by decide +kernel
theorem dX10_init_218 : decode cX10_init 218 = .ok (.iconst 4, 1) := by decide +kernel
theorem dX10_init_219 : decode cX10_init 219 = .ok (.newarray .int, 2) := by decide +kernel
theorem dX10_init_221 : decode cX10_init 221 = .ok (.dup, 1) := by decide +kernel
theorem dX10_init_222 : decode cX10_init 222 = .ok (.iconst 0, 1) := by decide +kernel
theorem dX10_init_223 : decode cX10_init 223 = .ok (.iconst (-1), 1) := by decide +kernel
theorem dX10_init_224 : decode cX10_init 224 = .ok (.iastore, 1) := by decide +kernel
theorem dX10_init_225 : decode cX10_init 225 = .ok (.dup, 1) := by decide +kernel
theorem dX10_init_226 : decode cX10_init 226 = .ok (.iconst 1, 1) := by decide +kernel
theorem dX10_init_227 : decode cX10_init 227 = .ok (.iconst (-1), 1) := by decide +kernel
theorem dX10_init_228 : decode cX10_init 228 = .ok (.iastore, 1) := by decide +kernel
theorem dX10_init_229 : decode cX10_init 229 = .ok (.dup, 1) := by decide +kernel
theorem dX10_init_230 : decode cX10_init 230 = .ok (.iconst 2, 1) := by decide +kernel
theorem dX10_init_231 : decode cX10_init 231 = .ok (.iconst (-1), 1) := by decide +kernel
theorem dX10_init_232 : decode cX10_init 232 = .ok (.iastore, 1) := by decide +kernel
theorem dX10_init_233 : decode cX10_init 233 = .ok (.dup, 1) := by decide +kernel
theorem dX10_init_234 : decode cX10_init 234 = .ok (.iconst 3, 1) := by decide +kernel
theorem dX10_init_235 : decode cX10_init 235 = .ok (.iconst (-1), 1) := by decide +kernel
theorem dX10_init_236 : decode cX10_init 236 = .ok (.iastore, 1) := by decide +kernel
theorem dX10_init_237 : decode cX10_init 237 = .ok (.putfield 60, 3) := by decide +kernel
theorem dX10_init_240 : decode cX10_init 240 = .ok (.aload_n 0, 1) := by decide +kernel
theorem dX10_init_241 : decode cX10_init 241 = .ok (.iconst 4, 1) := by decide +kernel
theorem dX10_init_242 : decode cX10_init 242 = .ok (.newarray .int, 2) := by decide +kernel
theorem dX10_init_244 : decode cX10_init 244 = .ok (.putfield 63, 3) := by decide +kernel
theorem dX10_init_247 : decode cX10_init 247 = .ok (.aload_n 0, 1) := by decide +kernel
theorem dX10_init_248 : decode cX10_init 248 = .ok (.bipush 96, 2) := by decide +kernel
theorem dX10_init_250 : decode cX10_init 250 = .ok (.newarray .int, 2) := by decide +kernel
theorem dX10_init_252 : decode cX10_init 252 = .ok (.putfield 66, 3) := by decide +kernel
theorem dX10_init_255 : decode cX10_init 255 = .ok (.aload_n 0, 1) := by decide +kernel
theorem dX10_init_256 : decode cX10_init 256 = .ok (.iconst 5, 1) := by decide +kernel
theorem dX10_init_257 : decode cX10_init 257 = .ok (.newarray .int, 2) := by decide +kernel
theorem dX10_init_259 : decode cX10_init 259 = .ok (.putfield 69, 3) := by decide +kernel
theorem dX10_init_262 : decode cX10_init 262 = .ok (.aload_n 0, 1) := by decide +kernel
theorem dX10_init_263 : decode cX10_init 263 = .ok (.iconst 5, 1) := by decide +kernel
theorem dX10_init_264 : decode cX10_init 264 = .ok (.newarray .int, 2) := by decide +kernel
theorem dX10_init_266 : decode cX10_init 266 = .ok (.putfield 72, 3) := by decide +kernel
theorem dX10_init_269 : decode cX10_init 269 = .ok (.aload_n 0, 1) := by decide +kernel
theorem dX10_init_270 : decode cX10_init 270 = .ok (.iconst 5, 1) := by decide +kernel
theorem dX10_init_271 : decode cX10_init 271 = .ok (.newarray .int, 2) := by decide +kernel
theorem dX10_init_273 : decode cX10_init 273 = .ok (.putfield 75, 3) := by decide +kernel
theorem dX10_init_276 : decode cX10_init 276 = .ok (.aload_n 0, 1) := by decide +kernel
theorem dX10_init_277 : decode cX10_init 277 = .ok (.bipush 120, 2) := by decide +kernel
theorem dX10_init_279 : decode cX10_init 279 = .ok (.newarray .int, 2) := by decide +kernel
theorem dX10_init_281 : decode cX10_init 281 = .ok (.putfield 78, 3) := by decide +kernel
theorem dX10_init_284 : decode cX10_init 284 = .ok (.aload_n 0, 1) := by decide +kernel
theorem dX10_init_285 : decode cX10_init 285 = .ok (.bipush 24, 2) := by decide +kernel
theorem dX10_init_287 : decode cX10_init 287 = .ok (.newarray .int, 2) := by decide +kernel
theorem dX10_init_289 : decode cX10_init 289 = .ok (.putfield 81, 3) := by decide +kernel
theorem dX10_init_292 : decode cX10_init 292 = .ok (.aload_n 0, 1) := by decide +kernel
theorem dX10_init_293 : decode cX10_init 293 = .ok (.bipush 60, 2) := by decide +kernel
theorem dX10_init_295 : decode cX10_init 295 = .ok (.newarray .int, 2) := by decide +kernel
theorem dX10_init_297 : decode cX10_init 297 = .ok (.putfield 84, 3) := by decide +kernel
theorem dX10_init_300 : decode cX10_init 300 = .ok (.aload_n 0, 1) := by decide +kernel
theorem dX10_init_301 : decode cX10_init 301 = .ok (.getfield 9, 3) := by decide +kernel
theorem dX10_init_304 : decode cX10_init 304 = .ok (.iconst 0, 1) := by decide +kernel
theorem dX10_init_305 : decode cX10_init 305 = .ok (.iconst 1, 1) := by decide +kernel
theorem dX10_init_306 : decode cX10_init 306 = .ok (.iastore, 1) := by decide +kernel
theorem dX10_init_307 : decode cX10_init 307 = .ok (.aload_n 0, 1) := by decide +kernel
theorem dX10_init_308 : decode cX10_init 308 = .ok (.getfield 9, 3) := by decide +kernel
theorem dX10_init_311 : decode cX10_init 311 = .ok (.iconst 3, 1) := by decide +kernel
theorem dX10_init_312 : decode cX10_init 312 = .ok (.sipush 1000, 3) := by decide +kernel
theorem dX10_init_315 : decode cX10_init 315 = .ok (.iastore, 1) := by decide +kernel
theorem dX10_init_316 : decode cX10_init 316 = .ok (.iconst 0, 1) := by decide +kernel
theorem dX10_init_317 : decode cX10_init 317 = .ok (.istore_n 1, 1) := by decide +kernel
theorem dX10_init_318 : decode cX10_init 318 = .ok (.iload_n 1, 1) := by decide +kernel
theorem dX10_init_319 : decode cX10_init 319 = .ok (.bipush 8, 2) := by decide +kernel
theorem dX10_init_321 : decode cX10_init 321 = .ok (.if_icmp .ge 23, 3) := by decide +kernel
theorem dX10_init_324 : decode cX10_init 324 = .ok (.aload_n 0, 1) := by decide +kernel
theorem dX10_init_325 : decode cX10_init 325 = .ok (.getfield 9, 3) := by decide +kernel
theorem dX10_init_328 : decode cX10_init 328 = .ok (.bipush 6, 2) := by decide +kernel
theorem dX10_init_330 : decode cX10_init 330 = .ok (.iconst 4, 1) := by decide +kernel
theorem dX10_init_331 : decode cX10_init 331 = .ok (.iload_n 1, 1) := by decide +kernel
theorem dX10_init_332 : decode cX10_init 332 = .ok (.imul, 1) := by decide +kernel
theorem dX10_init_333 : decode cX10_init 333 = .ok (.iadd, 1) := by decide +kernel
theorem dX10_init_334 : decode cX10_init 334 = .ok (.sipush 1000, 3) := by decide +kernel
theorem dX10_init_337 : decode cX10_init 337 = .ok (.iastore, 1) := by decide +kernel
theorem dX10_init_338 : decode cX10_init 338 = .ok (.iinc 1 1, 3) := by decide +kernel
theorem dX10_init_341 : decode cX10_init 341 = .ok (.goto (-23), 3) := by decide +kernel
theorem dX10_init_344 : decode cX10_init 344 = .ok (.return_, 1) := by decide +kernel
theorem dX10_in_0 : decode cX10_in 0 = .ok (.iload_n 0, 1) := by decide +kernel
theorem dX10_in_1 : decode cX10_in 1 = .ok (.iload_n 1, 1) := by decide +kernel
theorem dX10_in_2 : decode cX10_in 2 = .ok (.if_icmp .lt 12, 3) := by decide +kernel
theorem dX10_in_5 : decode cX10_in 5 = .ok (.iload_n 0, 1) := by decide +kernel
theorem dX10_in_6 : decode cX10_in 6 = .ok (.iload_n 2, 1) := by decide +kernel
theorem dX10_in_7 : decode cX10_in 7 = .ok (.if_icmp .gt 7, 3) := by decide +kernel
theorem dX10_in_10 : decode cX10_in 10 = .ok (.iconst 1, 1) := by decide +kernel
theorem dX10_in_11 : decode cX10_in 11 = .ok (.goto 4, 3) := by decide +kernel
theorem dX10_in_14 : decode cX10_in 14 = .ok (.iconst 0, 1) := by decide +kernel
theorem dX10_in_15 : decode cX10_in 15 = .ok (.ireturn, 1) := by decide +kernel
theorem dX10_within_0 : decode cX10_within 0 = .ok (.iload_n 0, 1) := by decide +kernel
theorem dX10_within_1 : decode cX10_within 1 = .ok (.iload_n 1, 1) := by decide +kernel
theorem dX10_within_2 : decode cX10_within 2 = .ok (.if_icmp .ge 7, 3) := by decide +kernel
theorem dX10_within_5 : decode cX10_within 5 = .ok (.iload_n 1, 1) := by decide +kernel
theorem dX10_within_6 : decode cX10_within 6 = .ok (.goto 13, 3) := by decide +kernel
theorem dX10_within_9 : decode cX10_within 9 = .ok (.iload_n 0, 1) := by decide +kernel
theorem dX10_within_10 : decode cX10_within 10 = .ok (.iload_n 2, 1) := by decide +kernel
theorem dX10_within_11 : decode cX10_within 11 = .ok (.if_icmp .le 7, 3) := by decide +kernel
theorem dX10_within_14 : decode cX10_within 14 = .ok (.iload_n 2, 1) := by decide +kernel
theorem dX10_within_15 : decode cX10_within 15 = .ok (.goto 4, 3) := by decide +kernel
theorem dX10_within_18 : decode cX10_within 18 = .ok (.iload_n 0, 1) := by decide +kernel
theorem dX10_within_19 : decode cX10_within 19 = .ok (.ireturn, 1) := by decide +kernel
theorem dX10_copyAll_0 : decode cX10_copyAll 0 = .ok (.iconst 0, 1) := by decide +kernel
theorem dX10_copyAll_1 : decode cX10_copyAll 1 = .ok (.istore_n 2, 1) := by decide +kernel
theorem dX10_copyAll_2 : decode cX10_copyAll 2 = .ok (.iload_n 2, 1) := by decide +kernel
theorem dX10_copyAll_3 : decode cX10_copyAll 3 = .ok (.sipush 1460, 3) := by decide +kernel
theorem dX10_copyAll_6 : decode cX10_copyAll 6 = .ok (.if_icmp .ge 15, 3) := by decide +kernel
theorem dX10_copyAll_9 : decode cX10_copyAll 9 = .ok (.aload_n 1, 1) := by decide +kernel
theorem dX10_copyAll_10 : decode cX10_copyAll 10 = .ok (.iload_n 2, 1) := by decide +kernel
theorem dX10_copyAll_11 : decode cX10_copyAll 11 = .ok (.aload_n 0, 1) := by decide +kernel
theorem dX10_copyAll_12 : decode cX10_copyAll 12 = .ok (.iload_n 2, 1) := by decide +kernel
theorem dX10_copyAll_13 : decode cX10_copyAll 13 = .ok (.iaload, 1) := by decide +kernel
theorem dX10_copyAll_14 : decode cX10_copyAll 14 = .ok (.iastore, 1) := by decide +kernel
theorem dX10_copyAll_15 : decode cX10_copyAll 15 = .ok (.iinc 2 1, 3) := by decide +kernel
theorem dX10_copyAll_18 : decode cX10_copyAll 18 = .ok (.goto (-16), 3) := by decide +kernel
theorem dX10_copyAll_21 : decode cX10_copyAll 21 = .ok (.return_, 1) := by decide +kernel
theorem dX10_isDoor_0 : decode cX10_isDoor 0 = .ok (.iload_n 1, 1) := by decide +kernel
theorem dX10_isDoor_1 : decode cX10_isDoor 1 = .ok (.iconst 0, 1) := by decide +kernel
theorem dX10_isDoor_2 : decode cX10_isDoor 2 = .ok (.aload_n 0, 1) := by decide +kernel
theorem dX10_isDoor_3 : decode cX10_isDoor 3 = .ok (.getfield 9, 3) := by decide +kernel
theorem dX10_isDoor_6 : decode cX10_isDoor 6 = .ok (.iconst 1, 1) := by decide +kernel
theorem dX10_isDoor_7 : decode cX10_isDoor 7 = .ok (.iaload, 1) := by decide +kernel
theorem dX10_isDoor_8 : decode cX10_isDoor 8 = .ok (.iconst 1, 1) := by decide +kernel
theorem dX10_isDoor_9 : decode cX10_isDoor 9 = .ok (.isub, 1) := by decide +kernel
theorem dX10_isDoor_10 : decode cX10_isDoor 10 = .ok (.invokestatic 87, 3) := by decide +kernel
theorem dX10_isDoor_13 : decode cX10_isDoor 13 = .ok (.ireturn, 1) := by decide +kernel
theorem dX10_isRoom_0 : decode cX10_isRoom 0 = .ok (.iload_n 0, 1) := by decide +kernel
theorem dX10_isRoom_1 : decode cX10_isRoom 1 = .ok (.iconst 0, 1) := by decide +kernel
theorem dX10_isRoom_2 : decode cX10_isRoom 2 = .ok (.bipush 7, 2) := by decide +kernel
theorem dX10_isRoom_4 : decode cX10_isRoom 4 = .ok (.invokestatic 87, 3) := by decide +kernel
theorem dX10_isRoom_7 : decode cX10_isRoom 7 = .ok (.ireturn, 1) := by decide +kernel
theorem dX10_of_0 : decode cX10_of 0 = .ok (.aload_n 0, 1) := by decide +kernel
theorem dX10_of_1 : decode cX10_of 1 = .ok (.getfield 9, 3) := by decide +kernel
theorem dX10_of_4 : decode cX10_of 4 = .ok (.bipush 38, 2) := by decide +kernel
theorem dX10_of_6 : decode cX10_of 6 = .ok (.iconst 5, 1) := by decide +kernel
theorem dX10_of_7 : decode cX10_of 7 = .ok (.iload_n 1, 1) := by decide +kernel
theorem dX10_of_8 : decode cX10_of 8 = .ok (.imul, 1) := by decide +kernel
theorem dX10_of_9 : decode cX10_of 9 = .ok (.iadd, 1) := by decide +kernel
theorem dX10_of_10 : decode cX10_of 10 = .ok (.iload_n 2, 1) := by decide +kernel
theorem dX10_of_11 : decode cX10_of 11 = .ok (.iadd, 1) := by decide +kernel
theorem dX10_of_12 : decode cX10_of 12 = .ok (.iaload, 1) := by decide +kernel
theorem dX10_of_13 : decode cX10_of 13 = .ok (.ireturn, 1) := by decide +kernel
theorem dX10_at0_0 : decode cX10_at0 0 = .ok (.aload_n 0, 1) := by decide +kernel
theorem dX10_at0_1 : decode cX10_at0 1 = .ok (.getfield 9, 3) := by decide +kernel
theorem dX10_at0_4 : decode cX10_at0 4 = .ok (.bipush 6, 2) := by decide +kernel
theorem dX10_at0_6 : decode cX10_at0 6 = .ok (.iconst 4, 1) := by decide +kernel
theorem dX10_at0_7 : decode cX10_at0 7 = .ok (.iload_n 1, 1) := by decide +kernel
theorem dX10_at0_8 : decode cX10_at0 8 = .ok (.imul, 1) := by decide +kernel
theorem dX10_at0_9 : decode cX10_at0 9 = .ok (.iadd, 1) := by decide +kernel
theorem dX10_at0_10 : decode cX10_at0 10 = .ok (.iload_n 2, 1) := by decide +kernel
theorem dX10_at0_11 : decode cX10_at0 11 = .ok (.iadd, 1) := by decide +kernel
theorem dX10_at0_12 : decode cX10_at0 12 = .ok (.iaload, 1) := by decide +kernel
theorem dX10_at0_13 : decode cX10_at0 13 = .ok (.ireturn, 1) := by decide +kernel
theorem dX10_becomes_0 : decode cX10_becomes 0 = .ok (.aload_n 0, 1) := by decide +kernel
theorem dX10_becomes_1 : decode cX10_becomes 1 = .ok (.getfield 9, 3) := by decide +kernel
theorem dX10_becomes_4 : decode cX10_becomes 4 = .ok (.iload_n 1, 1) := by decide +kernel
theorem dX10_becomes_5 : decode cX10_becomes 5 = .ok (.iaload, 1) := by decide +kernel
theorem dX10_becomes_6 : decode cX10_becomes 6 = .ok (.istore_n 3, 1) := by decide +kernel
theorem dX10_becomes_7 : decode cX10_becomes 7 = .ok (.aload_n 0, 1) := by decide +kernel
theorem dX10_becomes_8 : decode cX10_becomes 8 = .ok (.getfield 9, 3) := by decide +kernel
theorem dX10_becomes_11 : decode cX10_becomes 11 = .ok (.iload_n 1, 1) := by decide +kernel
theorem dX10_becomes_12 : decode cX10_becomes 12 = .ok (.iload_n 2, 1) := by decide +kernel
theorem dX10_becomes_13 : decode cX10_becomes 13 = .ok (.iastore, 1) := by decide +kernel
theorem dX10_becomes_14 : decode cX10_becomes 14 = .ok (.iload_n 3, 1) := by decide +kernel
theorem dX10_becomes_15 : decode cX10_becomes 15 = .ok (.ireturn, 1) := by decide +kernel
theorem dX10_comes_0 : decode cX10_comes 0 = .ok (.bipush 38, 2) := by decide +kernel
theorem dX10_comes_2 : decode cX10_comes 2 = .ok (.iconst 5, 1) := by decide +kernel
theorem dX10_comes_3 : decode cX10_comes 3 = .ok (.aload_n 0, 1) := by decide +kernel
theorem dX10_comes_4 : decode cX10_comes 4 = .ok (.getfield 9, 3) := by decide +kernel
theorem dX10_comes_7 : decode cX10_comes 7 = .ok (.iconst 1, 1) := by decide +kernel
theorem dX10_comes_8 : decode cX10_comes 8 = .ok (.iaload, 1) := by decide +kernel
theorem dX10_comes_9 : decode cX10_comes 9 = .ok (.imul, 1) := by decide +kernel
theorem dX10_comes_10 : decode cX10_comes 10 = .ok (.iadd, 1) := by decide +kernel
theorem dX10_comes_11 : decode cX10_comes 11 = .ok (.istore 6, 2) := by decide +kernel
theorem dX10_comes_13 : decode cX10_comes 13 = .ok (.aload_n 0, 1) := by decide +kernel
theorem dX10_comes_14 : decode cX10_comes 14 = .ok (.getfield 9, 3) := by decide +kernel
theorem dX10_comes_17 : decode cX10_comes 17 = .ok (.iload 6, 2) := by decide +kernel
theorem dX10_comes_19 : decode cX10_comes 19 = .ok (.iload_n 1, 1) := by decide +kernel
theorem dX10_comes_20 : decode cX10_comes 20 = .ok (.iastore, 1) := by decide +kernel
theorem dX10_comes_21 : decode cX10_comes 21 = .ok (.aload_n 0, 1) := by decide +kernel
theorem dX10_comes_22 : decode cX10_comes 22 = .ok (.getfield 9, 3) := by decide +kernel
theorem dX10_comes_25 : decode cX10_comes 25 = .ok (.iload 6, 2) := by decide +kernel
theorem dX10_comes_27 : decode cX10_comes 27 = .ok (.iconst 1, 1) := by decide +kernel
theorem dX10_comes_28 : decode cX10_comes 28 = .ok (.iadd, 1) := by decide +kernel
theorem dX10_comes_29 : decode cX10_comes 29 = .ok (.iload_n 2, 1) := by decide +kernel
theorem dX10_comes_30 : decode cX10_comes 30 = .ok (.iastore, 1) := by decide +kernel
theorem dX10_comes_31 : decode cX10_comes 31 = .ok (.aload_n 0, 1) := by decide +kernel
theorem dX10_comes_32 : decode cX10_comes 32 = .ok (.getfield 9, 3) := by decide +kernel
theorem dX10_comes_35 : decode cX10_comes 35 = .ok (.iload 6, 2) := by decide +kernel
theorem dX10_comes_37 : decode cX10_comes 37 = .ok (.iconst 2, 1) := by decide +kernel
theorem dX10_comes_38 : decode cX10_comes 38 = .ok (.iadd, 1) := by decide +kernel
theorem dX10_comes_39 : decode cX10_comes 39 = .ok (.iload_n 3, 1) := by decide +kernel
theorem dX10_comes_40 : decode cX10_comes 40 = .ok (.iastore, 1) := by decide +kernel
theorem dX10_comes_41 : decode cX10_comes 41 = .ok (.aload_n 0, 1) := by decide +kernel
theorem dX10_comes_42 : decode cX10_comes 42 = .ok (.getfield 9, 3) := by decide +kernel
theorem dX10_comes_45 : decode cX10_comes 45 = .ok (.iload 6, 2) := by decide +kernel
theorem dX10_comes_47 : decode cX10_comes 47 = .ok (.iconst 3, 1) := by decide +kernel
theorem dX10_comes_48 : decode cX10_comes 48 = .ok (.iadd, 1) := by decide +kernel
theorem dX10_comes_49 : decode cX10_comes 49 = .ok (.iload 4, 2) := by decide +kernel
theorem dX10_comes_51 : decode cX10_comes 51 = .ok (.iastore, 1) := by decide +kernel
theorem dX10_comes_52 : decode cX10_comes 52 = .ok (.aload_n 0, 1) := by decide +kernel
theorem dX10_comes_53 : decode cX10_comes 53 = .ok (.getfield 9, 3) := by decide +kernel
theorem dX10_comes_56 : decode cX10_comes 56 = .ok (.iload 6, 2) := by decide +kernel
theorem dX10_comes_58 : decode cX10_comes 58 = .ok (.iconst 4, 1) := by decide +kernel
theorem dX10_comes_59 : decode cX10_comes 59 = .ok (.iadd, 1) := by decide +kernel
theorem dX10_comes_60 : decode cX10_comes 60 = .ok (.iload 5, 2) := by decide +kernel
theorem dX10_comes_62 : decode cX10_comes 62 = .ok (.iastore, 1) := by decide +kernel
theorem dX10_comes_63 : decode cX10_comes 63 = .ok (.aload_n 0, 1) := by decide +kernel
theorem dX10_comes_64 : decode cX10_comes 64 = .ok (.getfield 9, 3) := by decide +kernel
theorem dX10_comes_67 : decode cX10_comes 67 = .ok (.iconst 1, 1) := by decide +kernel
theorem dX10_comes_68 : decode cX10_comes 68 = .ok (.dup2, 1) := by decide +kernel
theorem dX10_comes_69 : decode cX10_comes 69 = .ok (.iaload, 1) := by decide +kernel
theorem dX10_comes_70 : decode cX10_comes 70 = .ok (.iconst 1, 1) := by decide +kernel
theorem dX10_comes_71 : decode cX10_comes 71 = .ok (.iadd, 1) := by decide +kernel
theorem dX10_comes_72 : decode cX10_comes 72 = .ok (.iastore, 1) := by decide +kernel
theorem dX10_comes_73 : decode cX10_comes 73 = .ok (.aload_n 0, 1) := by decide +kernel
theorem dX10_comes_74 : decode cX10_comes 74 = .ok (.getfield 9, 3) := by decide +kernel
theorem dX10_comes_77 : decode cX10_comes 77 = .ok (.iconst 1, 1) := by decide +kernel
theorem dX10_comes_78 : decode cX10_comes 78 = .ok (.iaload, 1) := by decide +kernel
theorem dX10_comes_79 : decode cX10_comes 79 = .ok (.iconst 1, 1) := by decide +kernel
theorem dX10_comes_80 : decode cX10_comes 80 = .ok (.isub, 1) := by decide +kernel
theorem dX10_comes_81 : decode cX10_comes 81 = .ok (.ireturn, 1) := by decide +kernel
theorem dX10_door_0 : decode cX10_door 0 = .ok (.iload_n 1, 1) := by decide +kernel
theorem dX10_door_1 : decode cX10_door 1 = .ok (.iconst 0, 1) := by decide +kernel
theorem dX10_door_2 : decode cX10_door 2 = .ok (.iconst 5, 1) := by decide +kernel
theorem dX10_door_3 : decode cX10_door 3 = .ok (.invokestatic 87, 3) := by decide +kernel
theorem dX10_door_6 : decode cX10_door 6 = .ok (.ifCond .eq 36, 3) := by decide +kernel
theorem dX10_door_9 : decode cX10_door 9 = .ok (.iload_n 2, 1) := by decide +kernel
theorem dX10_door_10 : decode cX10_door 10 = .ok (.invokestatic 91, 3) := by decide +kernel
theorem dX10_door_13 : decode cX10_door 13 = .ok (.ifCond .eq 29, 3) := by decide +kernel
theorem dX10_door_16 : decode cX10_door 16 = .ok (.iload_n 3, 1) := by decide +kernel
theorem dX10_door_17 : decode cX10_door 17 = .ok (.iconst 0, 1) := by decide +kernel
theorem dX10_door_18 : decode cX10_door 18 = .ok (.bipush 8, 2) := by decide +kernel
theorem dX10_door_20 : decode cX10_door 20 = .ok (.invokestatic 87, 3) := by decide +kernel
theorem dX10_door_23 : decode cX10_door 23 = .ok (.ifCond .eq 19, 3) := by decide +kernel
theorem dX10_door_26 : decode cX10_door 26 = .ok (.iload_n 2, 1) := by decide +kernel
theorem dX10_door_27 : decode cX10_door 27 = .ok (.iload_n 3, 1) := by decide +kernel
theorem dX10_door_28 : decode cX10_door 28 = .ok (.if_icmp .eq 14, 3) := by decide +kernel
theorem dX10_door_31 : decode cX10_door 31 = .ok (.iload 4, 2) := by decide +kernel
theorem dX10_door_33 : decode cX10_door 33 = .ok (.iconst 1, 1) := by decide +kernel
theorem dX10_door_34 : decode cX10_door 34 = .ok (.bipush 9, 2) := by decide +kernel
theorem dX10_door_36 : decode cX10_door 36 = .ok (.invokestatic 87, 3) := by decide +kernel
theorem dX10_door_39 : decode cX10_door 39 = .ok (.ifCond .ne 6, 3) := by decide +kernel
theorem dX10_door_42 : decode cX10_door 42 = .ok (.ldc 95, 2) := by decide +kernel
theorem dX10_door_44 : decode cX10_door 44 = .ok (.ireturn, 1) := by decide +kernel
theorem dX10_door_45 : decode cX10_door 45 = .ok (.aload_n 0, 1) := by decide +kernel
theorem dX10_door_46 : decode cX10_door 46 = .ok (.getfield 9, 3) := by decide +kernel
theorem dX10_door_49 : decode cX10_door 49 = .ok (.iconst 1, 1) := by decide +kernel
theorem dX10_door_50 : decode cX10_door 50 = .ok (.iaload, 1) := by decide +kernel
theorem dX10_door_51 : decode cX10_door 51 = .ok (.bipush 10, 2) := by decide +kernel
theorem dX10_door_53 : decode cX10_door 53 = .ok (.if_icmp .ne 8, 3) := by decide +kernel
theorem dX10_door_56 : decode cX10_door 56 = .ok (.ldc 96, 2) := by decide +kernel
theorem dX10_door_58 : decode cX10_door 58 = .ok (.goto 13, 3) := by decide +kernel
theorem dX10_door_61 : decode cX10_door 61 = .ok (.aload_n 0, 1) := by decide +kernel
theorem dX10_door_62 : decode cX10_door 62 = .ok (.iload_n 1, 1) := by decide +kernel
theorem dX10_door_63 : decode cX10_door 63 = .ok (.iload_n 2, 1) := by decide +kernel
theorem dX10_door_64 : decode cX10_door 64 = .ok (.iload_n 3, 1) := by decide +kernel
theorem dX10_door_65 : decode cX10_door 65 = .ok (.iload 4, 2) := by decide +kernel
theorem dX10_door_67 : decode cX10_door 67 = .ok (.iconst 0, 1) := by decide +kernel
theorem dX10_door_68 : decode cX10_door 68 = .ok (.invokevirtual 97, 3) := by decide +kernel
theorem dX10_door_71 : decode cX10_door 71 = .ok (.ireturn, 1) := by decide +kernel
theorem dX10_letsOf_0 : decode cX10_letsOf 0 = .ok (.aload_n 0, 1) := by decide +kernel
theorem dX10_letsOf_1 : decode cX10_letsOf 1 = .ok (.iload_n 1, 1) := by decide +kernel
theorem dX10_letsOf_2 : decode cX10_letsOf 2 = .ok (.iconst 4, 1) := by decide +kernel
theorem dX10_letsOf_3 : decode cX10_letsOf 3 = .ok (.invokevirtual 101, 3) := by decide +kernel
theorem dX10_letsOf_6 : decode cX10_letsOf 6 = .ok (.iconst 1, 1) := by decide +kernel
theorem dX10_letsOf_7 : decode cX10_letsOf 7 = .ok (.if_icmp .ne 7, 3) := by decide +kernel
theorem dX10_letsOf_10 : decode cX10_letsOf 10 = .ok (.iconst 1, 1) := by decide +kernel
theorem dX10_letsOf_11 : decode cX10_letsOf 11 = .ok (.goto 4, 3) := by decide +kernel
theorem dX10_letsOf_14 : decode cX10_letsOf 14 = .ok (.iconst 0, 1) := by decide +kernel
theorem dX10_letsOf_15 : decode cX10_letsOf 15 = .ok (.istore_n 2, 1) := by decide +kernel
theorem dX10_letsOf_16 : decode cX10_letsOf 16 = .ok (.aload_n 0, 1) := by decide +kernel
theorem dX10_letsOf_17 : decode cX10_letsOf 17 = .ok (.iconst 0, 1) := by decide +kernel
theorem dX10_letsOf_18 : decode cX10_letsOf 18 = .ok (.invokevirtual 105, 3) := by decide +kernel
theorem dX10_letsOf_21 : decode cX10_letsOf 21 = .ok (.istore_n 3, 1) := by decide +kernel
theorem dX10_letsOf_22 : decode cX10_letsOf 22 = .ok (.aload_n 0, 1) := by decide +kernel
theorem dX10_letsOf_23 : decode cX10_letsOf 23 = .ok (.getfield 57, 3) := by decide +kernel
theorem dX10_letsOf_26 : decode cX10_letsOf 26 = .ok (.iconst 0, 1) := by decide +kernel
theorem dX10_letsOf_27 : decode cX10_letsOf 27 = .ok (.aload_n 0, 1) := by decide +kernel
theorem dX10_letsOf_28 : decode cX10_letsOf 28 = .ok (.iload_n 1, 1) := by decide +kernel
theorem dX10_letsOf_29 : decode cX10_letsOf 29 = .ok (.iconst 3, 1) := by decide +kernel
theorem dX10_letsOf_30 : decode cX10_letsOf 30 = .ok (.invokevirtual 101, 3) := by decide +kernel
theorem dX10_letsOf_33 : decode cX10_letsOf 33 = .ok (.iastore, 1) := by decide +kernel
theorem dX10_letsOf_34 : decode cX10_letsOf 34 = .ok (.aload_n 0, 1) := by decide +kernel
theorem dX10_letsOf_35 : decode cX10_letsOf 35 = .ok (.getfield 57, 3) := by decide +kernel
theorem dX10_letsOf_38 : decode cX10_letsOf 38 = .ok (.iconst 1, 1) := by decide +kernel
theorem dX10_letsOf_39 : decode cX10_letsOf 39 = .ok (.aload_n 0, 1) := by decide +kernel
theorem dX10_letsOf_40 : decode cX10_letsOf 40 = .ok (.iload_n 1, 1) := by decide +kernel
theorem dX10_letsOf_41 : decode cX10_letsOf 41 = .ok (.iconst 4, 1) := by decide +kernel
theorem dX10_letsOf_42 : decode cX10_letsOf 42 = .ok (.invokevirtual 101, 3) := by decide +kernel
theorem dX10_letsOf_45 : decode cX10_letsOf 45 = .ok (.iastore, 1) := by decide +kernel
theorem dX10_letsOf_46 : decode cX10_letsOf 46 = .ok (.iload_n 3, 1) := by decide +kernel
theorem dX10_letsOf_47 : decode cX10_letsOf 47 = .ok (.ifCond .ge 23, 3) := by decide +kernel
theorem dX10_letsOf_50 : decode cX10_letsOf 50 = .ok (.iload_n 2, 1) := by decide +kernel
theorem dX10_letsOf_51 : decode cX10_letsOf 51 = .ok (.ifCond .eq 15, 3) := by decide +kernel
theorem dX10_letsOf_54 : decode cX10_letsOf 54 = .ok (.bipush 6, 2) := by decide +kernel
theorem dX10_letsOf_56 : decode cX10_letsOf 56 = .ok (.aload_n 0, 1) := by decide +kernel
theorem dX10_letsOf_57 : decode cX10_letsOf 57 = .ok (.iload_n 1, 1) := by decide +kernel
theorem dX10_letsOf_58 : decode cX10_letsOf 58 = .ok (.iconst 3, 1) := by decide +kernel
theorem dX10_letsOf_59 : decode cX10_letsOf 59 = .ok (.invokevirtual 101, 3) := by decide +kernel
theorem dX10_letsOf_62 : decode cX10_letsOf 62 = .ok (.imul, 1) := by decide +kernel
theorem dX10_letsOf_63 : decode cX10_letsOf 63 = .ok (.goto 18, 3) := by decide +kernel
theorem dX10_letsOf_66 : decode cX10_letsOf 66 = .ok (.iconst 0, 1) := by decide +kernel
theorem dX10_letsOf_67 : decode cX10_letsOf 67 = .ok (.goto 14, 3) := by decide +kernel
theorem dX10_letsOf_70 : decode cX10_letsOf 70 = .ok (.aload_n 0, 1) := by decide +kernel
theorem dX10_letsOf_71 : decode cX10_letsOf 71 = .ok (.iload_n 3, 1) := by decide +kernel
theorem dX10_letsOf_72 : decode cX10_letsOf 72 = .ok (.invokevirtual 109, 3) := by decide +kernel
theorem dX10_letsOf_75 : decode cX10_letsOf 75 = .ok (.iconst 0, 1) := by decide +kernel
theorem dX10_letsOf_76 : decode cX10_letsOf 76 = .ok (.bipush 60, 2) := by decide +kernel
theorem dX10_letsOf_78 : decode cX10_letsOf 78 = .ok (.invokestatic 112, 3) := by decide +kernel
theorem dX10_letsOf_81 : decode cX10_letsOf 81 = .ok (.istore 4, 2) := by decide +kernel
theorem dX10_letsOf_83 : decode cX10_letsOf 83 = .ok (.aload_n 0, 1) := by decide +kernel
theorem dX10_letsOf_84 : decode cX10_letsOf 84 = .ok (.iload_n 1, 1) := by decide +kernel
theorem dX10_letsOf_85 : decode cX10_letsOf 85 = .ok (.iconst 0, 1) := by decide +kernel
theorem dX10_letsOf_86 : decode cX10_letsOf 86 = .ok (.invokevirtual 101, 3) := by decide +kernel
theorem dX10_letsOf_89 : decode cX10_letsOf 89 = .ok (.tableswitch 76 1 5 #[35, 40, 45, 58, 69], 35) := by decide +kernel
theorem dX10_letsOf_124 : decode cX10_letsOf 124 = .ok (.iload 4, 2) := by decide +kernel
theorem dX10_letsOf_126 : decode cX10_letsOf 126 = .ok (.iconst 2, 1) := by decide +kernel
theorem dX10_letsOf_127 : decode cX10_letsOf 127 = .ok (.idiv, 1) := by decide +kernel
theorem dX10_letsOf_128 : decode cX10_letsOf 128 = .ok (.ireturn, 1) := by decide +kernel
theorem dX10_letsOf_129 : decode cX10_letsOf 129 = .ok (.iload 4, 2) := by decide +kernel
theorem dX10_letsOf_131 : decode cX10_letsOf 131 = .ok (.iconst 3, 1) := by decide +kernel
theorem dX10_letsOf_132 : decode cX10_letsOf 132 = .ok (.iadd, 1) := by decide +kernel
theorem dX10_letsOf_133 : decode cX10_letsOf 133 = .ok (.ireturn, 1) := by decide +kernel
theorem dX10_letsOf_134 : decode cX10_letsOf 134 = .ok (.iload_n 2, 1) := by decide +kernel
theorem dX10_letsOf_135 : decode cX10_letsOf 135 = .ok (.ifCond .eq 10, 3) := by decide +kernel
theorem dX10_letsOf_138 : decode cX10_letsOf 138 = .ok (.iload 4, 2) := by decide +kernel
theorem dX10_letsOf_140 : decode cX10_letsOf 140 = .ok (.iconst 2, 1) := by decide +kernel
theorem dX10_letsOf_141 : decode cX10_letsOf 141 = .ok (.idiv, 1) := by decide +kernel
theorem dX10_letsOf_142 : decode cX10_letsOf 142 = .ok (.goto 4, 3) := by decide +kernel
theorem dX10_letsOf_145 : decode cX10_letsOf 145 = .ok (.iconst 0, 1) := by decide +kernel
theorem dX10_letsOf_146 : decode cX10_letsOf 146 = .ok (.ireturn, 1) := by decide +kernel
theorem dX10_letsOf_147 : decode cX10_letsOf 147 = .ok (.iload 4, 2) := by decide +kernel
theorem dX10_letsOf_149 : decode cX10_letsOf 149 = .ok (.iconst 3, 1) := by decide +kernel
theorem dX10_letsOf_150 : decode cX10_letsOf 150 = .ok (.iadd, 1) := by decide +kernel
theorem dX10_letsOf_151 : decode cX10_letsOf 151 = .ok (.iconst 0, 1) := by decide +kernel
theorem dX10_letsOf_152 : decode cX10_letsOf 152 = .ok (.bipush 10, 2) := by decide +kernel
theorem dX10_letsOf_154 : decode cX10_letsOf 154 = .ok (.invokestatic 112, 3) := by decide +kernel
theorem dX10_letsOf_157 : decode cX10_letsOf 157 = .ok (.ireturn, 1) := by decide +kernel
theorem dX10_letsOf_158 : decode cX10_letsOf 158 = .ok (.aload_n 0, 1) := by decide +kernel
theorem dX10_letsOf_159 : decode cX10_letsOf 159 = .ok (.iload_n 1, 1) := by decide +kernel
theorem dX10_letsOf_160 : decode cX10_letsOf 160 = .ok (.iconst 3, 1) := by decide +kernel
theorem dX10_letsOf_161 : decode cX10_letsOf 161 = .ok (.invokevirtual 101, 3) := by decide +kernel
theorem dX10_letsOf_164 : decode cX10_letsOf 164 = .ok (.ireturn, 1) := by decide +kernel
theorem dX10_letsOf_165 : decode cX10_letsOf 165 = .ok (.iload 4, 2) := by decide +kernel
theorem dX10_letsOf_167 : decode cX10_letsOf 167 = .ok (.ireturn, 1) := by decide +kernel
theorem dX10_airOf_0 : decode cX10_airOf 0 = .ok (.iload_n 1, 1) := by decide +kernel
theorem dX10_airOf_1 : decode cX10_airOf 1 = .ok (.bipush 8, 2) := by decide +kernel
theorem dX10_airOf_3 : decode cX10_airOf 3 = .ok (.if_icmp .ne 12, 3) := by decide +kernel
theorem dX10_airOf_6 : decode cX10_airOf 6 = .ok (.aload_n 0, 1) := by decide +kernel
theorem dX10_airOf_7 : decode cX10_airOf 7 = .ok (.getfield 9, 3) := by decide +kernel
theorem dX10_airOf_10 : decode cX10_airOf 10 = .ok (.iconst 3, 1) := by decide +kernel
theorem dX10_airOf_11 : decode cX10_airOf 11 = .ok (.iaload, 1) := by decide +kernel
theorem dX10_airOf_12 : decode cX10_airOf 12 = .ok (.goto 9, 3) := by decide +kernel
theorem dX10_airOf_15 : decode cX10_airOf 15 = .ok (.aload_n 0, 1) := by decide +kernel
theorem dX10_airOf_16 : decode cX10_airOf 16 = .ok (.iload_n 1, 1) := by decide +kernel
theorem dX10_airOf_17 : decode cX10_airOf 17 = .ok (.iconst 0, 1) := by decide +kernel
theorem dX10_airOf_18 : decode cX10_airOf 18 = .ok (.invokevirtual 116, 3) := by decide +kernel
theorem dX10_airOf_21 : decode cX10_airOf 21 = .ok (.ireturn, 1) := by decide +kernel
theorem dX10_flowOf_0 : decode cX10_flowOf 0 = .ok (.aload_n 0, 1) := by decide +kernel
theorem dX10_flowOf_1 : decode cX10_flowOf 1 = .ok (.aload_n 0, 1) := by decide +kernel
theorem dX10_flowOf_2 : decode cX10_flowOf 2 = .ok (.iload_n 1, 1) := by decide +kernel
theorem dX10_flowOf_3 : decode cX10_flowOf 3 = .ok (.iconst 1, 1) := by decide +kernel
theorem dX10_flowOf_4 : decode cX10_flowOf 4 = .ok (.invokevirtual 101, 3) := by decide +kernel
theorem dX10_flowOf_7 : decode cX10_flowOf 7 = .ok (.invokevirtual 119, 3) := by decide +kernel
theorem dX10_flowOf_10 : decode cX10_flowOf 10 = .ok (.aload_n 0, 1) := by decide +kernel
theorem dX10_flowOf_11 : decode cX10_flowOf 11 = .ok (.aload_n 0, 1) := by decide +kernel
theorem dX10_flowOf_12 : decode cX10_flowOf 12 = .ok (.iload_n 1, 1) := by decide +kernel
theorem dX10_flowOf_13 : decode cX10_flowOf 13 = .ok (.iconst 2, 1) := by decide +kernel
theorem dX10_flowOf_14 : decode cX10_flowOf 14 = .ok (.invokevirtual 101, 3) := by decide +kernel
theorem dX10_flowOf_17 : decode cX10_flowOf 17 = .ok (.invokevirtual 119, 3) := by decide +kernel
theorem dX10_flowOf_20 : decode cX10_flowOf 20 = .ok (.isub, 1) := by decide +kernel
theorem dX10_flowOf_21 : decode cX10_flowOf 21 = .ok (.i2l, 1) := by decide +kernel
theorem dX10_flowOf_22 : decode cX10_flowOf 22 = .ok (.aload_n 0, 1) := by decide +kernel
theorem dX10_flowOf_23 : decode cX10_flowOf 23 = .ok (.iload_n 1, 1) := by decide +kernel
theorem dX10_flowOf_24 : decode cX10_flowOf 24 = .ok (.invokevirtual 122, 3) := by decide +kernel
theorem dX10_flowOf_27 : decode cX10_flowOf 27 = .ok (.i2l, 1) := by decide +kernel
theorem dX10_flowOf_28 : decode cX10_flowOf 28 = .ok (.lmul, 1) := by decide +kernel
theorem dX10_flowOf_29 : decode cX10_flowOf 29 = .ok (.ldc2_w 125, 3) := by decide +kernel
theorem dX10_flowOf_32 : decode cX10_flowOf 32 = .ok (.ldiv, 1) := by decide +kernel
theorem dX10_flowOf_33 : decode cX10_flowOf 33 = .ok (.l2i, 1) := by decide +kernel
theorem dX10_flowOf_34 : decode cX10_flowOf 34 = .ok (.ireturn, 1) := by decide +kernel
theorem dX10_worthOf_0 : decode cX10_worthOf 0 = .ok (.aload_n 0, 1) := by decide +kernel
theorem dX10_worthOf_1 : decode cX10_worthOf 1 = .ok (.iload_n 1, 1) := by decide +kernel
theorem dX10_worthOf_2 : decode cX10_worthOf 2 = .ok (.iconst 3, 1) := by decide +kernel
theorem dX10_worthOf_3 : decode cX10_worthOf 3 = .ok (.invokevirtual 101, 3) := by decide +kernel
theorem dX10_worthOf_6 : decode cX10_worthOf 6 = .ok (.istore_n 2, 1) := by decide +kernel
theorem dX10_worthOf_7 : decode cX10_worthOf 7 = .ok (.aload_n 0, 1) := by decide +kernel
theorem dX10_worthOf_8 : decode cX10_worthOf 8 = .ok (.iload_n 1, 1) := by decide +kernel
theorem dX10_worthOf_9 : decode cX10_worthOf 9 = .ok (.iconst 0, 1) := by decide +kernel
theorem dX10_worthOf_10 : decode cX10_worthOf 10 = .ok (.invokevirtual 101, 3) := by decide +kernel
theorem dX10_worthOf_13 : decode cX10_worthOf 13 = .ok (.tableswitch 59 1 5 #[35, 40, 45, 52, 57], 35) := by decide +kernel
theorem dX10_worthOf_48 : decode cX10_worthOf 48 = .ok (.iload_n 2, 1) := by decide +kernel
theorem dX10_worthOf_49 : decode cX10_worthOf 49 = .ok (.bipush 20, 2) := by decide +kernel
theorem dX10_worthOf_51 : decode cX10_worthOf 51 = .ok (.iadd, 1) := by decide +kernel
theorem dX10_worthOf_52 : decode cX10_worthOf 52 = .ok (.ireturn, 1) := by decide +kernel
theorem dX10_worthOf_53 : decode cX10_worthOf 53 = .ok (.bipush 30, 2) := by decide +kernel
theorem dX10_worthOf_55 : decode cX10_worthOf 55 = .ok (.iload_n 2, 1) := by decide +kernel
theorem dX10_worthOf_56 : decode cX10_worthOf 56 = .ok (.isub, 1) := by decide +kernel
theorem dX10_worthOf_57 : decode cX10_worthOf 57 = .ok (.ireturn, 1) := by decide +kernel
theorem dX10_worthOf_58 : decode cX10_worthOf 58 = .ok (.iconst 2, 1) := by decide +kernel
theorem dX10_worthOf_59 : decode cX10_worthOf 59 = .ok (.iload_n 2, 1) := by decide +kernel
theorem dX10_worthOf_60 : decode cX10_worthOf 60 = .ok (.bipush 20, 2) := by decide +kernel
theorem dX10_worthOf_62 : decode cX10_worthOf 62 = .ok (.iadd, 1) := by decide +kernel
theorem dX10_worthOf_63 : decode cX10_worthOf 63 = .ok (.imul, 1) := by decide +kernel
theorem dX10_worthOf_64 : decode cX10_worthOf 64 = .ok (.ireturn, 1) := by decide +kernel
theorem dX10_worthOf_65 : decode cX10_worthOf 65 = .ok (.bipush 25, 2) := by decide +kernel
theorem dX10_worthOf_67 : decode cX10_worthOf 67 = .ok (.iload_n 2, 1) := by decide +kernel
theorem dX10_worthOf_68 : decode cX10_worthOf 68 = .ok (.isub, 1) := by decide +kernel
theorem dX10_worthOf_69 : decode cX10_worthOf 69 = .ok (.ireturn, 1) := by decide +kernel
theorem dX10_worthOf_70 : decode cX10_worthOf 70 = .ok (.iconst 2, 1) := by decide +kernel
theorem dX10_worthOf_71 : decode cX10_worthOf 71 = .ok (.ireturn, 1) := by decide +kernel
theorem dX10_worthOf_72 : decode cX10_worthOf 72 = .ok (.iload_n 2, 1) := by decide +kernel
theorem dX10_worthOf_73 : decode cX10_worthOf 73 = .ok (.ireturn, 1) := by decide +kernel
theorem dX10_told_0 : decode cX10_told 0 = .ok (.aload_n 0, 1) := by decide +kernel
theorem dX10_told_1 : decode cX10_told 1 = .ok (.iload_n 1, 1) := by decide +kernel
theorem dX10_told_2 : decode cX10_told 2 = .ok (.invokevirtual 127, 3) := by decide +kernel
theorem dX10_told_5 : decode cX10_told 5 = .ok (.ifCond .ne 6, 3) := by decide +kernel
theorem dX10_told_8 : decode cX10_told 8 = .ok (.ldc 95, 2) := by decide +kernel
theorem dX10_told_10 : decode cX10_told 10 = .ok (.ireturn, 1) := by decide +kernel
theorem dX10_told_11 : decode cX10_told 11 = .ok (.iload_n 2, 1) := by decide +kernel
theorem dX10_told_12 : decode cX10_told 12 = .ok (.tableswitch 73 0 7 #[48, 48, 48, 48, 48, 55, 61, 67], 48) := by decide +kernel
theorem dX10_told_60 : decode cX10_told 60 = .ok (.aload_n 0, 1) := by decide +kernel
theorem dX10_told_61 : decode cX10_told 61 = .ok (.iload_n 1, 1) := by decide +kernel
theorem dX10_told_62 : decode cX10_told 62 = .ok (.iload_n 2, 1) := by decide +kernel
theorem dX10_told_63 : decode cX10_told 63 = .ok (.invokevirtual 101, 3) := by decide +kernel
theorem dX10_told_66 : decode cX10_told 66 = .ok (.ireturn, 1) := by decide +kernel
theorem dX10_told_67 : decode cX10_told 67 = .ok (.aload_n 0, 1) := by decide +kernel
theorem dX10_told_68 : decode cX10_told 68 = .ok (.iload_n 1, 1) := by decide +kernel
theorem dX10_told_69 : decode cX10_told 69 = .ok (.invokevirtual 122, 3) := by decide +kernel
theorem dX10_told_72 : decode cX10_told 72 = .ok (.ireturn, 1) := by decide +kernel
theorem dX10_told_73 : decode cX10_told 73 = .ok (.aload_n 0, 1) := by decide +kernel
theorem dX10_told_74 : decode cX10_told 74 = .ok (.iload_n 1, 1) := by decide +kernel
theorem dX10_told_75 : decode cX10_told 75 = .ok (.invokevirtual 130, 3) := by decide +kernel
theorem dX10_told_78 : decode cX10_told 78 = .ok (.ireturn, 1) := by decide +kernel
theorem dX10_told_79 : decode cX10_told 79 = .ok (.aload_n 0, 1) := by decide +kernel
theorem dX10_told_80 : decode cX10_told 80 = .ok (.iload_n 1, 1) := by decide +kernel
theorem dX10_told_81 : decode cX10_told 81 = .ok (.invokevirtual 133, 3) := by decide +kernel
theorem dX10_told_84 : decode cX10_told 84 = .ok (.ireturn, 1) := by decide +kernel
theorem dX10_told_85 : decode cX10_told 85 = .ok (.ldc 95, 2) := by decide +kernel
theorem dX10_told_87 : decode cX10_told 87 = .ok (.ireturn, 1) := by decide +kernel
theorem dX10_isUnder_0 : decode cX10_isUnder 0 = .ok (.iload_n 1, 1) := by decide +kernel
theorem dX10_isUnder_1 : decode cX10_isUnder 1 = .ok (.ifCond .eq 28, 3) := by decide +kernel
theorem dX10_isUnder_4 : decode cX10_isUnder 4 = .ok (.iload_n 0, 1) := by decide +kernel
theorem dX10_isUnder_5 : decode cX10_isUnder 5 = .ok (.iload_n 1, 1) := by decide +kernel
theorem dX10_isUnder_6 : decode cX10_isUnder 6 = .ok (.if_icmp .eq 23, 3) := by decide +kernel
theorem dX10_isUnder_9 : decode cX10_isUnder 9 = .ok (.iload_n 1, 1) := by decide +kernel
theorem dX10_isUnder_10 : decode cX10_isUnder 10 = .ok (.iconst 1, 1) := by decide +kernel
theorem dX10_isUnder_11 : decode cX10_isUnder 11 = .ok (.if_icmp .ne 8, 3) := by decide +kernel
theorem dX10_isUnder_14 : decode cX10_isUnder 14 = .ok (.iload_n 0, 1) := by decide +kernel
theorem dX10_isUnder_15 : decode cX10_isUnder 15 = .ok (.iconst 3, 1) := by decide +kernel
theorem dX10_isUnder_16 : decode cX10_isUnder 16 = .ok (.if_icmp .eq 13, 3) := by decide +kernel
theorem dX10_isUnder_19 : decode cX10_isUnder 19 = .ok (.iload_n 1, 1) := by decide +kernel
theorem dX10_isUnder_20 : decode cX10_isUnder 20 = .ok (.iconst 2, 1) := by decide +kernel
theorem dX10_isUnder_21 : decode cX10_isUnder 21 = .ok (.if_icmp .ne 12, 3) := by decide +kernel
theorem dX10_isUnder_24 : decode cX10_isUnder 24 = .ok (.iload_n 0, 1) := by decide +kernel
theorem dX10_isUnder_25 : decode cX10_isUnder 25 = .ok (.iconst 4, 1) := by decide +kernel
theorem dX10_isUnder_26 : decode cX10_isUnder 26 = .ok (.if_icmp .ne 7, 3) := by decide +kernel
theorem dX10_isUnder_29 : decode cX10_isUnder 29 = .ok (.iconst 1, 1) := by decide +kernel
theorem dX10_isUnder_30 : decode cX10_isUnder 30 = .ok (.goto 4, 3) := by decide +kernel
theorem dX10_isUnder_33 : decode cX10_isUnder 33 = .ok (.iconst 0, 1) := by decide +kernel
theorem dX10_isUnder_34 : decode cX10_isUnder 34 = .ok (.ireturn, 1) := by decide +kernel
theorem dX10_as_0 : decode cX10_as 0 = .ok (.aload_n 0, 1) := by decide +kernel
theorem dX10_as_1 : decode cX10_as 1 = .ok (.iload_n 1, 1) := by decide +kernel
theorem dX10_as_2 : decode cX10_as 2 = .ok (.invokevirtual 127, 3) := by decide +kernel
theorem dX10_as_5 : decode cX10_as 5 = .ok (.ifCond .eq 12, 3) := by decide +kernel
theorem dX10_as_8 : decode cX10_as 8 = .ok (.iload_n 2, 1) := by decide +kernel
theorem dX10_as_9 : decode cX10_as 9 = .ok (.iconst 0, 1) := by decide +kernel
theorem dX10_as_10 : decode cX10_as 10 = .ok (.iconst 5, 1) := by decide +kernel
theorem dX10_as_11 : decode cX10_as 11 = .ok (.invokestatic 87, 3) := by decide +kernel
theorem dX10_as_14 : decode cX10_as 14 = .ok (.ifCond .ne 6, 3) := by decide +kernel
theorem dX10_as_17 : decode cX10_as 17 = .ok (.ldc 95, 2) := by decide +kernel
theorem dX10_as_19 : decode cX10_as 19 = .ok (.ireturn, 1) := by decide +kernel
theorem dX10_as_20 : decode cX10_as 20 = .ok (.aload_n 0, 1) := by decide +kernel
theorem dX10_as_21 : decode cX10_as 21 = .ok (.iload_n 1, 1) := by decide +kernel
theorem dX10_as_22 : decode cX10_as 22 = .ok (.iconst 0, 1) := by decide +kernel
theorem dX10_as_23 : decode cX10_as 23 = .ok (.invokevirtual 101, 3) := by decide +kernel
theorem dX10_as_26 : decode cX10_as 26 = .ok (.iload_n 2, 1) := by decide +kernel
theorem dX10_as_27 : decode cX10_as 27 = .ok (.invokestatic 136, 3) := by decide +kernel
theorem dX10_as_30 : decode cX10_as 30 = .ok (.ifCond .eq 12, 3) := by decide +kernel
theorem dX10_as_33 : decode cX10_as 33 = .ok (.aload_n 0, 1) := by decide +kernel
theorem dX10_as_34 : decode cX10_as 34 = .ok (.iload_n 1, 1) := by decide +kernel
theorem dX10_as_35 : decode cX10_as 35 = .ok (.iconst 3, 1) := by decide +kernel
theorem dX10_as_36 : decode cX10_as 36 = .ok (.invokevirtual 101, 3) := by decide +kernel
theorem dX10_as_39 : decode cX10_as 39 = .ok (.goto 5, 3) := by decide +kernel
theorem dX10_as_42 : decode cX10_as 42 = .ok (.ldc 140, 2) := by decide +kernel
theorem dX10_as_44 : decode cX10_as 44 = .ok (.ireturn, 1) := by decide +kernel
theorem dX10_turns_0 : decode cX10_turns 0 = .ok (.aload_n 0, 1) := by decide +kernel
theorem dX10_turns_1 : decode cX10_turns 1 = .ok (.iload_n 1, 1) := by decide +kernel
theorem dX10_turns_2 : decode cX10_turns 2 = .ok (.invokevirtual 127, 3) := by decide +kernel
theorem dX10_turns_5 : decode cX10_turns 5 = .ok (.ifCond .eq 26, 3) := by decide +kernel
theorem dX10_turns_8 : decode cX10_turns 8 = .ok (.iload_n 2, 1) := by decide +kernel
theorem dX10_turns_9 : decode cX10_turns 9 = .ok (.iconst 0, 1) := by decide +kernel
theorem dX10_turns_10 : decode cX10_turns 10 = .ok (.iconst 5, 1) := by decide +kernel
theorem dX10_turns_11 : decode cX10_turns 11 = .ok (.invokestatic 87, 3) := by decide +kernel
theorem dX10_turns_14 : decode cX10_turns 14 = .ok (.ifCond .eq 17, 3) := by decide +kernel
theorem dX10_turns_17 : decode cX10_turns 17 = .ok (.aload_n 0, 1) := by decide +kernel
theorem dX10_turns_18 : decode cX10_turns 18 = .ok (.bipush 38, 2) := by decide +kernel
theorem dX10_turns_20 : decode cX10_turns 20 = .ok (.iconst 5, 1) := by decide +kernel
theorem dX10_turns_21 : decode cX10_turns 21 = .ok (.iload_n 1, 1) := by decide +kernel
theorem dX10_turns_22 : decode cX10_turns 22 = .ok (.imul, 1) := by decide +kernel
theorem dX10_turns_23 : decode cX10_turns 23 = .ok (.iadd, 1) := by decide +kernel
theorem dX10_turns_24 : decode cX10_turns 24 = .ok (.iload_n 2, 1) := by decide +kernel
theorem dX10_turns_25 : decode cX10_turns 25 = .ok (.invokevirtual 141, 3) := by decide +kernel
theorem dX10_turns_28 : decode cX10_turns 28 = .ok (.goto 5, 3) := by decide +kernel
theorem dX10_turns_31 : decode cX10_turns 31 = .ok (.ldc 95, 2) := by decide +kernel
theorem dX10_turns_33 : decode cX10_turns 33 = .ok (.ireturn, 1) := by decide +kernel
theorem dX10_open_0 : decode cX10_open 0 = .ok (.aload_n 0, 1) := by decide +kernel
theorem dX10_open_1 : decode cX10_open 1 = .ok (.iload_n 1, 1) := by decide +kernel
theorem dX10_open_2 : decode cX10_open 2 = .ok (.invokevirtual 127, 3) := by decide +kernel
theorem dX10_open_5 : decode cX10_open 5 = .ok (.ifCond .eq 28, 3) := by decide +kernel
theorem dX10_open_8 : decode cX10_open 8 = .ok (.iload_n 2, 1) := by decide +kernel
theorem dX10_open_9 : decode cX10_open 9 = .ok (.iconst 0, 1) := by decide +kernel
theorem dX10_open_10 : decode cX10_open 10 = .ok (.iconst 1, 1) := by decide +kernel
theorem dX10_open_11 : decode cX10_open 11 = .ok (.invokestatic 87, 3) := by decide +kernel
theorem dX10_open_14 : decode cX10_open 14 = .ok (.ifCond .eq 19, 3) := by decide +kernel
theorem dX10_open_17 : decode cX10_open 17 = .ok (.aload_n 0, 1) := by decide +kernel
theorem dX10_open_18 : decode cX10_open 18 = .ok (.bipush 38, 2) := by decide +kernel
theorem dX10_open_20 : decode cX10_open 20 = .ok (.iconst 5, 1) := by decide +kernel
theorem dX10_open_21 : decode cX10_open 21 = .ok (.iload_n 1, 1) := by decide +kernel
theorem dX10_open_22 : decode cX10_open 22 = .ok (.imul, 1) := by decide +kernel
theorem dX10_open_23 : decode cX10_open 23 = .ok (.iadd, 1) := by decide +kernel
theorem dX10_open_24 : decode cX10_open 24 = .ok (.iconst 4, 1) := by decide +kernel
theorem dX10_open_25 : decode cX10_open 25 = .ok (.iadd, 1) := by decide +kernel
theorem dX10_open_26 : decode cX10_open 26 = .ok (.iload_n 2, 1) := by decide +kernel
theorem dX10_open_27 : decode cX10_open 27 = .ok (.invokevirtual 141, 3) := by decide +kernel
theorem dX10_open_30 : decode cX10_open 30 = .ok (.goto 5, 3) := by decide +kernel
theorem dX10_open_33 : decode cX10_open 33 = .ok (.ldc 95, 2) := by decide +kernel
theorem dX10_open_35 : decode cX10_open 35 = .ok (.ireturn, 1) := by decide +kernel
theorem dX10_findFlows_0 : decode cX10_findFlows 0 = .ok (.iconst 0, 1) := by decide +kernel
theorem dX10_findFlows_1 : decode cX10_findFlows 1 = .ok (.istore_n 1, 1) := by decide +kernel
theorem dX10_findFlows_2 : decode cX10_findFlows 2 = .ok (.iload_n 1, 1) := by decide +kernel
theorem dX10_findFlows_3 : decode cX10_findFlows 3 = .ok (.bipush 9, 2) := by decide +kernel
theorem dX10_findFlows_5 : decode cX10_findFlows 5 = .ok (.if_icmp .ge 16, 3) := by decide +kernel
theorem dX10_findFlows_8 : decode cX10_findFlows 8 = .ok (.aload_n 0, 1) := by decide +kernel
theorem dX10_findFlows_9 : decode cX10_findFlows 9 = .ok (.getfield 22, 3) := by decide +kernel
theorem dX10_findFlows_12 : decode cX10_findFlows 12 = .ok (.iload_n 1, 1) := by decide +kernel
theorem dX10_findFlows_13 : decode cX10_findFlows 13 = .ok (.iconst 0, 1) := by decide +kernel
theorem dX10_findFlows_14 : decode cX10_findFlows 14 = .ok (.iastore, 1) := by decide +kernel
theorem dX10_findFlows_15 : decode cX10_findFlows 15 = .ok (.iinc 1 1, 3) := by decide +kernel
theorem dX10_findFlows_18 : decode cX10_findFlows 18 = .ok (.goto (-16), 3) := by decide +kernel
theorem dX10_findFlows_21 : decode cX10_findFlows 21 = .ok (.iconst 0, 1) := by decide +kernel
theorem dX10_findFlows_22 : decode cX10_findFlows 22 = .ok (.istore_n 1, 1) := by decide +kernel
theorem dX10_findFlows_23 : decode cX10_findFlows 23 = .ok (.iload_n 1, 1) := by decide +kernel
theorem dX10_findFlows_24 : decode cX10_findFlows 24 = .ok (.aload_n 0, 1) := by decide +kernel
theorem dX10_findFlows_25 : decode cX10_findFlows 25 = .ok (.getfield 9, 3) := by decide +kernel
theorem dX10_findFlows_28 : decode cX10_findFlows 28 = .ok (.iconst 1, 1) := by decide +kernel
theorem dX10_findFlows_29 : decode cX10_findFlows 29 = .ok (.iaload, 1) := by decide +kernel
theorem dX10_findFlows_30 : decode cX10_findFlows 30 = .ok (.if_icmp .ge 76, 3) := by decide +kernel
theorem dX10_findFlows_33 : decode cX10_findFlows 33 = .ok (.aload_n 0, 1) := by decide +kernel
theorem dX10_findFlows_34 : decode cX10_findFlows 34 = .ok (.getfield 19, 3) := by decide +kernel
theorem dX10_findFlows_37 : decode cX10_findFlows 37 = .ok (.iload_n 1, 1) := by decide +kernel
theorem dX10_findFlows_38 : decode cX10_findFlows 38 = .ok (.aload_n 0, 1) := by decide +kernel
theorem dX10_findFlows_39 : decode cX10_findFlows 39 = .ok (.iload_n 1, 1) := by decide +kernel
theorem dX10_findFlows_40 : decode cX10_findFlows 40 = .ok (.invokevirtual 130, 3) := by decide +kernel
theorem dX10_findFlows_43 : decode cX10_findFlows 43 = .ok (.iastore, 1) := by decide +kernel
theorem dX10_findFlows_44 : decode cX10_findFlows 44 = .ok (.aload_n 0, 1) := by decide +kernel
theorem dX10_findFlows_45 : decode cX10_findFlows 45 = .ok (.getfield 19, 3) := by decide +kernel
theorem dX10_findFlows_48 : decode cX10_findFlows 48 = .ok (.iload_n 1, 1) := by decide +kernel
theorem dX10_findFlows_49 : decode cX10_findFlows 49 = .ok (.iaload, 1) := by decide +kernel
theorem dX10_findFlows_50 : decode cX10_findFlows 50 = .ok (.ifCond .ge 13, 3) := by decide +kernel
theorem dX10_findFlows_53 : decode cX10_findFlows 53 = .ok (.aload_n 0, 1) := by decide +kernel
theorem dX10_findFlows_54 : decode cX10_findFlows 54 = .ok (.getfield 19, 3) := by decide +kernel
theorem dX10_findFlows_57 : decode cX10_findFlows 57 = .ok (.iload_n 1, 1) := by decide +kernel
theorem dX10_findFlows_58 : decode cX10_findFlows 58 = .ok (.iaload, 1) := by decide +kernel
theorem dX10_findFlows_59 : decode cX10_findFlows 59 = .ok (.ineg, 1) := by decide +kernel
theorem dX10_findFlows_60 : decode cX10_findFlows 60 = .ok (.goto 9, 3) := by decide +kernel
theorem dX10_findFlows_63 : decode cX10_findFlows 63 = .ok (.aload_n 0, 1) := by decide +kernel
theorem dX10_findFlows_64 : decode cX10_findFlows 64 = .ok (.getfield 19, 3) := by decide +kernel
theorem dX10_findFlows_67 : decode cX10_findFlows 67 = .ok (.iload_n 1, 1) := by decide +kernel
theorem dX10_findFlows_68 : decode cX10_findFlows 68 = .ok (.iaload, 1) := by decide +kernel
theorem dX10_findFlows_69 : decode cX10_findFlows 69 = .ok (.istore_n 2, 1) := by decide +kernel
theorem dX10_findFlows_70 : decode cX10_findFlows 70 = .ok (.aload_n 0, 1) := by decide +kernel
theorem dX10_findFlows_71 : decode cX10_findFlows 71 = .ok (.getfield 22, 3) := by decide +kernel
theorem dX10_findFlows_74 : decode cX10_findFlows 74 = .ok (.aload_n 0, 1) := by decide +kernel
theorem dX10_findFlows_75 : decode cX10_findFlows 75 = .ok (.iload_n 1, 1) := by decide +kernel
theorem dX10_findFlows_76 : decode cX10_findFlows 76 = .ok (.iconst 1, 1) := by decide +kernel
theorem dX10_findFlows_77 : decode cX10_findFlows 77 = .ok (.invokevirtual 101, 3) := by decide +kernel
theorem dX10_findFlows_80 : decode cX10_findFlows 80 = .ok (.dup2, 1) := by decide +kernel
theorem dX10_findFlows_81 : decode cX10_findFlows 81 = .ok (.iaload, 1) := by decide +kernel
theorem dX10_findFlows_82 : decode cX10_findFlows 82 = .ok (.iload_n 2, 1) := by decide +kernel
theorem dX10_findFlows_83 : decode cX10_findFlows 83 = .ok (.iadd, 1) := by decide +kernel
theorem dX10_findFlows_84 : decode cX10_findFlows 84 = .ok (.iastore, 1) := by decide +kernel
theorem dX10_findFlows_85 : decode cX10_findFlows 85 = .ok (.aload_n 0, 1) := by decide +kernel
theorem dX10_findFlows_86 : decode cX10_findFlows 86 = .ok (.getfield 22, 3) := by decide +kernel
theorem dX10_findFlows_89 : decode cX10_findFlows 89 = .ok (.aload_n 0, 1) := by decide +kernel
theorem dX10_findFlows_90 : decode cX10_findFlows 90 = .ok (.iload_n 1, 1) := by decide +kernel
theorem dX10_findFlows_91 : decode cX10_findFlows 91 = .ok (.iconst 2, 1) := by decide +kernel
theorem dX10_findFlows_92 : decode cX10_findFlows 92 = .ok (.invokevirtual 101, 3) := by decide +kernel
theorem dX10_findFlows_95 : decode cX10_findFlows 95 = .ok (.dup2, 1) := by decide +kernel
theorem dX10_findFlows_96 : decode cX10_findFlows 96 = .ok (.iaload, 1) := by decide +kernel
theorem dX10_findFlows_97 : decode cX10_findFlows 97 = .ok (.iload_n 2, 1) := by decide +kernel
theorem dX10_findFlows_98 : decode cX10_findFlows 98 = .ok (.iadd, 1) := by decide +kernel
theorem dX10_findFlows_99 : decode cX10_findFlows 99 = .ok (.iastore, 1) := by decide +kernel
theorem dX10_findFlows_100 : decode cX10_findFlows 100 = .ok (.iinc 1 1, 3) := by decide +kernel
theorem dX10_findFlows_103 : decode cX10_findFlows 103 = .ok (.goto (-80), 3) := by decide +kernel
theorem dX10_findFlows_106 : decode cX10_findFlows 106 = .ok (.return_, 1) := by decide +kernel
theorem dX10_room_0 : decode cX10_room 0 = .ok (.iload_n 1, 1) := by decide +kernel
theorem dX10_room_1 : decode cX10_room 1 = .ok (.invokestatic 91, 3) := by decide +kernel
theorem dX10_room_4 : decode cX10_room 4 = .ok (.ifCond .eq 12, 3) := by decide +kernel
theorem dX10_room_7 : decode cX10_room 7 = .ok (.iload_n 2, 1) := by decide +kernel
theorem dX10_room_8 : decode cX10_room 8 = .ok (.iconst 0, 1) := by decide +kernel
theorem dX10_room_9 : decode cX10_room 9 = .ok (.iconst 4, 1) := by decide +kernel
theorem dX10_room_10 : decode cX10_room 10 = .ok (.invokestatic 87, 3) := by decide +kernel
theorem dX10_room_13 : decode cX10_room 13 = .ok (.ifCond .ne 6, 3) := by decide +kernel
theorem dX10_room_16 : decode cX10_room 16 = .ok (.ldc 95, 2) := by decide +kernel
theorem dX10_room_18 : decode cX10_room 18 = .ok (.ireturn, 1) := by decide +kernel
theorem dX10_room_19 : decode cX10_room 19 = .ok (.iload_n 2, 1) := by decide +kernel
theorem dX10_room_20 : decode cX10_room 20 = .ok (.iconst 4, 1) := by decide +kernel
theorem dX10_room_21 : decode cX10_room 21 = .ok (.if_icmp .ge 10, 3) := by decide +kernel
theorem dX10_room_24 : decode cX10_room 24 = .ok (.aload_n 0, 1) := by decide +kernel
theorem dX10_room_25 : decode cX10_room 25 = .ok (.iload_n 1, 1) := by decide +kernel
theorem dX10_room_26 : decode cX10_room 26 = .ok (.iload_n 2, 1) := by decide +kernel
theorem dX10_room_27 : decode cX10_room 27 = .ok (.invokevirtual 116, 3) := by decide +kernel
theorem dX10_room_30 : decode cX10_room 30 = .ok (.ireturn, 1) := by decide +kernel
theorem dX10_room_31 : decode cX10_room 31 = .ok (.aload_n 0, 1) := by decide +kernel
theorem dX10_room_32 : decode cX10_room 32 = .ok (.invokevirtual 144, 3) := by decide +kernel
theorem dX10_room_35 : decode cX10_room 35 = .ok (.aload_n 0, 1) := by decide +kernel
theorem dX10_room_36 : decode cX10_room 36 = .ok (.getfield 22, 3) := by decide +kernel
theorem dX10_room_39 : decode cX10_room 39 = .ok (.iload_n 1, 1) := by decide +kernel
theorem dX10_room_40 : decode cX10_room 40 = .ok (.iaload, 1) := by decide +kernel
theorem dX10_room_41 : decode cX10_room 41 = .ok (.ireturn, 1) := by decide +kernel
theorem dX10_set_0 : decode cX10_set 0 = .ok (.iload_n 1, 1) := by decide +kernel
theorem dX10_set_1 : decode cX10_set 1 = .ok (.invokestatic 91, 3) := by decide +kernel
theorem dX10_set_4 : decode cX10_set 4 = .ok (.ifCond .eq 42, 3) := by decide +kernel
theorem dX10_set_7 : decode cX10_set 7 = .ok (.iload_n 2, 1) := by decide +kernel
theorem dX10_set_8 : decode cX10_set 8 = .ok (.iconst 0, 1) := by decide +kernel
theorem dX10_set_9 : decode cX10_set 9 = .ok (.iconst 3, 1) := by decide +kernel
theorem dX10_set_10 : decode cX10_set 10 = .ok (.invokestatic 87, 3) := by decide +kernel
theorem dX10_set_13 : decode cX10_set 13 = .ok (.ifCond .eq 33, 3) := by decide +kernel
theorem dX10_set_16 : decode cX10_set 16 = .ok (.iload_n 3, 1) := by decide +kernel
theorem dX10_set_17 : decode cX10_set 17 = .ok (.iconst 0, 1) := by decide +kernel
theorem dX10_set_18 : decode cX10_set 18 = .ok (.iload_n 2, 1) := by decide +kernel
theorem dX10_set_19 : decode cX10_set 19 = .ok (.iconst 1, 1) := by decide +kernel
theorem dX10_set_20 : decode cX10_set 20 = .ok (.if_icmp .ne 8, 3) := by decide +kernel
theorem dX10_set_23 : decode cX10_set 23 = .ok (.bipush 9, 2) := by decide +kernel
theorem dX10_set_25 : decode cX10_set 25 = .ok (.goto 15, 3) := by decide +kernel
theorem dX10_set_28 : decode cX10_set 28 = .ok (.iload_n 2, 1) := by decide +kernel
theorem dX10_set_29 : decode cX10_set 29 = .ok (.iconst 3, 1) := by decide +kernel
theorem dX10_set_30 : decode cX10_set 30 = .ok (.if_icmp .ne 7, 3) := by decide +kernel
theorem dX10_set_33 : decode cX10_set 33 = .ok (.iconst 1, 1) := by decide +kernel
theorem dX10_set_34 : decode cX10_set 34 = .ok (.goto 6, 3) := by decide +kernel
theorem dX10_set_37 : decode cX10_set 37 = .ok (.sipush 9999, 3) := by decide +kernel
theorem dX10_set_40 : decode cX10_set 40 = .ok (.invokestatic 87, 3) := by decide +kernel
theorem dX10_set_43 : decode cX10_set 43 = .ok (.ifCond .ne 6, 3) := by decide +kernel
theorem dX10_set_46 : decode cX10_set 46 = .ok (.ldc 95, 2) := by decide +kernel
theorem dX10_set_48 : decode cX10_set 48 = .ok (.ireturn, 1) := by decide +kernel
theorem dX10_set_49 : decode cX10_set 49 = .ok (.aload_n 0, 1) := by decide +kernel
theorem dX10_set_50 : decode cX10_set 50 = .ok (.bipush 6, 2) := by decide +kernel
theorem dX10_set_52 : decode cX10_set 52 = .ok (.iconst 4, 1) := by decide +kernel
theorem dX10_set_53 : decode cX10_set 53 = .ok (.iload_n 1, 1) := by decide +kernel
theorem dX10_set_54 : decode cX10_set 54 = .ok (.imul, 1) := by decide +kernel
theorem dX10_set_55 : decode cX10_set 55 = .ok (.iadd, 1) := by decide +kernel
theorem dX10_set_56 : decode cX10_set 56 = .ok (.iload_n 2, 1) := by decide +kernel
theorem dX10_set_57 : decode cX10_set 57 = .ok (.iadd, 1) := by decide +kernel
theorem dX10_set_58 : decode cX10_set 58 = .ok (.iload_n 3, 1) := by decide +kernel
theorem dX10_set_59 : decode cX10_set 59 = .ok (.invokevirtual 141, 3) := by decide +kernel
theorem dX10_set_62 : decode cX10_set 62 = .ok (.ireturn, 1) := by decide +kernel
theorem dX10_wind_0 : decode cX10_wind 0 = .ok (.iload_n 1, 1) := by decide +kernel
theorem dX10_wind_1 : decode cX10_wind 1 = .ok (.iconst 0, 1) := by decide +kernel
theorem dX10_wind_2 : decode cX10_wind 2 = .ok (.sipush 9999, 3) := by decide +kernel
theorem dX10_wind_5 : decode cX10_wind 5 = .ok (.invokestatic 87, 3) := by decide +kernel
theorem dX10_wind_8 : decode cX10_wind 8 = .ok (.ifCond .eq 12, 3) := by decide +kernel
theorem dX10_wind_11 : decode cX10_wind 11 = .ok (.aload_n 0, 1) := by decide +kernel
theorem dX10_wind_12 : decode cX10_wind 12 = .ok (.iconst 3, 1) := by decide +kernel
theorem dX10_wind_13 : decode cX10_wind 13 = .ok (.iload_n 1, 1) := by decide +kernel
theorem dX10_wind_14 : decode cX10_wind 14 = .ok (.invokevirtual 141, 3) := by decide +kernel
theorem dX10_wind_17 : decode cX10_wind 17 = .ok (.goto 5, 3) := by decide +kernel
theorem dX10_wind_20 : decode cX10_wind 20 = .ok (.ldc 95, 2) := by decide +kernel
theorem dX10_wind_22 : decode cX10_wind 22 = .ok (.ireturn, 1) := by decide +kernel
theorem dX10_draw_0 : decode cX10_draw 0 = .ok (.aload_n 0, 1) := by decide +kernel
theorem dX10_draw_1 : decode cX10_draw 1 = .ok (.getfield 9, 3) := by decide +kernel
theorem dX10_draw_4 : decode cX10_draw 4 = .ok (.iconst 0, 1) := by decide +kernel
theorem dX10_draw_5 : decode cX10_draw 5 = .ok (.aload_n 0, 1) := by decide +kernel
theorem dX10_draw_6 : decode cX10_draw 6 = .ok (.getfield 9, 3) := by decide +kernel
theorem dX10_draw_9 : decode cX10_draw 9 = .ok (.iconst 0, 1) := by decide +kernel
theorem dX10_draw_10 : decode cX10_draw 10 = .ok (.iaload, 1) := by decide +kernel
theorem dX10_draw_11 : decode cX10_draw 11 = .ok (.ldc 147, 2) := by decide +kernel
theorem dX10_draw_13 : decode cX10_draw 13 = .ok (.imul, 1) := by decide +kernel
theorem dX10_draw_14 : decode cX10_draw 14 = .ok (.sipush 12345, 3) := by decide +kernel
theorem dX10_draw_17 : decode cX10_draw 17 = .ok (.iadd, 1) := by decide +kernel
theorem dX10_draw_18 : decode cX10_draw 18 = .ok (.iastore, 1) := by decide +kernel
theorem dX10_draw_19 : decode cX10_draw 19 = .ok (.aload_n 0, 1) := by decide +kernel
theorem dX10_draw_20 : decode cX10_draw 20 = .ok (.getfield 9, 3) := by decide +kernel
theorem dX10_draw_23 : decode cX10_draw 23 = .ok (.iconst 0, 1) := by decide +kernel
theorem dX10_draw_24 : decode cX10_draw 24 = .ok (.iaload, 1) := by decide +kernel
theorem dX10_draw_25 : decode cX10_draw 25 = .ok (.bipush 8, 2) := by decide +kernel
theorem dX10_draw_27 : decode cX10_draw 27 = .ok (.iushr, 1) := by decide +kernel
theorem dX10_draw_28 : decode cX10_draw 28 = .ok (.ireturn, 1) := by decide +kernel
theorem dX10_deal_0 : decode cX10_deal 0 = .ok (.iload_n 1, 1) := by decide +kernel
theorem dX10_deal_1 : decode cX10_deal 1 = .ok (.iconst 1, 1) := by decide +kernel
theorem dX10_deal_2 : decode cX10_deal 2 = .ok (.bipush 10, 2) := by decide +kernel
theorem dX10_deal_4 : decode cX10_deal 4 = .ok (.invokestatic 87, 3) := by decide +kernel
theorem dX10_deal_7 : decode cX10_deal 7 = .ok (.ifCond .ne 6, 3) := by decide +kernel
theorem dX10_deal_10 : decode cX10_deal 10 = .ok (.ldc 95, 2) := by decide +kernel
theorem dX10_deal_12 : decode cX10_deal 12 = .ok (.ireturn, 1) := by decide +kernel
theorem dX10_deal_13 : decode cX10_deal 13 = .ok (.iconst 0, 1) := by decide +kernel
theorem dX10_deal_14 : decode cX10_deal 14 = .ok (.istore_n 2, 1) := by decide +kernel
theorem dX10_deal_15 : decode cX10_deal 15 = .ok (.iload_n 2, 1) := by decide +kernel
theorem dX10_deal_16 : decode cX10_deal 16 = .ok (.iload_n 1, 1) := by decide +kernel
theorem dX10_deal_17 : decode cX10_deal 17 = .ok (.if_icmp .ge 75, 3) := by decide +kernel
theorem dX10_deal_20 : decode cX10_deal 20 = .ok (.aload_n 0, 1) := by decide +kernel
theorem dX10_deal_21 : decode cX10_deal 21 = .ok (.getfield 9, 3) := by decide +kernel
theorem dX10_deal_24 : decode cX10_deal 24 = .ok (.iconst 1, 1) := by decide +kernel
theorem dX10_deal_25 : decode cX10_deal 25 = .ok (.iaload, 1) := by decide +kernel
theorem dX10_deal_26 : decode cX10_deal 26 = .ok (.bipush 10, 2) := by decide +kernel
theorem dX10_deal_28 : decode cX10_deal 28 = .ok (.if_icmp .ge 64, 3) := by decide +kernel
theorem dX10_deal_31 : decode cX10_deal 31 = .ok (.aload_n 0, 1) := by decide +kernel
theorem dX10_deal_32 : decode cX10_deal 32 = .ok (.invokevirtual 148, 3) := by decide +kernel
theorem dX10_deal_35 : decode cX10_deal 35 = .ok (.bipush 6, 2) := by decide +kernel
theorem dX10_deal_37 : decode cX10_deal 37 = .ok (.irem, 1) := by decide +kernel
theorem dX10_deal_38 : decode cX10_deal 38 = .ok (.istore_n 3, 1) := by decide +kernel
theorem dX10_deal_39 : decode cX10_deal 39 = .ok (.aload_n 0, 1) := by decide +kernel
theorem dX10_deal_40 : decode cX10_deal 40 = .ok (.invokevirtual 148, 3) := by decide +kernel
theorem dX10_deal_43 : decode cX10_deal 43 = .ok (.bipush 8, 2) := by decide +kernel
theorem dX10_deal_45 : decode cX10_deal 45 = .ok (.irem, 1) := by decide +kernel
theorem dX10_deal_46 : decode cX10_deal 46 = .ok (.istore 4, 2) := by decide +kernel
theorem dX10_deal_48 : decode cX10_deal 48 = .ok (.iload 4, 2) := by decide +kernel
theorem dX10_deal_50 : decode cX10_deal 50 = .ok (.iconst 1, 1) := by decide +kernel
theorem dX10_deal_51 : decode cX10_deal 51 = .ok (.iadd, 1) := by decide +kernel
theorem dX10_deal_52 : decode cX10_deal 52 = .ok (.aload_n 0, 1) := by decide +kernel
theorem dX10_deal_53 : decode cX10_deal 53 = .ok (.invokevirtual 148, 3) := by decide +kernel
theorem dX10_deal_56 : decode cX10_deal 56 = .ok (.bipush 8, 2) := by decide +kernel
theorem dX10_deal_58 : decode cX10_deal 58 = .ok (.irem, 1) := by decide +kernel
theorem dX10_deal_59 : decode cX10_deal 59 = .ok (.iadd, 1) := by decide +kernel
theorem dX10_deal_60 : decode cX10_deal 60 = .ok (.bipush 9, 2) := by decide +kernel
theorem dX10_deal_62 : decode cX10_deal 62 = .ok (.irem, 1) := by decide +kernel
theorem dX10_deal_63 : decode cX10_deal 63 = .ok (.istore 5, 2) := by decide +kernel
theorem dX10_deal_65 : decode cX10_deal 65 = .ok (.aload_n 0, 1) := by decide +kernel
theorem dX10_deal_66 : decode cX10_deal 66 = .ok (.iload_n 3, 1) := by decide +kernel
theorem dX10_deal_67 : decode cX10_deal 67 = .ok (.iload 4, 2) := by decide +kernel
theorem dX10_deal_69 : decode cX10_deal 69 = .ok (.iload 5, 2) := by decide +kernel
theorem dX10_deal_71 : decode cX10_deal 71 = .ok (.iconst 1, 1) := by decide +kernel
theorem dX10_deal_72 : decode cX10_deal 72 = .ok (.aload_n 0, 1) := by decide +kernel
theorem dX10_deal_73 : decode cX10_deal 73 = .ok (.invokevirtual 148, 3) := by decide +kernel
theorem dX10_deal_76 : decode cX10_deal 76 = .ok (.bipush 9, 2) := by decide +kernel
theorem dX10_deal_78 : decode cX10_deal 78 = .ok (.irem, 1) := by decide +kernel
theorem dX10_deal_79 : decode cX10_deal 79 = .ok (.iadd, 1) := by decide +kernel
theorem dX10_deal_80 : decode cX10_deal 80 = .ok (.iconst 1, 1) := by decide +kernel
theorem dX10_deal_81 : decode cX10_deal 81 = .ok (.invokevirtual 97, 3) := by decide +kernel
theorem dX10_deal_84 : decode cX10_deal 84 = .ok (.istore 6, 2) := by decide +kernel
theorem dX10_deal_86 : decode cX10_deal 86 = .ok (.iinc 2 1, 3) := by decide +kernel
theorem dX10_deal_89 : decode cX10_deal 89 = .ok (.goto (-74), 3) := by decide +kernel
theorem dX10_deal_92 : decode cX10_deal 92 = .ok (.iload_n 2, 1) := by decide +kernel
theorem dX10_deal_93 : decode cX10_deal 93 = .ok (.ireturn, 1) := by decide +kernel
theorem dX10_seed_0 : decode cX10_seed 0 = .ok (.aload_n 0, 1) := by decide +kernel
theorem dX10_seed_1 : decode cX10_seed 1 = .ok (.iconst 0, 1) := by decide +kernel
theorem dX10_seed_2 : decode cX10_seed 2 = .ok (.iload_n 1, 1) := by decide +kernel
theorem dX10_seed_3 : decode cX10_seed 3 = .ok (.invokevirtual 141, 3) := by decide +kernel
theorem dX10_seed_6 : decode cX10_seed 6 = .ok (.ireturn, 1) := by decide +kernel
theorem dX10_carries_0 : decode cX10_carries 0 = .ok (.iconst 0, 1) := by decide +kernel
theorem dX10_carries_1 : decode cX10_carries 1 = .ok (.istore_n 1, 1) := by decide +kernel
theorem dX10_carries_2 : decode cX10_carries 2 = .ok (.iload_n 1, 1) := by decide +kernel
theorem dX10_carries_3 : decode cX10_carries 3 = .ok (.aload_n 0, 1) := by decide +kernel
theorem dX10_carries_4 : decode cX10_carries 4 = .ok (.getfield 9, 3) := by decide +kernel
theorem dX10_carries_7 : decode cX10_carries 7 = .ok (.iconst 1, 1) := by decide +kernel
theorem dX10_carries_8 : decode cX10_carries 8 = .ok (.iaload, 1) := by decide +kernel
theorem dX10_carries_9 : decode cX10_carries 9 = .ok (.if_icmp .ge 209, 3) := by decide +kernel
theorem dX10_carries_12 : decode cX10_carries 12 = .ok (.aload_n 0, 1) := by decide +kernel
theorem dX10_carries_13 : decode cX10_carries 13 = .ok (.getfield 19, 3) := by decide +kernel
theorem dX10_carries_16 : decode cX10_carries 16 = .ok (.iload_n 1, 1) := by decide +kernel
theorem dX10_carries_17 : decode cX10_carries 17 = .ok (.iaload, 1) := by decide +kernel
theorem dX10_carries_18 : decode cX10_carries 18 = .ok (.ifCond .le 12, 3) := by decide +kernel
theorem dX10_carries_21 : decode cX10_carries 21 = .ok (.aload_n 0, 1) := by decide +kernel
theorem dX10_carries_22 : decode cX10_carries 22 = .ok (.iload_n 1, 1) := by decide +kernel
theorem dX10_carries_23 : decode cX10_carries 23 = .ok (.iconst 1, 1) := by decide +kernel
theorem dX10_carries_24 : decode cX10_carries 24 = .ok (.invokevirtual 101, 3) := by decide +kernel
theorem dX10_carries_27 : decode cX10_carries 27 = .ok (.goto 9, 3) := by decide +kernel
theorem dX10_carries_30 : decode cX10_carries 30 = .ok (.aload_n 0, 1) := by decide +kernel
theorem dX10_carries_31 : decode cX10_carries 31 = .ok (.iload_n 1, 1) := by decide +kernel
theorem dX10_carries_32 : decode cX10_carries 32 = .ok (.iconst 2, 1) := by decide +kernel
theorem dX10_carries_33 : decode cX10_carries 33 = .ok (.invokevirtual 101, 3) := by decide +kernel
theorem dX10_carries_36 : decode cX10_carries 36 = .ok (.istore_n 2, 1) := by decide +kernel
theorem dX10_carries_37 : decode cX10_carries 37 = .ok (.aload_n 0, 1) := by decide +kernel
theorem dX10_carries_38 : decode cX10_carries 38 = .ok (.getfield 19, 3) := by decide +kernel
theorem dX10_carries_41 : decode cX10_carries 41 = .ok (.iload_n 1, 1) := by decide +kernel
theorem dX10_carries_42 : decode cX10_carries 42 = .ok (.iaload, 1) := by decide +kernel
theorem dX10_carries_43 : decode cX10_carries 43 = .ok (.ifCond .le 12, 3) := by decide +kernel
theorem dX10_carries_46 : decode cX10_carries 46 = .ok (.aload_n 0, 1) := by decide +kernel
theorem dX10_carries_47 : decode cX10_carries 47 = .ok (.iload_n 1, 1) := by decide +kernel
theorem dX10_carries_48 : decode cX10_carries 48 = .ok (.iconst 2, 1) := by decide +kernel
theorem dX10_carries_49 : decode cX10_carries 49 = .ok (.invokevirtual 101, 3) := by decide +kernel
theorem dX10_carries_52 : decode cX10_carries 52 = .ok (.goto 9, 3) := by decide +kernel
theorem dX10_carries_55 : decode cX10_carries 55 = .ok (.aload_n 0, 1) := by decide +kernel
theorem dX10_carries_56 : decode cX10_carries 56 = .ok (.iload_n 1, 1) := by decide +kernel
theorem dX10_carries_57 : decode cX10_carries 57 = .ok (.iconst 1, 1) := by decide +kernel
theorem dX10_carries_58 : decode cX10_carries 58 = .ok (.invokevirtual 101, 3) := by decide +kernel
theorem dX10_carries_61 : decode cX10_carries 61 = .ok (.istore_n 3, 1) := by decide +kernel
theorem dX10_carries_62 : decode cX10_carries 62 = .ok (.aload_n 0, 1) := by decide +kernel
theorem dX10_carries_63 : decode cX10_carries 63 = .ok (.getfield 19, 3) := by decide +kernel
theorem dX10_carries_66 : decode cX10_carries 66 = .ok (.iload_n 1, 1) := by decide +kernel
theorem dX10_carries_67 : decode cX10_carries 67 = .ok (.iaload, 1) := by decide +kernel
theorem dX10_carries_68 : decode cX10_carries 68 = .ok (.ifCond .eq 144, 3) := by decide +kernel
theorem dX10_carries_71 : decode cX10_carries 71 = .ok (.iload_n 2, 1) := by decide +kernel
theorem dX10_carries_72 : decode cX10_carries 72 = .ok (.bipush 8, 2) := by decide +kernel
theorem dX10_carries_74 : decode cX10_carries 74 = .ok (.if_icmp .ne 6, 3) := by decide +kernel
theorem dX10_carries_77 : decode cX10_carries 77 = .ok (.goto 135, 3) := by decide +kernel
theorem dX10_carries_80 : decode cX10_carries 80 = .ok (.aload_n 0, 1) := by decide +kernel
theorem dX10_carries_81 : decode cX10_carries 81 = .ok (.getfield 19, 3) := by decide +kernel
theorem dX10_carries_84 : decode cX10_carries 84 = .ok (.iload_n 1, 1) := by decide +kernel
theorem dX10_carries_85 : decode cX10_carries 85 = .ok (.iaload, 1) := by decide +kernel
theorem dX10_carries_86 : decode cX10_carries 86 = .ok (.ifCond .ge 14, 3) := by decide +kernel
theorem dX10_carries_89 : decode cX10_carries 89 = .ok (.aload_n 0, 1) := by decide +kernel
theorem dX10_carries_90 : decode cX10_carries 90 = .ok (.getfield 19, 3) := by decide +kernel
theorem dX10_carries_93 : decode cX10_carries 93 = .ok (.iload_n 1, 1) := by decide +kernel
theorem dX10_carries_94 : decode cX10_carries 94 = .ok (.iaload, 1) := by decide +kernel
theorem dX10_carries_95 : decode cX10_carries 95 = .ok (.ineg, 1) := by decide +kernel
theorem dX10_carries_96 : decode cX10_carries 96 = .ok (.i2l, 1) := by decide +kernel
theorem dX10_carries_97 : decode cX10_carries 97 = .ok (.goto 10, 3) := by decide +kernel
theorem dX10_carries_100 : decode cX10_carries 100 = .ok (.aload_n 0, 1) := by decide +kernel
theorem dX10_carries_101 : decode cX10_carries 101 = .ok (.getfield 19, 3) := by decide +kernel
theorem dX10_carries_104 : decode cX10_carries 104 = .ok (.iload_n 1, 1) := by decide +kernel
theorem dX10_carries_105 : decode cX10_carries 105 = .ok (.iaload, 1) := by decide +kernel
theorem dX10_carries_106 : decode cX10_carries 106 = .ok (.i2l, 1) := by decide +kernel
theorem dX10_carries_107 : decode cX10_carries 107 = .ok (.lstore 4, 2) := by decide +kernel
theorem dX10_carries_109 : decode cX10_carries 109 = .ok (.aload_n 0, 1) := by decide +kernel
theorem dX10_carries_110 : decode cX10_carries 110 = .ok (.getfield 25, 3) := by decide +kernel
theorem dX10_carries_113 : decode cX10_carries 113 = .ok (.iload_n 2, 1) := by decide +kernel
theorem dX10_carries_114 : decode cX10_carries 114 = .ok (.iaload, 1) := by decide +kernel
theorem dX10_carries_115 : decode cX10_carries 115 = .ok (.i2l, 1) := by decide +kernel
theorem dX10_carries_116 : decode cX10_carries 116 = .ok (.lload 4, 2) := by decide +kernel
theorem dX10_carries_118 : decode cX10_carries 118 = .ok (.lmul, 1) := by decide +kernel
theorem dX10_carries_119 : decode cX10_carries 119 = .ok (.aload_n 0, 1) := by decide +kernel
theorem dX10_carries_120 : decode cX10_carries 120 = .ok (.getfield 28, 3) := by decide +kernel
theorem dX10_carries_123 : decode cX10_carries 123 = .ok (.iload_n 2, 1) := by decide +kernel
theorem dX10_carries_124 : decode cX10_carries 124 = .ok (.iaload, 1) := by decide +kernel
theorem dX10_carries_125 : decode cX10_carries 125 = .ok (.iconst 1, 1) := by decide +kernel
theorem dX10_carries_126 : decode cX10_carries 126 = .ok (.if_icmp .ge 7, 3) := by decide +kernel
theorem dX10_carries_129 : decode cX10_carries 129 = .ok (.iconst 1, 1) := by decide +kernel
theorem dX10_carries_130 : decode cX10_carries 130 = .ok (.goto 9, 3) := by decide +kernel
theorem dX10_carries_133 : decode cX10_carries 133 = .ok (.aload_n 0, 1) := by decide +kernel
theorem dX10_carries_134 : decode cX10_carries 134 = .ok (.getfield 28, 3) := by decide +kernel
theorem dX10_carries_137 : decode cX10_carries 137 = .ok (.iload_n 2, 1) := by decide +kernel
theorem dX10_carries_138 : decode cX10_carries 138 = .ok (.iaload, 1) := by decide +kernel
theorem dX10_carries_139 : decode cX10_carries 139 = .ok (.i2l, 1) := by decide +kernel
theorem dX10_carries_140 : decode cX10_carries 140 = .ok (.ldiv, 1) := by decide +kernel
theorem dX10_carries_141 : decode cX10_carries 141 = .ok (.lstore 6, 2) := by decide +kernel
theorem dX10_carries_143 : decode cX10_carries 143 = .ok (.aload_n 0, 1) := by decide +kernel
theorem dX10_carries_144 : decode cX10_carries 144 = .ok (.iload_n 2, 1) := by decide +kernel
theorem dX10_carries_145 : decode cX10_carries 145 = .ok (.iconst 2, 1) := by decide +kernel
theorem dX10_carries_146 : decode cX10_carries 146 = .ok (.invokevirtual 116, 3) := by decide +kernel
theorem dX10_carries_149 : decode cX10_carries 149 = .ok (.istore 8, 2) := by decide +kernel
theorem dX10_carries_151 : decode cX10_carries 151 = .ok (.lload 6, 2) := by decide +kernel
theorem dX10_carries_153 : decode cX10_carries 153 = .ok (.iload 8, 2) := by decide +kernel
theorem dX10_carries_155 : decode cX10_carries 155 = .ok (.i2l, 1) := by decide +kernel
theorem dX10_carries_156 : decode cX10_carries 156 = .ok (.lcmp, 1) := by decide +kernel
theorem dX10_carries_157 : decode cX10_carries 157 = .ok (.ifCond .le 8, 3) := by decide +kernel
theorem dX10_carries_160 : decode cX10_carries 160 = .ok (.iload 8, 2) := by decide +kernel
theorem dX10_carries_162 : decode cX10_carries 162 = .ok (.goto 6, 3) := by decide +kernel
theorem dX10_carries_165 : decode cX10_carries 165 = .ok (.lload 6, 2) := by decide +kernel
theorem dX10_carries_167 : decode cX10_carries 167 = .ok (.l2i, 1) := by decide +kernel
theorem dX10_carries_168 : decode cX10_carries 168 = .ok (.istore 9, 2) := by decide +kernel
theorem dX10_carries_170 : decode cX10_carries 170 = .ok (.aload_n 0, 1) := by decide +kernel
theorem dX10_carries_171 : decode cX10_carries 171 = .ok (.getfield 9, 3) := by decide +kernel
theorem dX10_carries_174 : decode cX10_carries 174 = .ok (.bipush 6, 2) := by decide +kernel
theorem dX10_carries_176 : decode cX10_carries 176 = .ok (.iconst 4, 1) := by decide +kernel
theorem dX10_carries_177 : decode cX10_carries 177 = .ok (.iload_n 2, 1) := by decide +kernel
theorem dX10_carries_178 : decode cX10_carries 178 = .ok (.imul, 1) := by decide +kernel
theorem dX10_carries_179 : decode cX10_carries 179 = .ok (.iadd, 1) := by decide +kernel
theorem dX10_carries_180 : decode cX10_carries 180 = .ok (.iconst 2, 1) := by decide +kernel
theorem dX10_carries_181 : decode cX10_carries 181 = .ok (.iadd, 1) := by decide +kernel
theorem dX10_carries_182 : decode cX10_carries 182 = .ok (.dup2, 1) := by decide +kernel
theorem dX10_carries_183 : decode cX10_carries 183 = .ok (.iaload, 1) := by decide +kernel
theorem dX10_carries_184 : decode cX10_carries 184 = .ok (.iload 9, 2) := by decide +kernel
theorem dX10_carries_186 : decode cX10_carries 186 = .ok (.isub, 1) := by decide +kernel
theorem dX10_carries_187 : decode cX10_carries 187 = .ok (.iastore, 1) := by decide +kernel
theorem dX10_carries_188 : decode cX10_carries 188 = .ok (.iload_n 3, 1) := by decide +kernel
theorem dX10_carries_189 : decode cX10_carries 189 = .ok (.bipush 8, 2) := by decide +kernel
theorem dX10_carries_191 : decode cX10_carries 191 = .ok (.if_icmp .ge 21, 3) := by decide +kernel
theorem dX10_carries_194 : decode cX10_carries 194 = .ok (.aload_n 0, 1) := by decide +kernel
theorem dX10_carries_195 : decode cX10_carries 195 = .ok (.getfield 9, 3) := by decide +kernel
theorem dX10_carries_198 : decode cX10_carries 198 = .ok (.bipush 6, 2) := by decide +kernel
theorem dX10_carries_200 : decode cX10_carries 200 = .ok (.iconst 4, 1) := by decide +kernel
theorem dX10_carries_201 : decode cX10_carries 201 = .ok (.iload_n 3, 1) := by decide +kernel
theorem dX10_carries_202 : decode cX10_carries 202 = .ok (.imul, 1) := by decide +kernel
theorem dX10_carries_203 : decode cX10_carries 203 = .ok (.iadd, 1) := by decide +kernel
theorem dX10_carries_204 : decode cX10_carries 204 = .ok (.iconst 2, 1) := by decide +kernel
theorem dX10_carries_205 : decode cX10_carries 205 = .ok (.iadd, 1) := by decide +kernel
theorem dX10_carries_206 : decode cX10_carries 206 = .ok (.dup2, 1) := by decide +kernel
theorem dX10_carries_207 : decode cX10_carries 207 = .ok (.iaload, 1) := by decide +kernel
theorem dX10_carries_208 : decode cX10_carries 208 = .ok (.iload 9, 2) := by decide +kernel
theorem dX10_carries_210 : decode cX10_carries 210 = .ok (.iadd, 1) := by decide +kernel
theorem dX10_carries_211 : decode cX10_carries 211 = .ok (.iastore, 1) := by decide +kernel
theorem dX10_carries_212 : decode cX10_carries 212 = .ok (.iinc 1 1, 3) := by decide +kernel
theorem dX10_carries_215 : decode cX10_carries 215 = .ok (.goto (-213), 3) := by decide +kernel
theorem dX10_carries_218 : decode cX10_carries 218 = .ok (.return_, 1) := by decide +kernel
theorem dX10_blows_0 : decode cX10_blows 0 = .ok (.iconst 0, 1) := by decide +kernel
theorem dX10_blows_1 : decode cX10_blows 1 = .ok (.istore_n 1, 1) := by decide +kernel
theorem dX10_blows_2 : decode cX10_blows 2 = .ok (.iload_n 1, 1) := by decide +kernel
theorem dX10_blows_3 : decode cX10_blows 3 = .ok (.aload_n 0, 1) := by decide +kernel
theorem dX10_blows_4 : decode cX10_blows 4 = .ok (.getfield 9, 3) := by decide +kernel
theorem dX10_blows_7 : decode cX10_blows 7 = .ok (.iconst 1, 1) := by decide +kernel
theorem dX10_blows_8 : decode cX10_blows 8 = .ok (.iaload, 1) := by decide +kernel
theorem dX10_blows_9 : decode cX10_blows 9 = .ok (.if_icmp .ge 88, 3) := by decide +kernel
theorem dX10_blows_12 : decode cX10_blows 12 = .ok (.aload_n 0, 1) := by decide +kernel
theorem dX10_blows_13 : decode cX10_blows 13 = .ok (.getfield 9, 3) := by decide +kernel
theorem dX10_blows_16 : decode cX10_blows 16 = .ok (.bipush 6, 2) := by decide +kernel
theorem dX10_blows_18 : decode cX10_blows 18 = .ok (.iconst 4, 1) := by decide +kernel
theorem dX10_blows_19 : decode cX10_blows 19 = .ok (.aload_n 0, 1) := by decide +kernel
theorem dX10_blows_20 : decode cX10_blows 20 = .ok (.iload_n 1, 1) := by decide +kernel
theorem dX10_blows_21 : decode cX10_blows 21 = .ok (.iconst 1, 1) := by decide +kernel
theorem dX10_blows_22 : decode cX10_blows 22 = .ok (.invokevirtual 101, 3) := by decide +kernel
theorem dX10_blows_25 : decode cX10_blows 25 = .ok (.imul, 1) := by decide +kernel
theorem dX10_blows_26 : decode cX10_blows 26 = .ok (.iadd, 1) := by decide +kernel
theorem dX10_blows_27 : decode cX10_blows 27 = .ok (.dup2, 1) := by decide +kernel
theorem dX10_blows_28 : decode cX10_blows 28 = .ok (.iaload, 1) := by decide +kernel
theorem dX10_blows_29 : decode cX10_blows 29 = .ok (.aload_n 0, 1) := by decide +kernel
theorem dX10_blows_30 : decode cX10_blows 30 = .ok (.getfield 19, 3) := by decide +kernel
theorem dX10_blows_33 : decode cX10_blows 33 = .ok (.iload_n 1, 1) := by decide +kernel
theorem dX10_blows_34 : decode cX10_blows 34 = .ok (.iaload, 1) := by decide +kernel
theorem dX10_blows_35 : decode cX10_blows 35 = .ok (.isub, 1) := by decide +kernel
theorem dX10_blows_36 : decode cX10_blows 36 = .ok (.iastore, 1) := by decide +kernel
theorem dX10_blows_37 : decode cX10_blows 37 = .ok (.aload_n 0, 1) := by decide +kernel
theorem dX10_blows_38 : decode cX10_blows 38 = .ok (.iload_n 1, 1) := by decide +kernel
theorem dX10_blows_39 : decode cX10_blows 39 = .ok (.iconst 2, 1) := by decide +kernel
theorem dX10_blows_40 : decode cX10_blows 40 = .ok (.invokevirtual 101, 3) := by decide +kernel
theorem dX10_blows_43 : decode cX10_blows 43 = .ok (.bipush 8, 2) := by decide +kernel
theorem dX10_blows_45 : decode cX10_blows 45 = .ok (.if_icmp .ge 31, 3) := by decide +kernel
theorem dX10_blows_48 : decode cX10_blows 48 = .ok (.aload_n 0, 1) := by decide +kernel
theorem dX10_blows_49 : decode cX10_blows 49 = .ok (.getfield 9, 3) := by decide +kernel
theorem dX10_blows_52 : decode cX10_blows 52 = .ok (.bipush 6, 2) := by decide +kernel
theorem dX10_blows_54 : decode cX10_blows 54 = .ok (.iconst 4, 1) := by decide +kernel
theorem dX10_blows_55 : decode cX10_blows 55 = .ok (.aload_n 0, 1) := by decide +kernel
theorem dX10_blows_56 : decode cX10_blows 56 = .ok (.iload_n 1, 1) := by decide +kernel
theorem dX10_blows_57 : decode cX10_blows 57 = .ok (.iconst 2, 1) := by decide +kernel
theorem dX10_blows_58 : decode cX10_blows 58 = .ok (.invokevirtual 101, 3) := by decide +kernel
theorem dX10_blows_61 : decode cX10_blows 61 = .ok (.imul, 1) := by decide +kernel
theorem dX10_blows_62 : decode cX10_blows 62 = .ok (.iadd, 1) := by decide +kernel
theorem dX10_blows_63 : decode cX10_blows 63 = .ok (.dup2, 1) := by decide +kernel
theorem dX10_blows_64 : decode cX10_blows 64 = .ok (.iaload, 1) := by decide +kernel
theorem dX10_blows_65 : decode cX10_blows 65 = .ok (.aload_n 0, 1) := by decide +kernel
theorem dX10_blows_66 : decode cX10_blows 66 = .ok (.getfield 19, 3) := by decide +kernel
theorem dX10_blows_69 : decode cX10_blows 69 = .ok (.iload_n 1, 1) := by decide +kernel
theorem dX10_blows_70 : decode cX10_blows 70 = .ok (.iaload, 1) := by decide +kernel
theorem dX10_blows_71 : decode cX10_blows 71 = .ok (.iadd, 1) := by decide +kernel
theorem dX10_blows_72 : decode cX10_blows 72 = .ok (.iastore, 1) := by decide +kernel
theorem dX10_blows_73 : decode cX10_blows 73 = .ok (.goto 18, 3) := by decide +kernel
theorem dX10_blows_76 : decode cX10_blows 76 = .ok (.aload_n 0, 1) := by decide +kernel
theorem dX10_blows_77 : decode cX10_blows 77 = .ok (.getfield 9, 3) := by decide +kernel
theorem dX10_blows_80 : decode cX10_blows 80 = .ok (.iconst 4, 1) := by decide +kernel
theorem dX10_blows_81 : decode cX10_blows 81 = .ok (.dup2, 1) := by decide +kernel
theorem dX10_blows_82 : decode cX10_blows 82 = .ok (.iaload, 1) := by decide +kernel
theorem dX10_blows_83 : decode cX10_blows 83 = .ok (.aload_n 0, 1) := by decide +kernel
theorem dX10_blows_84 : decode cX10_blows 84 = .ok (.getfield 19, 3) := by decide +kernel
theorem dX10_blows_87 : decode cX10_blows 87 = .ok (.iload_n 1, 1) := by decide +kernel
theorem dX10_blows_88 : decode cX10_blows 88 = .ok (.iaload, 1) := by decide +kernel
theorem dX10_blows_89 : decode cX10_blows 89 = .ok (.iadd, 1) := by decide +kernel
theorem dX10_blows_90 : decode cX10_blows 90 = .ok (.iastore, 1) := by decide +kernel
theorem dX10_blows_91 : decode cX10_blows 91 = .ok (.iinc 1 1, 3) := by decide +kernel
theorem dX10_blows_94 : decode cX10_blows 94 = .ok (.goto (-92), 3) := by decide +kernel
theorem dX10_blows_97 : decode cX10_blows 97 = .ok (.iconst 0, 1) := by decide +kernel
theorem dX10_blows_98 : decode cX10_blows 98 = .ok (.istore_n 1, 1) := by decide +kernel
theorem dX10_blows_99 : decode cX10_blows 99 = .ok (.iload_n 1, 1) := by decide +kernel
theorem dX10_blows_100 : decode cX10_blows 100 = .ok (.bipush 8, 2) := by decide +kernel
theorem dX10_blows_102 : decode cX10_blows 102 = .ok (.if_icmp .ge 43, 3) := by decide +kernel
theorem dX10_blows_105 : decode cX10_blows 105 = .ok (.aload_n 0, 1) := by decide +kernel
theorem dX10_blows_106 : decode cX10_blows 106 = .ok (.iload_n 1, 1) := by decide +kernel
theorem dX10_blows_107 : decode cX10_blows 107 = .ok (.iconst 0, 1) := by decide +kernel
theorem dX10_blows_108 : decode cX10_blows 108 = .ok (.invokevirtual 116, 3) := by decide +kernel
theorem dX10_blows_111 : decode cX10_blows 111 = .ok (.aload_n 0, 1) := by decide +kernel
theorem dX10_blows_112 : decode cX10_blows 112 = .ok (.iload_n 1, 1) := by decide +kernel
theorem dX10_blows_113 : decode cX10_blows 113 = .ok (.iconst 1, 1) := by decide +kernel
theorem dX10_blows_114 : decode cX10_blows 114 = .ok (.invokevirtual 116, 3) := by decide +kernel
theorem dX10_blows_117 : decode cX10_blows 117 = .ok (.isub, 1) := by decide +kernel
theorem dX10_blows_118 : decode cX10_blows 118 = .ok (.istore_n 2, 1) := by decide +kernel
theorem dX10_blows_119 : decode cX10_blows 119 = .ok (.aload_n 0, 1) := by decide +kernel
theorem dX10_blows_120 : decode cX10_blows 120 = .ok (.getfield 9, 3) := by decide +kernel
theorem dX10_blows_123 : decode cX10_blows 123 = .ok (.bipush 6, 2) := by decide +kernel
theorem dX10_blows_125 : decode cX10_blows 125 = .ok (.iconst 4, 1) := by decide +kernel
theorem dX10_blows_126 : decode cX10_blows 126 = .ok (.iload_n 1, 1) := by decide +kernel
theorem dX10_blows_127 : decode cX10_blows 127 = .ok (.imul, 1) := by decide +kernel
theorem dX10_blows_128 : decode cX10_blows 128 = .ok (.iadd, 1) := by decide +kernel
theorem dX10_blows_129 : decode cX10_blows 129 = .ok (.iload_n 2, 1) := by decide +kernel
theorem dX10_blows_130 : decode cX10_blows 130 = .ok (.ifCond .ge 7, 3) := by decide +kernel
theorem dX10_blows_133 : decode cX10_blows 133 = .ok (.iconst 0, 1) := by decide +kernel
theorem dX10_blows_134 : decode cX10_blows 134 = .ok (.goto 4, 3) := by decide +kernel
theorem dX10_blows_137 : decode cX10_blows 137 = .ok (.iload_n 2, 1) := by decide +kernel
theorem dX10_blows_138 : decode cX10_blows 138 = .ok (.iastore, 1) := by decide +kernel
theorem dX10_blows_139 : decode cX10_blows 139 = .ok (.iinc 1 1, 3) := by decide +kernel
theorem dX10_blows_142 : decode cX10_blows 142 = .ok (.goto (-43), 3) := by decide +kernel
theorem dX10_blows_145 : decode cX10_blows 145 = .ok (.return_, 1) := by decide +kernel
theorem dX10_gustOf_0 : decode cX10_gustOf 0 = .ok (.aload_n 0, 1) := by decide +kernel
theorem dX10_gustOf_1 : decode cX10_gustOf 1 = .ok (.iconst 1, 1) := by decide +kernel
theorem dX10_gustOf_2 : decode cX10_gustOf 2 = .ok (.invokevirtual 105, 3) := by decide +kernel
theorem dX10_gustOf_5 : decode cX10_gustOf 5 = .ok (.istore_n 2, 1) := by decide +kernel
theorem dX10_gustOf_6 : decode cX10_gustOf 6 = .ok (.aload_n 0, 1) := by decide +kernel
theorem dX10_gustOf_7 : decode cX10_gustOf 7 = .ok (.getfield 57, 3) := by decide +kernel
theorem dX10_gustOf_10 : decode cX10_gustOf 10 = .ok (.iconst 0, 1) := by decide +kernel
theorem dX10_gustOf_11 : decode cX10_gustOf 11 = .ok (.aload_n 0, 1) := by decide +kernel
theorem dX10_gustOf_12 : decode cX10_gustOf 12 = .ok (.iload_n 1, 1) := by decide +kernel
theorem dX10_gustOf_13 : decode cX10_gustOf 13 = .ok (.iconst 1, 1) := by decide +kernel
theorem dX10_gustOf_14 : decode cX10_gustOf 14 = .ok (.invokevirtual 116, 3) := by decide +kernel
theorem dX10_gustOf_17 : decode cX10_gustOf 17 = .ok (.iastore, 1) := by decide +kernel
theorem dX10_gustOf_18 : decode cX10_gustOf 18 = .ok (.aload_n 0, 1) := by decide +kernel
theorem dX10_gustOf_19 : decode cX10_gustOf 19 = .ok (.getfield 57, 3) := by decide +kernel
theorem dX10_gustOf_22 : decode cX10_gustOf 22 = .ok (.iconst 1, 1) := by decide +kernel
theorem dX10_gustOf_23 : decode cX10_gustOf 23 = .ok (.aload_n 0, 1) := by decide +kernel
theorem dX10_gustOf_24 : decode cX10_gustOf 24 = .ok (.iload_n 1, 1) := by decide +kernel
theorem dX10_gustOf_25 : decode cX10_gustOf 25 = .ok (.iconst 2, 1) := by decide +kernel
theorem dX10_gustOf_26 : decode cX10_gustOf 26 = .ok (.invokevirtual 116, 3) := by decide +kernel
theorem dX10_gustOf_29 : decode cX10_gustOf 29 = .ok (.iastore, 1) := by decide +kernel
theorem dX10_gustOf_30 : decode cX10_gustOf 30 = .ok (.iload_n 2, 1) := by decide +kernel
theorem dX10_gustOf_31 : decode cX10_gustOf 31 = .ok (.ifCond .ge 8, 3) := by decide +kernel
theorem dX10_gustOf_34 : decode cX10_gustOf 34 = .ok (.bipush 20, 2) := by decide +kernel
theorem dX10_gustOf_36 : decode cX10_gustOf 36 = .ok (.goto 15, 3) := by decide +kernel
theorem dX10_gustOf_39 : decode cX10_gustOf 39 = .ok (.aload_n 0, 1) := by decide +kernel
theorem dX10_gustOf_40 : decode cX10_gustOf 40 = .ok (.iload_n 2, 1) := by decide +kernel
theorem dX10_gustOf_41 : decode cX10_gustOf 41 = .ok (.invokevirtual 109, 3) := by decide +kernel
theorem dX10_gustOf_44 : decode cX10_gustOf 44 = .ok (.iconst 0, 1) := by decide +kernel
theorem dX10_gustOf_45 : decode cX10_gustOf 45 = .ok (.sipush 999, 3) := by decide +kernel
theorem dX10_gustOf_48 : decode cX10_gustOf 48 = .ok (.invokestatic 112, 3) := by decide +kernel
theorem dX10_gustOf_51 : decode cX10_gustOf 51 = .ok (.ireturn, 1) := by decide +kernel
theorem dX10_minute_0 : decode cX10_minute 0 = .ok (.aload_n 0, 1) := by decide +kernel
theorem dX10_minute_1 : decode cX10_minute 1 = .ok (.invokevirtual 144, 3) := by decide +kernel
theorem dX10_minute_4 : decode cX10_minute 4 = .ok (.iconst 0, 1) := by decide +kernel
theorem dX10_minute_5 : decode cX10_minute 5 = .ok (.istore_n 1, 1) := by decide +kernel
theorem dX10_minute_6 : decode cX10_minute 6 = .ok (.iload_n 1, 1) := by decide +kernel
theorem dX10_minute_7 : decode cX10_minute 7 = .ok (.bipush 8, 2) := by decide +kernel
theorem dX10_minute_9 : decode cX10_minute 9 = .ok (.if_icmp .ge 33, 3) := by decide +kernel
theorem dX10_minute_12 : decode cX10_minute 12 = .ok (.aload_n 0, 1) := by decide +kernel
theorem dX10_minute_13 : decode cX10_minute 13 = .ok (.getfield 25, 3) := by decide +kernel
theorem dX10_minute_16 : decode cX10_minute 16 = .ok (.iload_n 1, 1) := by decide +kernel
theorem dX10_minute_17 : decode cX10_minute 17 = .ok (.aload_n 0, 1) := by decide +kernel
theorem dX10_minute_18 : decode cX10_minute 18 = .ok (.iload_n 1, 1) := by decide +kernel
theorem dX10_minute_19 : decode cX10_minute 19 = .ok (.iconst 2, 1) := by decide +kernel
theorem dX10_minute_20 : decode cX10_minute 20 = .ok (.invokevirtual 116, 3) := by decide +kernel
theorem dX10_minute_23 : decode cX10_minute 23 = .ok (.iastore, 1) := by decide +kernel
theorem dX10_minute_24 : decode cX10_minute 24 = .ok (.aload_n 0, 1) := by decide +kernel
theorem dX10_minute_25 : decode cX10_minute 25 = .ok (.getfield 28, 3) := by decide +kernel
theorem dX10_minute_28 : decode cX10_minute 28 = .ok (.iload_n 1, 1) := by decide +kernel
theorem dX10_minute_29 : decode cX10_minute 29 = .ok (.aload_n 0, 1) := by decide +kernel
theorem dX10_minute_30 : decode cX10_minute 30 = .ok (.iload_n 1, 1) := by decide +kernel
theorem dX10_minute_31 : decode cX10_minute 31 = .ok (.iconst 0, 1) := by decide +kernel
theorem dX10_minute_32 : decode cX10_minute 32 = .ok (.invokevirtual 116, 3) := by decide +kernel
theorem dX10_minute_35 : decode cX10_minute 35 = .ok (.iastore, 1) := by decide +kernel
theorem dX10_minute_36 : decode cX10_minute 36 = .ok (.iinc 1 1, 3) := by decide +kernel
theorem dX10_minute_39 : decode cX10_minute 39 = .ok (.goto (-33), 3) := by decide +kernel
theorem dX10_minute_42 : decode cX10_minute 42 = .ok (.aload_n 0, 1) := by decide +kernel
theorem dX10_minute_43 : decode cX10_minute 43 = .ok (.invokevirtual 152, 3) := by decide +kernel
theorem dX10_minute_46 : decode cX10_minute 46 = .ok (.aload_n 0, 1) := by decide +kernel
theorem dX10_minute_47 : decode cX10_minute 47 = .ok (.invokevirtual 155, 3) := by decide +kernel
theorem dX10_minute_50 : decode cX10_minute 50 = .ok (.iconst 0, 1) := by decide +kernel
theorem dX10_minute_51 : decode cX10_minute 51 = .ok (.istore_n 1, 1) := by decide +kernel
theorem dX10_minute_52 : decode cX10_minute 52 = .ok (.iconst 0, 1) := by decide +kernel
theorem dX10_minute_53 : decode cX10_minute 53 = .ok (.istore_n 2, 1) := by decide +kernel
theorem dX10_minute_54 : decode cX10_minute 54 = .ok (.iload_n 2, 1) := by decide +kernel
theorem dX10_minute_55 : decode cX10_minute 55 = .ok (.bipush 8, 2) := by decide +kernel
theorem dX10_minute_57 : decode cX10_minute 57 = .ok (.if_icmp .ge 50, 3) := by decide +kernel
theorem dX10_minute_60 : decode cX10_minute 60 = .ok (.aload_n 0, 1) := by decide +kernel
theorem dX10_minute_61 : decode cX10_minute 61 = .ok (.iload_n 2, 1) := by decide +kernel
theorem dX10_minute_62 : decode cX10_minute 62 = .ok (.iconst 3, 1) := by decide +kernel
theorem dX10_minute_63 : decode cX10_minute 63 = .ok (.invokevirtual 116, 3) := by decide +kernel
theorem dX10_minute_66 : decode cX10_minute 66 = .ok (.iconst 1, 1) := by decide +kernel
theorem dX10_minute_67 : decode cX10_minute 67 = .ok (.if_icmp .ne 34, 3) := by decide +kernel
theorem dX10_minute_70 : decode cX10_minute 70 = .ok (.aload_n 0, 1) := by decide +kernel
theorem dX10_minute_71 : decode cX10_minute 71 = .ok (.getfield 22, 3) := by decide +kernel
theorem dX10_minute_74 : decode cX10_minute 74 = .ok (.iload_n 2, 1) := by decide +kernel
theorem dX10_minute_75 : decode cX10_minute 75 = .ok (.iaload, 1) := by decide +kernel
theorem dX10_minute_76 : decode cX10_minute 76 = .ok (.aload_n 0, 1) := by decide +kernel
theorem dX10_minute_77 : decode cX10_minute 77 = .ok (.iload_n 2, 1) := by decide +kernel
theorem dX10_minute_78 : decode cX10_minute 78 = .ok (.invokevirtual 158, 3) := by decide +kernel
theorem dX10_minute_81 : decode cX10_minute 81 = .ok (.if_icmp .le 20, 3) := by decide +kernel
theorem dX10_minute_84 : decode cX10_minute 84 = .ok (.aload_n 0, 1) := by decide +kernel
theorem dX10_minute_85 : decode cX10_minute 85 = .ok (.getfield 9, 3) := by decide +kernel
theorem dX10_minute_88 : decode cX10_minute 88 = .ok (.bipush 6, 2) := by decide +kernel
theorem dX10_minute_90 : decode cX10_minute 90 = .ok (.iconst 4, 1) := by decide +kernel
theorem dX10_minute_91 : decode cX10_minute 91 = .ok (.iload_n 2, 1) := by decide +kernel
theorem dX10_minute_92 : decode cX10_minute 92 = .ok (.imul, 1) := by decide +kernel
theorem dX10_minute_93 : decode cX10_minute 93 = .ok (.iadd, 1) := by decide +kernel
theorem dX10_minute_94 : decode cX10_minute 94 = .ok (.iconst 3, 1) := by decide +kernel
theorem dX10_minute_95 : decode cX10_minute 95 = .ok (.iadd, 1) := by decide +kernel
theorem dX10_minute_96 : decode cX10_minute 96 = .ok (.iconst 0, 1) := by decide +kernel
theorem dX10_minute_97 : decode cX10_minute 97 = .ok (.iastore, 1) := by decide +kernel
theorem dX10_minute_98 : decode cX10_minute 98 = .ok (.iinc 1 1, 3) := by decide +kernel
theorem dX10_minute_101 : decode cX10_minute 101 = .ok (.iinc 2 1, 3) := by decide +kernel
theorem dX10_minute_104 : decode cX10_minute 104 = .ok (.goto (-50), 3) := by decide +kernel
theorem dX10_minute_107 : decode cX10_minute 107 = .ok (.aload_n 0, 1) := by decide +kernel
theorem dX10_minute_108 : decode cX10_minute 108 = .ok (.getfield 9, 3) := by decide +kernel
theorem dX10_minute_111 : decode cX10_minute 111 = .ok (.iconst 2, 1) := by decide +kernel
theorem dX10_minute_112 : decode cX10_minute 112 = .ok (.dup2, 1) := by decide +kernel
theorem dX10_minute_113 : decode cX10_minute 113 = .ok (.iaload, 1) := by decide +kernel
theorem dX10_minute_114 : decode cX10_minute 114 = .ok (.iconst 1, 1) := by decide +kernel
theorem dX10_minute_115 : decode cX10_minute 115 = .ok (.iadd, 1) := by decide +kernel
theorem dX10_minute_116 : decode cX10_minute 116 = .ok (.iastore, 1) := by decide +kernel
theorem dX10_minute_117 : decode cX10_minute 117 = .ok (.iload_n 1, 1) := by decide +kernel
theorem dX10_minute_118 : decode cX10_minute 118 = .ok (.ireturn, 1) := by decide +kernel
theorem dX10_goesOn_0 : decode cX10_goesOn 0 = .ok (.iconst 0, 1) := by decide +kernel
theorem dX10_goesOn_1 : decode cX10_goesOn 1 = .ok (.istore_n 2, 1) := by decide +kernel
theorem dX10_goesOn_2 : decode cX10_goesOn 2 = .ok (.iconst 0, 1) := by decide +kernel
theorem dX10_goesOn_3 : decode cX10_goesOn 3 = .ok (.istore_n 3, 1) := by decide +kernel
theorem dX10_goesOn_4 : decode cX10_goesOn 4 = .ok (.iload_n 3, 1) := by decide +kernel
theorem dX10_goesOn_5 : decode cX10_goesOn 5 = .ok (.iload_n 1, 1) := by decide +kernel
theorem dX10_goesOn_6 : decode cX10_goesOn 6 = .ok (.if_icmp .ge 16, 3) := by decide +kernel
theorem dX10_goesOn_9 : decode cX10_goesOn 9 = .ok (.iload_n 2, 1) := by decide +kernel
theorem dX10_goesOn_10 : decode cX10_goesOn 10 = .ok (.aload_n 0, 1) := by decide +kernel
theorem dX10_goesOn_11 : decode cX10_goesOn 11 = .ok (.invokevirtual 161, 3) := by decide +kernel
theorem dX10_goesOn_14 : decode cX10_goesOn 14 = .ok (.iadd, 1) := by decide +kernel
theorem dX10_goesOn_15 : decode cX10_goesOn 15 = .ok (.istore_n 2, 1) := by decide +kernel
theorem dX10_goesOn_16 : decode cX10_goesOn 16 = .ok (.iinc 3 1, 3) := by decide +kernel
theorem dX10_goesOn_19 : decode cX10_goesOn 19 = .ok (.goto (-15), 3) := by decide +kernel
theorem dX10_goesOn_22 : decode cX10_goesOn 22 = .ok (.iload_n 2, 1) := by decide +kernel
theorem dX10_goesOn_23 : decode cX10_goesOn 23 = .ok (.ireturn, 1) := by decide +kernel
theorem dX10_run_0 : decode cX10_run 0 = .ok (.iload_n 1, 1) := by decide +kernel
theorem dX10_run_1 : decode cX10_run 1 = .ok (.iconst 1, 1) := by decide +kernel
theorem dX10_run_2 : decode cX10_run 2 = .ok (.bipush 100, 2) := by decide +kernel
theorem dX10_run_4 : decode cX10_run 4 = .ok (.invokestatic 87, 3) := by decide +kernel
theorem dX10_run_7 : decode cX10_run 7 = .ok (.ifCond .eq 25, 3) := by decide +kernel
theorem dX10_run_10 : decode cX10_run 10 = .ok (.aload_n 0, 1) := by decide +kernel
theorem dX10_run_11 : decode cX10_run 11 = .ok (.sipush 9999, 3) := by decide +kernel
theorem dX10_run_14 : decode cX10_run 14 = .ok (.aload_n 0, 1) := by decide +kernel
theorem dX10_run_15 : decode cX10_run 15 = .ok (.getfield 9, 3) := by decide +kernel
theorem dX10_run_18 : decode cX10_run 18 = .ok (.iconst 2, 1) := by decide +kernel
theorem dX10_run_19 : decode cX10_run 19 = .ok (.iaload, 1) := by decide +kernel
theorem dX10_run_20 : decode cX10_run 20 = .ok (.isub, 1) := by decide +kernel
theorem dX10_run_21 : decode cX10_run 21 = .ok (.iconst 0, 1) := by decide +kernel
theorem dX10_run_22 : decode cX10_run 22 = .ok (.iload_n 1, 1) := by decide +kernel
theorem dX10_run_23 : decode cX10_run 23 = .ok (.invokestatic 112, 3) := by decide +kernel
theorem dX10_run_26 : decode cX10_run 26 = .ok (.invokevirtual 164, 3) := by decide +kernel
theorem dX10_run_29 : decode cX10_run 29 = .ok (.goto 5, 3) := by decide +kernel
theorem dX10_run_32 : decode cX10_run 32 = .ok (.ldc 95, 2) := by decide +kernel
theorem dX10_run_34 : decode cX10_run 34 = .ok (.ireturn, 1) := by decide +kernel
theorem dX10_footman_0 : decode cX10_footman 0 = .ok (.iload_n 1, 1) := by decide +kernel
theorem dX10_footman_1 : decode cX10_footman 1 = .ok (.iconst 0, 1) := by decide +kernel
theorem dX10_footman_2 : decode cX10_footman 2 = .ok (.bipush 100, 2) := by decide +kernel
theorem dX10_footman_4 : decode cX10_footman 4 = .ok (.invokestatic 87, 3) := by decide +kernel
theorem dX10_footman_7 : decode cX10_footman 7 = .ok (.ifCond .ne 6, 3) := by decide +kernel
theorem dX10_footman_10 : decode cX10_footman 10 = .ok (.ldc 95, 2) := by decide +kernel
theorem dX10_footman_12 : decode cX10_footman 12 = .ok (.ireturn, 1) := by decide +kernel
theorem dX10_footman_13 : decode cX10_footman 13 = .ok (.iconst 0, 1) := by decide +kernel
theorem dX10_footman_14 : decode cX10_footman 14 = .ok (.istore_n 2, 1) := by decide +kernel
theorem dX10_footman_15 : decode cX10_footman 15 = .ok (.iconst 0, 1) := by decide +kernel
theorem dX10_footman_16 : decode cX10_footman 16 = .ok (.istore_n 3, 1) := by decide +kernel
theorem dX10_footman_17 : decode cX10_footman 17 = .ok (.iload_n 3, 1) := by decide +kernel
theorem dX10_footman_18 : decode cX10_footman 18 = .ok (.aload_n 0, 1) := by decide +kernel
theorem dX10_footman_19 : decode cX10_footman 19 = .ok (.getfield 9, 3) := by decide +kernel
theorem dX10_footman_22 : decode cX10_footman 22 = .ok (.iconst 1, 1) := by decide +kernel
theorem dX10_footman_23 : decode cX10_footman 23 = .ok (.iaload, 1) := by decide +kernel
theorem dX10_footman_24 : decode cX10_footman 24 = .ok (.if_icmp .ge 43, 3) := by decide +kernel
theorem dX10_footman_27 : decode cX10_footman 27 = .ok (.aload_n 0, 1) := by decide +kernel
theorem dX10_footman_28 : decode cX10_footman 28 = .ok (.invokevirtual 148, 3) := by decide +kernel
theorem dX10_footman_31 : decode cX10_footman 31 = .ok (.bipush 100, 2) := by decide +kernel
theorem dX10_footman_33 : decode cX10_footman 33 = .ok (.irem, 1) := by decide +kernel
theorem dX10_footman_34 : decode cX10_footman 34 = .ok (.iload_n 1, 1) := by decide +kernel
theorem dX10_footman_35 : decode cX10_footman 35 = .ok (.if_icmp .ge 26, 3) := by decide +kernel
theorem dX10_footman_38 : decode cX10_footman 38 = .ok (.iload_n 2, 1) := by decide +kernel
theorem dX10_footman_39 : decode cX10_footman 39 = .ok (.aload_n 0, 1) := by decide +kernel
theorem dX10_footman_40 : decode cX10_footman 40 = .ok (.iload_n 3, 1) := by decide +kernel
theorem dX10_footman_41 : decode cX10_footman 41 = .ok (.iconst 4, 1) := by decide +kernel
theorem dX10_footman_42 : decode cX10_footman 42 = .ok (.invokevirtual 101, 3) := by decide +kernel
theorem dX10_footman_45 : decode cX10_footman 45 = .ok (.iadd, 1) := by decide +kernel
theorem dX10_footman_46 : decode cX10_footman 46 = .ok (.istore_n 2, 1) := by decide +kernel
theorem dX10_footman_47 : decode cX10_footman 47 = .ok (.aload_n 0, 1) := by decide +kernel
theorem dX10_footman_48 : decode cX10_footman 48 = .ok (.getfield 9, 3) := by decide +kernel
theorem dX10_footman_51 : decode cX10_footman 51 = .ok (.bipush 38, 2) := by decide +kernel
theorem dX10_footman_53 : decode cX10_footman 53 = .ok (.iconst 5, 1) := by decide +kernel
theorem dX10_footman_54 : decode cX10_footman 54 = .ok (.iload_n 3, 1) := by decide +kernel
theorem dX10_footman_55 : decode cX10_footman 55 = .ok (.imul, 1) := by decide +kernel
theorem dX10_footman_56 : decode cX10_footman 56 = .ok (.iadd, 1) := by decide +kernel
theorem dX10_footman_57 : decode cX10_footman 57 = .ok (.iconst 4, 1) := by decide +kernel
theorem dX10_footman_58 : decode cX10_footman 58 = .ok (.iadd, 1) := by decide +kernel
theorem dX10_footman_59 : decode cX10_footman 59 = .ok (.iconst 0, 1) := by decide +kernel
theorem dX10_footman_60 : decode cX10_footman 60 = .ok (.iastore, 1) := by decide +kernel
theorem dX10_footman_61 : decode cX10_footman 61 = .ok (.iinc 3 1, 3) := by decide +kernel
theorem dX10_footman_64 : decode cX10_footman 64 = .ok (.goto (-47), 3) := by decide +kernel
theorem dX10_footman_67 : decode cX10_footman 67 = .ok (.iload_n 2, 1) := by decide +kernel
theorem dX10_footman_68 : decode cX10_footman 68 = .ok (.ireturn, 1) := by decide +kernel
theorem dX10_sumOf_0 : decode cX10_sumOf 0 = .ok (.iconst 0, 1) := by decide +kernel
theorem dX10_sumOf_1 : decode cX10_sumOf 1 = .ok (.istore_n 2, 1) := by decide +kernel
theorem dX10_sumOf_2 : decode cX10_sumOf 2 = .ok (.iconst 0, 1) := by decide +kernel
theorem dX10_sumOf_3 : decode cX10_sumOf 3 = .ok (.istore_n 3, 1) := by decide +kernel
theorem dX10_sumOf_4 : decode cX10_sumOf 4 = .ok (.iload_n 3, 1) := by decide +kernel
theorem dX10_sumOf_5 : decode cX10_sumOf 5 = .ok (.bipush 8, 2) := by decide +kernel
theorem dX10_sumOf_7 : decode cX10_sumOf 7 = .ok (.if_icmp .ge 18, 3) := by decide +kernel
theorem dX10_sumOf_10 : decode cX10_sumOf 10 = .ok (.iload_n 2, 1) := by decide +kernel
theorem dX10_sumOf_11 : decode cX10_sumOf 11 = .ok (.aload_n 0, 1) := by decide +kernel
theorem dX10_sumOf_12 : decode cX10_sumOf 12 = .ok (.iload_n 3, 1) := by decide +kernel
theorem dX10_sumOf_13 : decode cX10_sumOf 13 = .ok (.iload_n 1, 1) := by decide +kernel
theorem dX10_sumOf_14 : decode cX10_sumOf 14 = .ok (.invokevirtual 116, 3) := by decide +kernel
theorem dX10_sumOf_17 : decode cX10_sumOf 17 = .ok (.iadd, 1) := by decide +kernel
theorem dX10_sumOf_18 : decode cX10_sumOf 18 = .ok (.istore_n 2, 1) := by decide +kernel
theorem dX10_sumOf_19 : decode cX10_sumOf 19 = .ok (.iinc 3 1, 3) := by decide +kernel
theorem dX10_sumOf_22 : decode cX10_sumOf 22 = .ok (.goto (-18), 3) := by decide +kernel
theorem dX10_sumOf_25 : decode cX10_sumOf 25 = .ok (.iload_n 2, 1) := by decide +kernel
theorem dX10_sumOf_26 : decode cX10_sumOf 26 = .ok (.ireturn, 1) := by decide +kernel
theorem dX10_litSet_0 : decode cX10_litSet 0 = .ok (.iconst 0, 1) := by decide +kernel
theorem dX10_litSet_1 : decode cX10_litSet 1 = .ok (.istore_n 1, 1) := by decide +kernel
theorem dX10_litSet_2 : decode cX10_litSet 2 = .ok (.iconst 0, 1) := by decide +kernel
theorem dX10_litSet_3 : decode cX10_litSet 3 = .ok (.istore_n 2, 1) := by decide +kernel
theorem dX10_litSet_4 : decode cX10_litSet 4 = .ok (.iload_n 2, 1) := by decide +kernel
theorem dX10_litSet_5 : decode cX10_litSet 5 = .ok (.bipush 8, 2) := by decide +kernel
theorem dX10_litSet_7 : decode cX10_litSet 7 = .ok (.if_icmp .ge 20, 3) := by decide +kernel
theorem dX10_litSet_10 : decode cX10_litSet 10 = .ok (.iload_n 1, 1) := by decide +kernel
theorem dX10_litSet_11 : decode cX10_litSet 11 = .ok (.aload_n 0, 1) := by decide +kernel
theorem dX10_litSet_12 : decode cX10_litSet 12 = .ok (.iload_n 2, 1) := by decide +kernel
theorem dX10_litSet_13 : decode cX10_litSet 13 = .ok (.iconst 3, 1) := by decide +kernel
theorem dX10_litSet_14 : decode cX10_litSet 14 = .ok (.invokevirtual 116, 3) := by decide +kernel
theorem dX10_litSet_17 : decode cX10_litSet 17 = .ok (.iload_n 2, 1) := by decide +kernel
theorem dX10_litSet_18 : decode cX10_litSet 18 = .ok (.ishl, 1) := by decide +kernel
theorem dX10_litSet_19 : decode cX10_litSet 19 = .ok (.ior, 1) := by decide +kernel
theorem dX10_litSet_20 : decode cX10_litSet 20 = .ok (.istore_n 1, 1) := by decide +kernel
theorem dX10_litSet_21 : decode cX10_litSet 21 = .ok (.iinc 2 1, 3) := by decide +kernel
theorem dX10_litSet_24 : decode cX10_litSet 24 = .ok (.goto (-20), 3) := by decide +kernel
theorem dX10_litSet_27 : decode cX10_litSet 27 = .ok (.iload_n 1, 1) := by decide +kernel
theorem dX10_litSet_28 : decode cX10_litSet 28 = .ok (.ireturn, 1) := by decide +kernel
theorem dX10_openSet_0 : decode cX10_openSet 0 = .ok (.iconst 0, 1) := by decide +kernel
theorem dX10_openSet_1 : decode cX10_openSet 1 = .ok (.istore_n 1, 1) := by decide +kernel
theorem dX10_openSet_2 : decode cX10_openSet 2 = .ok (.iconst 0, 1) := by decide +kernel
theorem dX10_openSet_3 : decode cX10_openSet 3 = .ok (.istore_n 2, 1) := by decide +kernel
theorem dX10_openSet_4 : decode cX10_openSet 4 = .ok (.iload_n 2, 1) := by decide +kernel
theorem dX10_openSet_5 : decode cX10_openSet 5 = .ok (.aload_n 0, 1) := by decide +kernel
theorem dX10_openSet_6 : decode cX10_openSet 6 = .ok (.getfield 9, 3) := by decide +kernel
theorem dX10_openSet_9 : decode cX10_openSet 9 = .ok (.iconst 1, 1) := by decide +kernel
theorem dX10_openSet_10 : decode cX10_openSet 10 = .ok (.iaload, 1) := by decide +kernel
theorem dX10_openSet_11 : decode cX10_openSet 11 = .ok (.if_icmp .ge 20, 3) := by decide +kernel
theorem dX10_openSet_14 : decode cX10_openSet 14 = .ok (.iload_n 1, 1) := by decide +kernel
theorem dX10_openSet_15 : decode cX10_openSet 15 = .ok (.aload_n 0, 1) := by decide +kernel
theorem dX10_openSet_16 : decode cX10_openSet 16 = .ok (.iload_n 2, 1) := by decide +kernel
theorem dX10_openSet_17 : decode cX10_openSet 17 = .ok (.iconst 4, 1) := by decide +kernel
theorem dX10_openSet_18 : decode cX10_openSet 18 = .ok (.invokevirtual 101, 3) := by decide +kernel
theorem dX10_openSet_21 : decode cX10_openSet 21 = .ok (.iload_n 2, 1) := by decide +kernel
theorem dX10_openSet_22 : decode cX10_openSet 22 = .ok (.ishl, 1) := by decide +kernel
theorem dX10_openSet_23 : decode cX10_openSet 23 = .ok (.ior, 1) := by decide +kernel
theorem dX10_openSet_24 : decode cX10_openSet 24 = .ok (.istore_n 1, 1) := by decide +kernel
theorem dX10_openSet_25 : decode cX10_openSet 25 = .ok (.iinc 2 1, 3) := by decide +kernel
theorem dX10_openSet_28 : decode cX10_openSet 28 = .ok (.goto (-24), 3) := by decide +kernel
theorem dX10_openSet_31 : decode cX10_openSet 31 = .ok (.iload_n 1, 1) := by decide +kernel
theorem dX10_openSet_32 : decode cX10_openSet 32 = .ok (.ireturn, 1) := by decide +kernel
theorem dX10_hall_0 : decode cX10_hall 0 = .ok (.iload_n 1, 1) := by decide +kernel
theorem dX10_hall_1 : decode cX10_hall 1 = .ok (.tableswitch 64 0 4 #[35, 42, 48, 54, 59], 35) := by decide +kernel
theorem dX10_hall_36 : decode cX10_hall 36 = .ok (.aload_n 0, 1) := by decide +kernel
theorem dX10_hall_37 : decode cX10_hall 37 = .ok (.getfield 9, 3) := by decide +kernel
theorem dX10_hall_40 : decode cX10_hall 40 = .ok (.iconst 4, 1) := by decide +kernel
theorem dX10_hall_41 : decode cX10_hall 41 = .ok (.iaload, 1) := by decide +kernel
theorem dX10_hall_42 : decode cX10_hall 42 = .ok (.ireturn, 1) := by decide +kernel
theorem dX10_hall_43 : decode cX10_hall 43 = .ok (.aload_n 0, 1) := by decide +kernel
theorem dX10_hall_44 : decode cX10_hall 44 = .ok (.iconst 0, 1) := by decide +kernel
theorem dX10_hall_45 : decode cX10_hall 45 = .ok (.invokevirtual 167, 3) := by decide +kernel
theorem dX10_hall_48 : decode cX10_hall 48 = .ok (.ireturn, 1) := by decide +kernel
theorem dX10_hall_49 : decode cX10_hall 49 = .ok (.aload_n 0, 1) := by decide +kernel
theorem dX10_hall_50 : decode cX10_hall 50 = .ok (.iconst 2, 1) := by decide +kernel
theorem dX10_hall_51 : decode cX10_hall 51 = .ok (.invokevirtual 167, 3) := by decide +kernel
theorem dX10_hall_54 : decode cX10_hall 54 = .ok (.ireturn, 1) := by decide +kernel
theorem dX10_hall_55 : decode cX10_hall 55 = .ok (.aload_n 0, 1) := by decide +kernel
theorem dX10_hall_56 : decode cX10_hall 56 = .ok (.invokevirtual 170, 3) := by decide +kernel
theorem dX10_hall_59 : decode cX10_hall 59 = .ok (.ireturn, 1) := by decide +kernel
theorem dX10_hall_60 : decode cX10_hall 60 = .ok (.aload_n 0, 1) := by decide +kernel
theorem dX10_hall_61 : decode cX10_hall 61 = .ok (.invokevirtual 173, 3) := by decide +kernel
theorem dX10_hall_64 : decode cX10_hall 64 = .ok (.ireturn, 1) := by decide +kernel
theorem dX10_hall_65 : decode cX10_hall 65 = .ok (.ldc 95, 2) := by decide +kernel
theorem dX10_hall_67 : decode cX10_hall 67 = .ok (.ireturn, 1) := by decide +kernel
theorem dX10_thinks_0 : decode cX10_thinks 0 = .ok (.iconst 0, 1) := by decide +kernel
theorem dX10_thinks_1 : decode cX10_thinks 1 = .ok (.istore_n 1, 1) := by decide +kernel
theorem dX10_thinks_2 : decode cX10_thinks 2 = .ok (.iload_n 1, 1) := by decide +kernel
theorem dX10_thinks_3 : decode cX10_thinks 3 = .ok (.bipush 88, 2) := by decide +kernel
theorem dX10_thinks_5 : decode cX10_thinks 5 = .ok (.if_icmp .ge 21, 3) := by decide +kernel
theorem dX10_thinks_8 : decode cX10_thinks 8 = .ok (.aload_n 0, 1) := by decide +kernel
theorem dX10_thinks_9 : decode cX10_thinks 9 = .ok (.getfield 31, 3) := by decide +kernel
theorem dX10_thinks_12 : decode cX10_thinks 12 = .ok (.iload_n 1, 1) := by decide +kernel
theorem dX10_thinks_13 : decode cX10_thinks 13 = .ok (.aload_n 0, 1) := by decide +kernel
theorem dX10_thinks_14 : decode cX10_thinks 14 = .ok (.getfield 9, 3) := by decide +kernel
theorem dX10_thinks_17 : decode cX10_thinks 17 = .ok (.iload_n 1, 1) := by decide +kernel
theorem dX10_thinks_18 : decode cX10_thinks 18 = .ok (.iaload, 1) := by decide +kernel
theorem dX10_thinks_19 : decode cX10_thinks 19 = .ok (.iastore, 1) := by decide +kernel
theorem dX10_thinks_20 : decode cX10_thinks 20 = .ok (.iinc 1 1, 3) := by decide +kernel
theorem dX10_thinks_23 : decode cX10_thinks 23 = .ok (.goto (-21), 3) := by decide +kernel
theorem dX10_thinks_26 : decode cX10_thinks 26 = .ok (.return_, 1) := by decide +kernel
theorem dX10_putsBack_0 : decode cX10_putsBack 0 = .ok (.iconst 0, 1) := by decide +kernel
theorem dX10_putsBack_1 : decode cX10_putsBack 1 = .ok (.istore_n 1, 1) := by decide +kernel
theorem dX10_putsBack_2 : decode cX10_putsBack 2 = .ok (.iload_n 1, 1) := by decide +kernel
theorem dX10_putsBack_3 : decode cX10_putsBack 3 = .ok (.bipush 88, 2) := by decide +kernel
theorem dX10_putsBack_5 : decode cX10_putsBack 5 = .ok (.if_icmp .ge 21, 3) := by decide +kernel
theorem dX10_putsBack_8 : decode cX10_putsBack 8 = .ok (.aload_n 0, 1) := by decide +kernel
theorem dX10_putsBack_9 : decode cX10_putsBack 9 = .ok (.getfield 9, 3) := by decide +kernel
theorem dX10_putsBack_12 : decode cX10_putsBack 12 = .ok (.iload_n 1, 1) := by decide +kernel
theorem dX10_putsBack_13 : decode cX10_putsBack 13 = .ok (.aload_n 0, 1) := by decide +kernel
theorem dX10_putsBack_14 : decode cX10_putsBack 14 = .ok (.getfield 31, 3) := by decide +kernel
theorem dX10_putsBack_17 : decode cX10_putsBack 17 = .ok (.iload_n 1, 1) := by decide +kernel
theorem dX10_putsBack_18 : decode cX10_putsBack 18 = .ok (.iaload, 1) := by decide +kernel
theorem dX10_putsBack_19 : decode cX10_putsBack 19 = .ok (.iastore, 1) := by decide +kernel
theorem dX10_putsBack_20 : decode cX10_putsBack 20 = .ok (.iinc 1 1, 3) := by decide +kernel
theorem dX10_putsBack_23 : decode cX10_putsBack 23 = .ok (.goto (-21), 3) := by decide +kernel
theorem dX10_putsBack_26 : decode cX10_putsBack 26 = .ok (.return_, 1) := by decide +kernel
theorem dX10_behind_0 : decode cX10_behind 0 = .ok (.iload_n 1, 1) := by decide +kernel
theorem dX10_behind_1 : decode cX10_behind 1 = .ok (.invokestatic 91, 3) := by decide +kernel
theorem dX10_behind_4 : decode cX10_behind 4 = .ok (.ifCond .eq 22, 3) := by decide +kernel
theorem dX10_behind_7 : decode cX10_behind 7 = .ok (.iload_n 2, 1) := by decide +kernel
theorem dX10_behind_8 : decode cX10_behind 8 = .ok (.iconst 0, 1) := by decide +kernel
theorem dX10_behind_9 : decode cX10_behind 9 = .ok (.bipush 100, 2) := by decide +kernel
theorem dX10_behind_11 : decode cX10_behind 11 = .ok (.invokestatic 87, 3) := by decide +kernel
theorem dX10_behind_14 : decode cX10_behind 14 = .ok (.ifCond .eq 12, 3) := by decide +kernel
theorem dX10_behind_17 : decode cX10_behind 17 = .ok (.iload_n 3, 1) := by decide +kernel
theorem dX10_behind_18 : decode cX10_behind 18 = .ok (.iconst 0, 1) := by decide +kernel
theorem dX10_behind_19 : decode cX10_behind 19 = .ok (.iconst 3, 1) := by decide +kernel
theorem dX10_behind_20 : decode cX10_behind 20 = .ok (.invokestatic 87, 3) := by decide +kernel
theorem dX10_behind_23 : decode cX10_behind 23 = .ok (.ifCond .ne 6, 3) := by decide +kernel
theorem dX10_behind_26 : decode cX10_behind 26 = .ok (.ldc 95, 2) := by decide +kernel
theorem dX10_behind_28 : decode cX10_behind 28 = .ok (.ireturn, 1) := by decide +kernel
theorem dX10_behind_29 : decode cX10_behind 29 = .ok (.aload_n 0, 1) := by decide +kernel
theorem dX10_behind_30 : decode cX10_behind 30 = .ok (.invokevirtual 176, 3) := by decide +kernel
theorem dX10_behind_33 : decode cX10_behind 33 = .ok (.aload_n 0, 1) := by decide +kernel
theorem dX10_behind_34 : decode cX10_behind 34 = .ok (.iload_n 2, 1) := by decide +kernel
theorem dX10_behind_35 : decode cX10_behind 35 = .ok (.invokevirtual 164, 3) := by decide +kernel
theorem dX10_behind_38 : decode cX10_behind 38 = .ok (.istore 4, 2) := by decide +kernel
theorem dX10_behind_40 : decode cX10_behind 40 = .ok (.aload_n 0, 1) := by decide +kernel
theorem dX10_behind_41 : decode cX10_behind 41 = .ok (.invokevirtual 144, 3) := by decide +kernel
theorem dX10_behind_44 : decode cX10_behind 44 = .ok (.iload_n 3, 1) := by decide +kernel
theorem dX10_behind_45 : decode cX10_behind 45 = .ok (.ifCond .ne 12, 3) := by decide +kernel
theorem dX10_behind_48 : decode cX10_behind 48 = .ok (.aload_n 0, 1) := by decide +kernel
theorem dX10_behind_49 : decode cX10_behind 49 = .ok (.iload_n 1, 1) := by decide +kernel
theorem dX10_behind_50 : decode cX10_behind 50 = .ok (.iconst 0, 1) := by decide +kernel
theorem dX10_behind_51 : decode cX10_behind 51 = .ok (.invokevirtual 116, 3) := by decide +kernel
theorem dX10_behind_54 : decode cX10_behind 54 = .ok (.goto 37, 3) := by decide +kernel
theorem dX10_behind_57 : decode cX10_behind 57 = .ok (.iload_n 3, 1) := by decide +kernel
theorem dX10_behind_58 : decode cX10_behind 58 = .ok (.iconst 1, 1) := by decide +kernel
theorem dX10_behind_59 : decode cX10_behind 59 = .ok (.if_icmp .ne 12, 3) := by decide +kernel
theorem dX10_behind_62 : decode cX10_behind 62 = .ok (.aload_n 0, 1) := by decide +kernel
theorem dX10_behind_63 : decode cX10_behind 63 = .ok (.iload_n 1, 1) := by decide +kernel
theorem dX10_behind_64 : decode cX10_behind 64 = .ok (.iconst 2, 1) := by decide +kernel
theorem dX10_behind_65 : decode cX10_behind 65 = .ok (.invokevirtual 116, 3) := by decide +kernel
theorem dX10_behind_68 : decode cX10_behind 68 = .ok (.goto 23, 3) := by decide +kernel
theorem dX10_behind_71 : decode cX10_behind 71 = .ok (.iload_n 3, 1) := by decide +kernel
theorem dX10_behind_72 : decode cX10_behind 72 = .ok (.iconst 2, 1) := by decide +kernel
theorem dX10_behind_73 : decode cX10_behind 73 = .ok (.if_icmp .ne 12, 3) := by decide +kernel
theorem dX10_behind_76 : decode cX10_behind 76 = .ok (.aload_n 0, 1) := by decide +kernel
theorem dX10_behind_77 : decode cX10_behind 77 = .ok (.getfield 22, 3) := by decide +kernel
theorem dX10_behind_80 : decode cX10_behind 80 = .ok (.iload_n 1, 1) := by decide +kernel
theorem dX10_behind_81 : decode cX10_behind 81 = .ok (.iaload, 1) := by decide +kernel
theorem dX10_behind_82 : decode cX10_behind 82 = .ok (.goto 9, 3) := by decide +kernel
theorem dX10_behind_85 : decode cX10_behind 85 = .ok (.aload_n 0, 1) := by decide +kernel
theorem dX10_behind_86 : decode cX10_behind 86 = .ok (.iload_n 1, 1) := by decide +kernel
theorem dX10_behind_87 : decode cX10_behind 87 = .ok (.iconst 3, 1) := by decide +kernel
theorem dX10_behind_88 : decode cX10_behind 88 = .ok (.invokevirtual 116, 3) := by decide +kernel
theorem dX10_behind_91 : decode cX10_behind 91 = .ok (.istore 5, 2) := by decide +kernel
theorem dX10_behind_93 : decode cX10_behind 93 = .ok (.aload_n 0, 1) := by decide +kernel
theorem dX10_behind_94 : decode cX10_behind 94 = .ok (.invokevirtual 179, 3) := by decide +kernel
theorem dX10_behind_97 : decode cX10_behind 97 = .ok (.iload 5, 2) := by decide +kernel
theorem dX10_behind_99 : decode cX10_behind 99 = .ok (.ireturn, 1) := by decide +kernel
theorem dX10_isStill_0 : decode cX10_isStill 0 = .ok (.aload_n 0, 1) := by decide +kernel
theorem dX10_isStill_1 : decode cX10_isStill 1 = .ok (.invokevirtual 144, 3) := by decide +kernel
theorem dX10_isStill_4 : decode cX10_isStill 4 = .ok (.iconst 0, 1) := by decide +kernel
theorem dX10_isStill_5 : decode cX10_isStill 5 = .ok (.istore_n 1, 1) := by decide +kernel
theorem dX10_isStill_6 : decode cX10_isStill 6 = .ok (.iload_n 1, 1) := by decide +kernel
theorem dX10_isStill_7 : decode cX10_isStill 7 = .ok (.aload_n 0, 1) := by decide +kernel
theorem dX10_isStill_8 : decode cX10_isStill 8 = .ok (.getfield 9, 3) := by decide +kernel
theorem dX10_isStill_11 : decode cX10_isStill 11 = .ok (.iconst 1, 1) := by decide +kernel
theorem dX10_isStill_12 : decode cX10_isStill 12 = .ok (.iaload, 1) := by decide +kernel
theorem dX10_isStill_13 : decode cX10_isStill 13 = .ok (.if_icmp .ge 20, 3) := by decide +kernel
theorem dX10_isStill_16 : decode cX10_isStill 16 = .ok (.aload_n 0, 1) := by decide +kernel
theorem dX10_isStill_17 : decode cX10_isStill 17 = .ok (.getfield 19, 3) := by decide +kernel
theorem dX10_isStill_20 : decode cX10_isStill 20 = .ok (.iload_n 1, 1) := by decide +kernel
theorem dX10_isStill_21 : decode cX10_isStill 21 = .ok (.iaload, 1) := by decide +kernel
theorem dX10_isStill_22 : decode cX10_isStill 22 = .ok (.ifCond .eq 5, 3) := by decide +kernel
theorem dX10_isStill_25 : decode cX10_isStill 25 = .ok (.iconst 0, 1) := by decide +kernel
theorem dX10_isStill_26 : decode cX10_isStill 26 = .ok (.ireturn, 1) := by decide +kernel
theorem dX10_isStill_27 : decode cX10_isStill 27 = .ok (.iinc 1 1, 3) := by decide +kernel
theorem dX10_isStill_30 : decode cX10_isStill 30 = .ok (.goto (-24), 3) := by decide +kernel
theorem dX10_isStill_33 : decode cX10_isStill 33 = .ok (.iconst 1, 1) := by decide +kernel
theorem dX10_isStill_34 : decode cX10_isStill 34 = .ok (.ireturn, 1) := by decide +kernel
theorem dX10_still_0 : decode cX10_still 0 = .ok (.aload_n 0, 1) := by decide +kernel
theorem dX10_still_1 : decode cX10_still 1 = .ok (.invokevirtual 176, 3) := by decide +kernel
theorem dX10_still_4 : decode cX10_still 4 = .ok (.iconst 0, 1) := by decide +kernel
theorem dX10_still_5 : decode cX10_still 5 = .ok (.istore_n 1, 1) := by decide +kernel
theorem dX10_still_6 : decode cX10_still 6 = .ok (.iload_n 1, 1) := by decide +kernel
theorem dX10_still_7 : decode cX10_still 7 = .ok (.sipush 200, 3) := by decide +kernel
theorem dX10_still_10 : decode cX10_still 10 = .ok (.if_icmp .gt 21, 3) := by decide +kernel
theorem dX10_still_13 : decode cX10_still 13 = .ok (.aload_n 0, 1) := by decide +kernel
theorem dX10_still_14 : decode cX10_still 14 = .ok (.invokevirtual 182, 3) := by decide +kernel
theorem dX10_still_17 : decode cX10_still 17 = .ok (.ifCond .ne 14, 3) := by decide +kernel
theorem dX10_still_20 : decode cX10_still 20 = .ok (.aload_n 0, 1) := by decide +kernel
theorem dX10_still_21 : decode cX10_still 21 = .ok (.invokevirtual 161, 3) := by decide +kernel
theorem dX10_still_24 : decode cX10_still 24 = .ok (.istore_n 2, 1) := by decide +kernel
theorem dX10_still_25 : decode cX10_still 25 = .ok (.iinc 1 1, 3) := by decide +kernel
theorem dX10_still_28 : decode cX10_still 28 = .ok (.goto (-22), 3) := by decide +kernel
theorem dX10_still_31 : decode cX10_still 31 = .ok (.aload_n 0, 1) := by decide +kernel
theorem dX10_still_32 : decode cX10_still 32 = .ok (.invokevirtual 179, 3) := by decide +kernel
theorem dX10_still_35 : decode cX10_still 35 = .ok (.iload_n 1, 1) := by decide +kernel
theorem dX10_still_36 : decode cX10_still 36 = .ok (.sipush 200, 3) := by decide +kernel
theorem dX10_still_39 : decode cX10_still 39 = .ok (.if_icmp .gt 7, 3) := by decide +kernel
theorem dX10_still_42 : decode cX10_still 42 = .ok (.iload_n 1, 1) := by decide +kernel
theorem dX10_still_43 : decode cX10_still 43 = .ok (.goto 5, 3) := by decide +kernel
theorem dX10_still_46 : decode cX10_still 46 = .ok (.ldc 186, 2) := by decide +kernel
theorem dX10_still_48 : decode cX10_still 48 = .ok (.ireturn, 1) := by decide +kernel
theorem dX10_bitsOf_0 : decode cX10_bitsOf 0 = .ok (.iconst 0, 1) := by decide +kernel
theorem dX10_bitsOf_1 : decode cX10_bitsOf 1 = .ok (.istore_n 1, 1) := by decide +kernel
theorem dX10_bitsOf_2 : decode cX10_bitsOf 2 = .ok (.iconst 0, 1) := by decide +kernel
theorem dX10_bitsOf_3 : decode cX10_bitsOf 3 = .ok (.istore_n 2, 1) := by decide +kernel
theorem dX10_bitsOf_4 : decode cX10_bitsOf 4 = .ok (.iload_n 2, 1) := by decide +kernel
theorem dX10_bitsOf_5 : decode cX10_bitsOf 5 = .ok (.bipush 10, 2) := by decide +kernel
theorem dX10_bitsOf_7 : decode cX10_bitsOf 7 = .ok (.if_icmp .ge 17, 3) := by decide +kernel
theorem dX10_bitsOf_10 : decode cX10_bitsOf 10 = .ok (.iload_n 1, 1) := by decide +kernel
theorem dX10_bitsOf_11 : decode cX10_bitsOf 11 = .ok (.iload_n 0, 1) := by decide +kernel
theorem dX10_bitsOf_12 : decode cX10_bitsOf 12 = .ok (.iload_n 2, 1) := by decide +kernel
theorem dX10_bitsOf_13 : decode cX10_bitsOf 13 = .ok (.ishr, 1) := by decide +kernel
theorem dX10_bitsOf_14 : decode cX10_bitsOf 14 = .ok (.iconst 1, 1) := by decide +kernel
theorem dX10_bitsOf_15 : decode cX10_bitsOf 15 = .ok (.iand, 1) := by decide +kernel
theorem dX10_bitsOf_16 : decode cX10_bitsOf 16 = .ok (.iadd, 1) := by decide +kernel
theorem dX10_bitsOf_17 : decode cX10_bitsOf 17 = .ok (.istore_n 1, 1) := by decide +kernel
theorem dX10_bitsOf_18 : decode cX10_bitsOf 18 = .ok (.iinc 2 1, 3) := by decide +kernel
theorem dX10_bitsOf_21 : decode cX10_bitsOf 21 = .ok (.goto (-17), 3) := by decide +kernel
theorem dX10_bitsOf_24 : decode cX10_bitsOf 24 = .ok (.iload_n 1, 1) := by decide +kernel
theorem dX10_bitsOf_25 : decode cX10_bitsOf 25 = .ok (.ireturn, 1) := by decide +kernel
theorem dX10_isCalm_0 : decode cX10_isCalm 0 = .ok (.iconst 0, 1) := by decide +kernel
theorem dX10_isCalm_1 : decode cX10_isCalm 1 = .ok (.istore 5, 2) := by decide +kernel
theorem dX10_isCalm_3 : decode cX10_isCalm 3 = .ok (.iload 5, 2) := by decide +kernel
theorem dX10_isCalm_5 : decode cX10_isCalm 5 = .ok (.aload_n 0, 1) := by decide +kernel
theorem dX10_isCalm_6 : decode cX10_isCalm 6 = .ok (.getfield 9, 3) := by decide +kernel
theorem dX10_isCalm_9 : decode cX10_isCalm 9 = .ok (.iconst 1, 1) := by decide +kernel
theorem dX10_isCalm_10 : decode cX10_isCalm 10 = .ok (.iaload, 1) := by decide +kernel
theorem dX10_isCalm_11 : decode cX10_isCalm 11 = .ok (.if_icmp .ge 45, 3) := by decide +kernel
theorem dX10_isCalm_14 : decode cX10_isCalm 14 = .ok (.aload_n 0, 1) := by decide +kernel
theorem dX10_isCalm_15 : decode cX10_isCalm 15 = .ok (.getfield 9, 3) := by decide +kernel
theorem dX10_isCalm_18 : decode cX10_isCalm 18 = .ok (.bipush 38, 2) := by decide +kernel
theorem dX10_isCalm_20 : decode cX10_isCalm 20 = .ok (.iconst 5, 1) := by decide +kernel
theorem dX10_isCalm_21 : decode cX10_isCalm 21 = .ok (.iload 5, 2) := by decide +kernel
theorem dX10_isCalm_23 : decode cX10_isCalm 23 = .ok (.imul, 1) := by decide +kernel
theorem dX10_isCalm_24 : decode cX10_isCalm 24 = .ok (.iadd, 1) := by decide +kernel
theorem dX10_isCalm_25 : decode cX10_isCalm 25 = .ok (.iconst 4, 1) := by decide +kernel
theorem dX10_isCalm_26 : decode cX10_isCalm 26 = .ok (.iadd, 1) := by decide +kernel
theorem dX10_isCalm_27 : decode cX10_isCalm 27 = .ok (.iload 4, 2) := by decide +kernel
theorem dX10_isCalm_29 : decode cX10_isCalm 29 = .ok (.iload 5, 2) := by decide +kernel
theorem dX10_isCalm_31 : decode cX10_isCalm 31 = .ok (.ishr, 1) := by decide +kernel
theorem dX10_isCalm_32 : decode cX10_isCalm 32 = .ok (.iconst 1, 1) := by decide +kernel
theorem dX10_isCalm_33 : decode cX10_isCalm 33 = .ok (.iand, 1) := by decide +kernel
theorem dX10_isCalm_34 : decode cX10_isCalm 34 = .ok (.iconst 1, 1) := by decide +kernel
theorem dX10_isCalm_35 : decode cX10_isCalm 35 = .ok (.if_icmp .ne 7, 3) := by decide +kernel
theorem dX10_isCalm_38 : decode cX10_isCalm 38 = .ok (.iconst 0, 1) := by decide +kernel
theorem dX10_isCalm_39 : decode cX10_isCalm 39 = .ok (.goto 10, 3) := by decide +kernel
theorem dX10_isCalm_42 : decode cX10_isCalm 42 = .ok (.aload_n 0, 1) := by decide +kernel
theorem dX10_isCalm_43 : decode cX10_isCalm 43 = .ok (.iload 5, 2) := by decide +kernel
theorem dX10_isCalm_45 : decode cX10_isCalm 45 = .ok (.iconst 4, 1) := by decide +kernel
theorem dX10_isCalm_46 : decode cX10_isCalm 46 = .ok (.invokevirtual 101, 3) := by decide +kernel
theorem dX10_isCalm_49 : decode cX10_isCalm 49 = .ok (.iastore, 1) := by decide +kernel
theorem dX10_isCalm_50 : decode cX10_isCalm 50 = .ok (.iinc 5 1, 3) := by decide +kernel
theorem dX10_isCalm_53 : decode cX10_isCalm 53 = .ok (.goto (-50), 3) := by decide +kernel
theorem dX10_isCalm_56 : decode cX10_isCalm 56 = .ok (.iconst 1, 1) := by decide +kernel
theorem dX10_isCalm_57 : decode cX10_isCalm 57 = .ok (.istore 5, 2) := by decide +kernel
theorem dX10_isCalm_59 : decode cX10_isCalm 59 = .ok (.iconst 0, 1) := by decide +kernel
theorem dX10_isCalm_60 : decode cX10_isCalm 60 = .ok (.istore 6, 2) := by decide +kernel
theorem dX10_isCalm_62 : decode cX10_isCalm 62 = .ok (.iload 6, 2) := by decide +kernel
theorem dX10_isCalm_64 : decode cX10_isCalm 64 = .ok (.iload_n 3, 1) := by decide +kernel
theorem dX10_isCalm_65 : decode cX10_isCalm 65 = .ok (.if_icmp .gt 41, 3) := by decide +kernel
theorem dX10_isCalm_68 : decode cX10_isCalm 68 = .ok (.iload 5, 2) := by decide +kernel
theorem dX10_isCalm_70 : decode cX10_isCalm 70 = .ok (.ifCond .eq 36, 3) := by decide +kernel
theorem dX10_isCalm_73 : decode cX10_isCalm 73 = .ok (.aload_n 0, 1) := by decide +kernel
theorem dX10_isCalm_74 : decode cX10_isCalm 74 = .ok (.invokevirtual 144, 3) := by decide +kernel
theorem dX10_isCalm_77 : decode cX10_isCalm 77 = .ok (.aload_n 0, 1) := by decide +kernel
theorem dX10_isCalm_78 : decode cX10_isCalm 78 = .ok (.getfield 22, 3) := by decide +kernel
theorem dX10_isCalm_81 : decode cX10_isCalm 81 = .ok (.iload_n 1, 1) := by decide +kernel
theorem dX10_isCalm_82 : decode cX10_isCalm 82 = .ok (.iaload, 1) := by decide +kernel
theorem dX10_isCalm_83 : decode cX10_isCalm 83 = .ok (.iload_n 2, 1) := by decide +kernel
theorem dX10_isCalm_84 : decode cX10_isCalm 84 = .ok (.if_icmp .gt 7, 3) := by decide +kernel
theorem dX10_isCalm_87 : decode cX10_isCalm 87 = .ok (.iconst 1, 1) := by decide +kernel
theorem dX10_isCalm_88 : decode cX10_isCalm 88 = .ok (.goto 4, 3) := by decide +kernel
theorem dX10_isCalm_91 : decode cX10_isCalm 91 = .ok (.iconst 0, 1) := by decide +kernel
theorem dX10_isCalm_92 : decode cX10_isCalm 92 = .ok (.istore 5, 2) := by decide +kernel
theorem dX10_isCalm_94 : decode cX10_isCalm 94 = .ok (.aload_n 0, 1) := by decide +kernel
theorem dX10_isCalm_95 : decode cX10_isCalm 95 = .ok (.invokevirtual 161, 3) := by decide +kernel
theorem dX10_isCalm_98 : decode cX10_isCalm 98 = .ok (.istore 7, 2) := by decide +kernel
theorem dX10_isCalm_100 : decode cX10_isCalm 100 = .ok (.iinc 6 1, 3) := by decide +kernel
theorem dX10_isCalm_103 : decode cX10_isCalm 103 = .ok (.goto (-41), 3) := by decide +kernel
theorem dX10_isCalm_106 : decode cX10_isCalm 106 = .ok (.aload_n 0, 1) := by decide +kernel
theorem dX10_isCalm_107 : decode cX10_isCalm 107 = .ok (.invokevirtual 179, 3) := by decide +kernel
theorem dX10_isCalm_110 : decode cX10_isCalm 110 = .ok (.iload 5, 2) := by decide +kernel
theorem dX10_isCalm_112 : decode cX10_isCalm 112 = .ok (.ireturn, 1) := by decide +kernel
theorem dX10_birth_0 : decode cX10_birth 0 = .ok (.iload_n 1, 1) := by decide +kernel
theorem dX10_birth_1 : decode cX10_birth 1 = .ok (.invokestatic 91, 3) := by decide +kernel
theorem dX10_birth_4 : decode cX10_birth 4 = .ok (.ifCond .eq 23, 3) := by decide +kernel
theorem dX10_birth_7 : decode cX10_birth 7 = .ok (.iload_n 2, 1) := by decide +kernel
theorem dX10_birth_8 : decode cX10_birth 8 = .ok (.iconst 0, 1) := by decide +kernel
theorem dX10_birth_9 : decode cX10_birth 9 = .ok (.sipush 999, 3) := by decide +kernel
theorem dX10_birth_12 : decode cX10_birth 12 = .ok (.invokestatic 87, 3) := by decide +kernel
theorem dX10_birth_15 : decode cX10_birth 15 = .ok (.ifCond .eq 12, 3) := by decide +kernel
theorem dX10_birth_18 : decode cX10_birth 18 = .ok (.iload_n 3, 1) := by decide +kernel
theorem dX10_birth_19 : decode cX10_birth 19 = .ok (.iconst 0, 1) := by decide +kernel
theorem dX10_birth_20 : decode cX10_birth 20 = .ok (.iconst 5, 1) := by decide +kernel
theorem dX10_birth_21 : decode cX10_birth 21 = .ok (.invokestatic 87, 3) := by decide +kernel
theorem dX10_birth_24 : decode cX10_birth 24 = .ok (.ifCond .ne 6, 3) := by decide +kernel
theorem dX10_birth_27 : decode cX10_birth 27 = .ok (.ldc 95, 2) := by decide +kernel
theorem dX10_birth_29 : decode cX10_birth 29 = .ok (.ireturn, 1) := by decide +kernel
theorem dX10_birth_30 : decode cX10_birth 30 = .ok (.aload_n 0, 1) := by decide +kernel
theorem dX10_birth_31 : decode cX10_birth 31 = .ok (.invokevirtual 176, 3) := by decide +kernel
theorem dX10_birth_34 : decode cX10_birth 34 = .ok (.aload_n 0, 1) := by decide +kernel
theorem dX10_birth_35 : decode cX10_birth 35 = .ok (.invokevirtual 173, 3) := by decide +kernel
theorem dX10_birth_38 : decode cX10_birth 38 = .ok (.istore 4, 2) := by decide +kernel
theorem dX10_birth_40 : decode cX10_birth 40 = .ok (.ldc 186, 2) := by decide +kernel
theorem dX10_birth_42 : decode cX10_birth 42 = .ok (.istore 5, 2) := by decide +kernel
theorem dX10_birth_44 : decode cX10_birth 44 = .ok (.iconst 0, 1) := by decide +kernel
theorem dX10_birth_45 : decode cX10_birth 45 = .ok (.istore 6, 2) := by decide +kernel
theorem dX10_birth_47 : decode cX10_birth 47 = .ok (.iload 6, 2) := by decide +kernel
theorem dX10_birth_49 : decode cX10_birth 49 = .ok (.iconst 1, 1) := by decide +kernel
theorem dX10_birth_50 : decode cX10_birth 50 = .ok (.aload_n 0, 1) := by decide +kernel
theorem dX10_birth_51 : decode cX10_birth 51 = .ok (.getfield 9, 3) := by decide +kernel
theorem dX10_birth_54 : decode cX10_birth 54 = .ok (.iconst 1, 1) := by decide +kernel
theorem dX10_birth_55 : decode cX10_birth 55 = .ok (.iaload, 1) := by decide +kernel
theorem dX10_birth_56 : decode cX10_birth 56 = .ok (.ishl, 1) := by decide +kernel
theorem dX10_birth_57 : decode cX10_birth 57 = .ok (.if_icmp .ge 72, 3) := by decide +kernel
theorem dX10_birth_60 : decode cX10_birth 60 = .ok (.iload 6, 2) := by decide +kernel
theorem dX10_birth_62 : decode cX10_birth 62 = .ok (.iload 4, 2) := by decide +kernel
theorem dX10_birth_64 : decode cX10_birth 64 = .ok (.iconst (-1), 1) := by decide +kernel
theorem dX10_birth_65 : decode cX10_birth 65 = .ok (.ixor, 1) := by decide +kernel
theorem dX10_birth_66 : decode cX10_birth 66 = .ok (.iand, 1) := by decide +kernel
theorem dX10_birth_67 : decode cX10_birth 67 = .ok (.ifCond .ne 27, 3) := by decide +kernel
theorem dX10_birth_70 : decode cX10_birth 70 = .ok (.iload 5, 2) := by decide +kernel
theorem dX10_birth_72 : decode cX10_birth 72 = .ok (.ldc 186, 2) := by decide +kernel
theorem dX10_birth_74 : decode cX10_birth 74 = .ok (.if_icmp .eq 16, 3) := by decide +kernel
theorem dX10_birth_77 : decode cX10_birth 77 = .ok (.iload 6, 2) := by decide +kernel
theorem dX10_birth_79 : decode cX10_birth 79 = .ok (.invokestatic 187, 3) := by decide +kernel
theorem dX10_birth_82 : decode cX10_birth 82 = .ok (.iload 5, 2) := by decide +kernel
theorem dX10_birth_84 : decode cX10_birth 84 = .ok (.invokestatic 187, 3) := by decide +kernel
theorem dX10_birth_87 : decode cX10_birth 87 = .ok (.if_icmp .ge 7, 3) := by decide +kernel
theorem dX10_birth_90 : decode cX10_birth 90 = .ok (.iconst 1, 1) := by decide +kernel
theorem dX10_birth_91 : decode cX10_birth 91 = .ok (.goto 4, 3) := by decide +kernel
theorem dX10_birth_94 : decode cX10_birth 94 = .ok (.iconst 0, 1) := by decide +kernel
theorem dX10_birth_95 : decode cX10_birth 95 = .ok (.istore 7, 2) := by decide +kernel
theorem dX10_birth_97 : decode cX10_birth 97 = .ok (.iload 7, 2) := by decide +kernel
theorem dX10_birth_99 : decode cX10_birth 99 = .ok (.ifCond .eq 20, 3) := by decide +kernel
theorem dX10_birth_102 : decode cX10_birth 102 = .ok (.aload_n 0, 1) := by decide +kernel
theorem dX10_birth_103 : decode cX10_birth 103 = .ok (.iload_n 1, 1) := by decide +kernel
theorem dX10_birth_104 : decode cX10_birth 104 = .ok (.iload_n 2, 1) := by decide +kernel
theorem dX10_birth_105 : decode cX10_birth 105 = .ok (.iload_n 3, 1) := by decide +kernel
theorem dX10_birth_106 : decode cX10_birth 106 = .ok (.iload 6, 2) := by decide +kernel
theorem dX10_birth_108 : decode cX10_birth 108 = .ok (.invokevirtual 190, 3) := by decide +kernel
theorem dX10_birth_111 : decode cX10_birth 111 = .ok (.ifCond .eq 8, 3) := by decide +kernel
theorem dX10_birth_114 : decode cX10_birth 114 = .ok (.iload 6, 2) := by decide +kernel
theorem dX10_birth_116 : decode cX10_birth 116 = .ok (.goto 5, 3) := by decide +kernel
theorem dX10_birth_119 : decode cX10_birth 119 = .ok (.iload 5, 2) := by decide +kernel
theorem dX10_birth_121 : decode cX10_birth 121 = .ok (.istore 5, 2) := by decide +kernel
theorem dX10_birth_123 : decode cX10_birth 123 = .ok (.iinc 6 1, 3) := by decide +kernel
theorem dX10_birth_126 : decode cX10_birth 126 = .ok (.goto (-79), 3) := by decide +kernel
theorem dX10_birth_129 : decode cX10_birth 129 = .ok (.iload 5, 2) := by decide +kernel
theorem dX10_birth_131 : decode cX10_birth 131 = .ok (.ireturn, 1) := by decide +kernel
theorem dX10_smells_0 : decode cX10_smells 0 = .ok (.iload_n 1, 1) := by decide +kernel
theorem dX10_smells_1 : decode cX10_smells 1 = .ok (.invokestatic 91, 3) := by decide +kernel
theorem dX10_smells_4 : decode cX10_smells 4 = .ok (.ifCond .eq 13, 3) := by decide +kernel
theorem dX10_smells_7 : decode cX10_smells 7 = .ok (.iload_n 2, 1) := by decide +kernel
theorem dX10_smells_8 : decode cX10_smells 8 = .ok (.iconst 0, 1) := by decide +kernel
theorem dX10_smells_9 : decode cX10_smells 9 = .ok (.bipush 60, 2) := by decide +kernel
theorem dX10_smells_11 : decode cX10_smells 11 = .ok (.invokestatic 87, 3) := by decide +kernel
theorem dX10_smells_14 : decode cX10_smells 14 = .ok (.ifCond .ne 6, 3) := by decide +kernel
theorem dX10_smells_17 : decode cX10_smells 17 = .ok (.ldc 95, 2) := by decide +kernel
theorem dX10_smells_19 : decode cX10_smells 19 = .ok (.ireturn, 1) := by decide +kernel
theorem dX10_smells_20 : decode cX10_smells 20 = .ok (.aload_n 0, 1) := by decide +kernel
theorem dX10_smells_21 : decode cX10_smells 21 = .ok (.invokevirtual 176, 3) := by decide +kernel
theorem dX10_smells_24 : decode cX10_smells 24 = .ok (.iconst 0, 1) := by decide +kernel
theorem dX10_smells_25 : decode cX10_smells 25 = .ok (.istore_n 3, 1) := by decide +kernel
theorem dX10_smells_26 : decode cX10_smells 26 = .ok (.iload_n 3, 1) := by decide +kernel
theorem dX10_smells_27 : decode cX10_smells 27 = .ok (.bipush 8, 2) := by decide +kernel
theorem dX10_smells_29 : decode cX10_smells 29 = .ok (.if_icmp .ge 34, 3) := by decide +kernel
theorem dX10_smells_32 : decode cX10_smells 32 = .ok (.aload_n 0, 1) := by decide +kernel
theorem dX10_smells_33 : decode cX10_smells 33 = .ok (.getfield 9, 3) := by decide +kernel
theorem dX10_smells_36 : decode cX10_smells 36 = .ok (.bipush 6, 2) := by decide +kernel
theorem dX10_smells_38 : decode cX10_smells 38 = .ok (.iconst 4, 1) := by decide +kernel
theorem dX10_smells_39 : decode cX10_smells 39 = .ok (.iload_n 3, 1) := by decide +kernel
theorem dX10_smells_40 : decode cX10_smells 40 = .ok (.imul, 1) := by decide +kernel
theorem dX10_smells_41 : decode cX10_smells 41 = .ok (.iadd, 1) := by decide +kernel
theorem dX10_smells_42 : decode cX10_smells 42 = .ok (.iconst 2, 1) := by decide +kernel
theorem dX10_smells_43 : decode cX10_smells 43 = .ok (.iadd, 1) := by decide +kernel
theorem dX10_smells_44 : decode cX10_smells 44 = .ok (.iload_n 3, 1) := by decide +kernel
theorem dX10_smells_45 : decode cX10_smells 45 = .ok (.iload_n 1, 1) := by decide +kernel
theorem dX10_smells_46 : decode cX10_smells 46 = .ok (.if_icmp .ne 9, 3) := by decide +kernel
theorem dX10_smells_49 : decode cX10_smells 49 = .ok (.sipush 9999, 3) := by decide +kernel
theorem dX10_smells_52 : decode cX10_smells 52 = .ok (.goto 4, 3) := by decide +kernel
theorem dX10_smells_55 : decode cX10_smells 55 = .ok (.iconst 0, 1) := by decide +kernel
theorem dX10_smells_56 : decode cX10_smells 56 = .ok (.iastore, 1) := by decide +kernel
theorem dX10_smells_57 : decode cX10_smells 57 = .ok (.iinc 3 1, 3) := by decide +kernel
theorem dX10_smells_60 : decode cX10_smells 60 = .ok (.goto (-34), 3) := by decide +kernel
theorem dX10_smells_63 : decode cX10_smells 63 = .ok (.aload_n 0, 1) := by decide +kernel
theorem dX10_smells_64 : decode cX10_smells 64 = .ok (.iload_n 2, 1) := by decide +kernel
theorem dX10_smells_65 : decode cX10_smells 65 = .ok (.invokevirtual 164, 3) := by decide +kernel
theorem dX10_smells_68 : decode cX10_smells 68 = .ok (.istore_n 3, 1) := by decide +kernel
theorem dX10_smells_69 : decode cX10_smells 69 = .ok (.iconst 0, 1) := by decide +kernel
theorem dX10_smells_70 : decode cX10_smells 70 = .ok (.istore 4, 2) := by decide +kernel
theorem dX10_smells_72 : decode cX10_smells 72 = .ok (.iconst 0, 1) := by decide +kernel
theorem dX10_smells_73 : decode cX10_smells 73 = .ok (.istore 5, 2) := by decide +kernel
theorem dX10_smells_75 : decode cX10_smells 75 = .ok (.iload 5, 2) := by decide +kernel
theorem dX10_smells_77 : decode cX10_smells 77 = .ok (.bipush 8, 2) := by decide +kernel
theorem dX10_smells_79 : decode cX10_smells 79 = .ok (.if_icmp .ge 32, 3) := by decide +kernel
theorem dX10_smells_82 : decode cX10_smells 82 = .ok (.iload 4, 2) := by decide +kernel
theorem dX10_smells_84 : decode cX10_smells 84 = .ok (.aload_n 0, 1) := by decide +kernel
theorem dX10_smells_85 : decode cX10_smells 85 = .ok (.iload 5, 2) := by decide +kernel
theorem dX10_smells_87 : decode cX10_smells 87 = .ok (.iconst 2, 1) := by decide +kernel
theorem dX10_smells_88 : decode cX10_smells 88 = .ok (.invokevirtual 116, 3) := by decide +kernel
theorem dX10_smells_91 : decode cX10_smells 91 = .ok (.ifCond .le 10, 3) := by decide +kernel
theorem dX10_smells_94 : decode cX10_smells 94 = .ok (.iconst 1, 1) := by decide +kernel
theorem dX10_smells_95 : decode cX10_smells 95 = .ok (.iload 5, 2) := by decide +kernel
theorem dX10_smells_97 : decode cX10_smells 97 = .ok (.ishl, 1) := by decide +kernel
theorem dX10_smells_98 : decode cX10_smells 98 = .ok (.goto 4, 3) := by decide +kernel
theorem dX10_smells_101 : decode cX10_smells 101 = .ok (.iconst 0, 1) := by decide +kernel
theorem dX10_smells_102 : decode cX10_smells 102 = .ok (.ior, 1) := by decide +kernel
theorem dX10_smells_103 : decode cX10_smells 103 = .ok (.istore 4, 2) := by decide +kernel
theorem dX10_smells_105 : decode cX10_smells 105 = .ok (.iinc 5 1, 3) := by decide +kernel
theorem dX10_smells_108 : decode cX10_smells 108 = .ok (.goto (-33), 3) := by decide +kernel
theorem dX10_smells_111 : decode cX10_smells 111 = .ok (.aload_n 0, 1) := by decide +kernel
theorem dX10_smells_112 : decode cX10_smells 112 = .ok (.invokevirtual 179, 3) := by decide +kernel
theorem dX10_smells_115 : decode cX10_smells 115 = .ok (.iload 4, 2) := by decide +kernel
theorem dX10_smells_117 : decode cX10_smells 117 = .ok (.ireturn, 1) := by decide +kernel
theorem dX10_litBehind_0 : decode cX10_litBehind 0 = .ok (.aload_n 0, 1) := by decide +kernel
theorem dX10_litBehind_1 : decode cX10_litBehind 1 = .ok (.getfield 9, 3) := by decide +kernel
theorem dX10_litBehind_4 : decode cX10_litBehind 4 = .ok (.bipush 38, 2) := by decide +kernel
theorem dX10_litBehind_6 : decode cX10_litBehind 6 = .ok (.iconst 5, 1) := by decide +kernel
theorem dX10_litBehind_7 : decode cX10_litBehind 7 = .ok (.iload_n 1, 1) := by decide +kernel
theorem dX10_litBehind_8 : decode cX10_litBehind 8 = .ok (.imul, 1) := by decide +kernel
theorem dX10_litBehind_9 : decode cX10_litBehind 9 = .ok (.iadd, 1) := by decide +kernel
theorem dX10_litBehind_10 : decode cX10_litBehind 10 = .ok (.iconst 4, 1) := by decide +kernel
theorem dX10_litBehind_11 : decode cX10_litBehind 11 = .ok (.iadd, 1) := by decide +kernel
theorem dX10_litBehind_12 : decode cX10_litBehind 12 = .ok (.iload_n 2, 1) := by decide +kernel
theorem dX10_litBehind_13 : decode cX10_litBehind 13 = .ok (.iastore, 1) := by decide +kernel
theorem dX10_litBehind_14 : decode cX10_litBehind 14 = .ok (.aload_n 0, 1) := by decide +kernel
theorem dX10_litBehind_15 : decode cX10_litBehind 15 = .ok (.iload_n 3, 1) := by decide +kernel
theorem dX10_litBehind_16 : decode cX10_litBehind 16 = .ok (.invokevirtual 164, 3) := by decide +kernel
theorem dX10_litBehind_19 : decode cX10_litBehind 19 = .ok (.istore 4, 2) := by decide +kernel
theorem dX10_litBehind_21 : decode cX10_litBehind 21 = .ok (.aload_n 0, 1) := by decide +kernel
theorem dX10_litBehind_22 : decode cX10_litBehind 22 = .ok (.iconst 3, 1) := by decide +kernel
theorem dX10_litBehind_23 : decode cX10_litBehind 23 = .ok (.invokevirtual 167, 3) := by decide +kernel
theorem dX10_litBehind_26 : decode cX10_litBehind 26 = .ok (.istore 5, 2) := by decide +kernel
theorem dX10_litBehind_28 : decode cX10_litBehind 28 = .ok (.aload_n 0, 1) := by decide +kernel
theorem dX10_litBehind_29 : decode cX10_litBehind 29 = .ok (.invokevirtual 179, 3) := by decide +kernel
theorem dX10_litBehind_32 : decode cX10_litBehind 32 = .ok (.iload 5, 2) := by decide +kernel
theorem dX10_litBehind_34 : decode cX10_litBehind 34 = .ok (.ireturn, 1) := by decide +kernel
theorem dX10_snuffs_0 : decode cX10_snuffs 0 = .ok (.aload_n 0, 1) := by decide +kernel
theorem dX10_snuffs_1 : decode cX10_snuffs 1 = .ok (.iload_n 1, 1) := by decide +kernel
theorem dX10_snuffs_2 : decode cX10_snuffs 2 = .ok (.invokevirtual 127, 3) := by decide +kernel
theorem dX10_snuffs_5 : decode cX10_snuffs 5 = .ok (.ifCond .eq 13, 3) := by decide +kernel
theorem dX10_snuffs_8 : decode cX10_snuffs 8 = .ok (.iload_n 2, 1) := by decide +kernel
theorem dX10_snuffs_9 : decode cX10_snuffs 9 = .ok (.iconst 1, 1) := by decide +kernel
theorem dX10_snuffs_10 : decode cX10_snuffs 10 = .ok (.bipush 60, 2) := by decide +kernel
theorem dX10_snuffs_12 : decode cX10_snuffs 12 = .ok (.invokestatic 87, 3) := by decide +kernel
theorem dX10_snuffs_15 : decode cX10_snuffs 15 = .ok (.ifCond .ne 6, 3) := by decide +kernel
theorem dX10_snuffs_18 : decode cX10_snuffs 18 = .ok (.ldc 95, 2) := by decide +kernel
theorem dX10_snuffs_20 : decode cX10_snuffs 20 = .ok (.ireturn, 1) := by decide +kernel
theorem dX10_snuffs_21 : decode cX10_snuffs 21 = .ok (.aload_n 0, 1) := by decide +kernel
theorem dX10_snuffs_22 : decode cX10_snuffs 22 = .ok (.invokevirtual 176, 3) := by decide +kernel
theorem dX10_snuffs_25 : decode cX10_snuffs 25 = .ok (.aload_n 0, 1) := by decide +kernel
theorem dX10_snuffs_26 : decode cX10_snuffs 26 = .ok (.iload_n 1, 1) := by decide +kernel
theorem dX10_snuffs_27 : decode cX10_snuffs 27 = .ok (.iconst 0, 1) := by decide +kernel
theorem dX10_snuffs_28 : decode cX10_snuffs 28 = .ok (.iload_n 2, 1) := by decide +kernel
theorem dX10_snuffs_29 : decode cX10_snuffs 29 = .ok (.invokevirtual 194, 3) := by decide +kernel
theorem dX10_snuffs_32 : decode cX10_snuffs 32 = .ok (.istore_n 3, 1) := by decide +kernel
theorem dX10_snuffs_33 : decode cX10_snuffs 33 = .ok (.iload_n 3, 1) := by decide +kernel
theorem dX10_snuffs_34 : decode cX10_snuffs 34 = .ok (.aload_n 0, 1) := by decide +kernel
theorem dX10_snuffs_35 : decode cX10_snuffs 35 = .ok (.iload_n 1, 1) := by decide +kernel
theorem dX10_snuffs_36 : decode cX10_snuffs 36 = .ok (.iconst 1, 1) := by decide +kernel
theorem dX10_snuffs_37 : decode cX10_snuffs 37 = .ok (.iload_n 2, 1) := by decide +kernel
theorem dX10_snuffs_38 : decode cX10_snuffs 38 = .ok (.invokevirtual 194, 3) := by decide +kernel
theorem dX10_snuffs_41 : decode cX10_snuffs 41 = .ok (.isub, 1) := by decide +kernel
theorem dX10_snuffs_42 : decode cX10_snuffs 42 = .ok (.ireturn, 1) := by decide +kernel
theorem dX10_storm_0 : decode cX10_storm 0 = .ok (.iload_n 1, 1) := by decide +kernel
theorem dX10_storm_1 : decode cX10_storm 1 = .ok (.iconst 1, 1) := by decide +kernel
theorem dX10_storm_2 : decode cX10_storm 2 = .ok (.bipush 20, 2) := by decide +kernel
theorem dX10_storm_4 : decode cX10_storm 4 = .ok (.invokestatic 87, 3) := by decide +kernel
theorem dX10_storm_7 : decode cX10_storm 7 = .ok (.ifCond .ne 6, 3) := by decide +kernel
theorem dX10_storm_10 : decode cX10_storm 10 = .ok (.ldc 95, 2) := by decide +kernel
theorem dX10_storm_12 : decode cX10_storm 12 = .ok (.ireturn, 1) := by decide +kernel
theorem dX10_storm_13 : decode cX10_storm 13 = .ok (.aload_n 0, 1) := by decide +kernel
theorem dX10_storm_14 : decode cX10_storm 14 = .ok (.invokevirtual 176, 3) := by decide +kernel
theorem dX10_storm_17 : decode cX10_storm 17 = .ok (.sipush 9999, 3) := by decide +kernel
theorem dX10_storm_20 : decode cX10_storm 20 = .ok (.istore_n 2, 1) := by decide +kernel
theorem dX10_storm_21 : decode cX10_storm 21 = .ok (.iload_n 2, 1) := by decide +kernel
theorem dX10_storm_22 : decode cX10_storm 22 = .ok (.ifCond .le 32, 3) := by decide +kernel
theorem dX10_storm_25 : decode cX10_storm 25 = .ok (.aload_n 0, 1) := by decide +kernel
theorem dX10_storm_26 : decode cX10_storm 26 = .ok (.getfield 9, 3) := by decide +kernel
theorem dX10_storm_29 : decode cX10_storm 29 = .ok (.iconst 3, 1) := by decide +kernel
theorem dX10_storm_30 : decode cX10_storm 30 = .ok (.iload_n 2, 1) := by decide +kernel
theorem dX10_storm_31 : decode cX10_storm 31 = .ok (.iastore, 1) := by decide +kernel
theorem dX10_storm_32 : decode cX10_storm 32 = .ok (.aload_n 0, 1) := by decide +kernel
theorem dX10_storm_33 : decode cX10_storm 33 = .ok (.iload_n 1, 1) := by decide +kernel
theorem dX10_storm_34 : decode cX10_storm 34 = .ok (.invokevirtual 164, 3) := by decide +kernel
theorem dX10_storm_37 : decode cX10_storm 37 = .ok (.istore_n 3, 1) := by decide +kernel
theorem dX10_storm_38 : decode cX10_storm 38 = .ok (.aload_n 0, 1) := by decide +kernel
theorem dX10_storm_39 : decode cX10_storm 39 = .ok (.invokevirtual 179, 3) := by decide +kernel
theorem dX10_storm_42 : decode cX10_storm 42 = .ok (.iload_n 3, 1) := by decide +kernel
theorem dX10_storm_43 : decode cX10_storm 43 = .ok (.ifCond .ne 5, 3) := by decide +kernel
theorem dX10_storm_46 : decode cX10_storm 46 = .ok (.iload_n 2, 1) := by decide +kernel
theorem dX10_storm_47 : decode cX10_storm 47 = .ok (.ireturn, 1) := by decide +kernel
theorem dX10_storm_48 : decode cX10_storm 48 = .ok (.iinc 2 (-100), 3) := by decide +kernel
theorem dX10_storm_51 : decode cX10_storm 51 = .ok (.goto (-30), 3) := by decide +kernel
theorem dX10_storm_54 : decode cX10_storm 54 = .ok (.ldc 186, 2) := by decide +kernel
theorem dX10_storm_56 : decode cX10_storm 56 = .ok (.ireturn, 1) := by decide +kernel
theorem dX10_offBy_0 : decode cX10_offBy 0 = .ok (.aload_n 0, 1) := by decide +kernel
theorem dX10_offBy_1 : decode cX10_offBy 1 = .ok (.getfield 9, 3) := by decide +kernel
theorem dX10_offBy_4 : decode cX10_offBy 4 = .ok (.bipush 38, 2) := by decide +kernel
theorem dX10_offBy_6 : decode cX10_offBy 6 = .ok (.iconst 5, 1) := by decide +kernel
theorem dX10_offBy_7 : decode cX10_offBy 7 = .ok (.iload_n 2, 1) := by decide +kernel
theorem dX10_offBy_8 : decode cX10_offBy 8 = .ok (.imul, 1) := by decide +kernel
theorem dX10_offBy_9 : decode cX10_offBy 9 = .ok (.iadd, 1) := by decide +kernel
theorem dX10_offBy_10 : decode cX10_offBy 10 = .ok (.iconst 4, 1) := by decide +kernel
theorem dX10_offBy_11 : decode cX10_offBy 11 = .ok (.iadd, 1) := by decide +kernel
theorem dX10_offBy_12 : decode cX10_offBy 12 = .ok (.iconst 1, 1) := by decide +kernel
theorem dX10_offBy_13 : decode cX10_offBy 13 = .ok (.aload_n 0, 1) := by decide +kernel
theorem dX10_offBy_14 : decode cX10_offBy 14 = .ok (.iload_n 2, 1) := by decide +kernel
theorem dX10_offBy_15 : decode cX10_offBy 15 = .ok (.iconst 4, 1) := by decide +kernel
theorem dX10_offBy_16 : decode cX10_offBy 16 = .ok (.invokevirtual 101, 3) := by decide +kernel
theorem dX10_offBy_19 : decode cX10_offBy 19 = .ok (.isub, 1) := by decide +kernel
theorem dX10_offBy_20 : decode cX10_offBy 20 = .ok (.iastore, 1) := by decide +kernel
theorem dX10_offBy_21 : decode cX10_offBy 21 = .ok (.aload_n 0, 1) := by decide +kernel
theorem dX10_offBy_22 : decode cX10_offBy 22 = .ok (.iload_n 3, 1) := by decide +kernel
theorem dX10_offBy_23 : decode cX10_offBy 23 = .ok (.invokevirtual 164, 3) := by decide +kernel
theorem dX10_offBy_26 : decode cX10_offBy 26 = .ok (.istore 4, 2) := by decide +kernel
theorem dX10_offBy_28 : decode cX10_offBy 28 = .ok (.lconst 0, 1) := by decide +kernel
theorem dX10_offBy_29 : decode cX10_offBy 29 = .ok (.lstore 5, 2) := by decide +kernel
theorem dX10_offBy_31 : decode cX10_offBy 31 = .ok (.iconst 0, 1) := by decide +kernel
theorem dX10_offBy_32 : decode cX10_offBy 32 = .ok (.istore 7, 2) := by decide +kernel
theorem dX10_offBy_34 : decode cX10_offBy 34 = .ok (.iload 7, 2) := by decide +kernel
theorem dX10_offBy_36 : decode cX10_offBy 36 = .ok (.aload_n 0, 1) := by decide +kernel
theorem dX10_offBy_37 : decode cX10_offBy 37 = .ok (.getfield 63, 3) := by decide +kernel
theorem dX10_offBy_40 : decode cX10_offBy 40 = .ok (.iload_n 1, 1) := by decide +kernel
theorem dX10_offBy_41 : decode cX10_offBy 41 = .ok (.iaload, 1) := by decide +kernel
theorem dX10_offBy_42 : decode cX10_offBy 42 = .ok (.if_icmp .ge 75, 3) := by decide +kernel
theorem dX10_offBy_45 : decode cX10_offBy 45 = .ok (.iload 7, 2) := by decide +kernel
theorem dX10_offBy_47 : decode cX10_offBy 47 = .ok (.bipush 8, 2) := by decide +kernel
theorem dX10_offBy_49 : decode cX10_offBy 49 = .ok (.if_icmp .ge 68, 3) := by decide +kernel
theorem dX10_offBy_52 : decode cX10_offBy 52 = .ok (.aload_n 0, 1) := by decide +kernel
theorem dX10_offBy_53 : decode cX10_offBy 53 = .ok (.getfield 66, 3) := by decide +kernel
theorem dX10_offBy_56 : decode cX10_offBy 56 = .ok (.bipush 24, 2) := by decide +kernel
theorem dX10_offBy_58 : decode cX10_offBy 58 = .ok (.iload_n 1, 1) := by decide +kernel
theorem dX10_offBy_59 : decode cX10_offBy 59 = .ok (.imul, 1) := by decide +kernel
theorem dX10_offBy_60 : decode cX10_offBy 60 = .ok (.iload 7, 2) := by decide +kernel
theorem dX10_offBy_62 : decode cX10_offBy 62 = .ok (.iadd, 1) := by decide +kernel
theorem dX10_offBy_63 : decode cX10_offBy 63 = .ok (.iaload, 1) := by decide +kernel
theorem dX10_offBy_64 : decode cX10_offBy 64 = .ok (.istore 8, 2) := by decide +kernel
theorem dX10_offBy_66 : decode cX10_offBy 66 = .ok (.iload 8, 2) := by decide +kernel
theorem dX10_offBy_68 : decode cX10_offBy 68 = .ok (.i2l, 1) := by decide +kernel
theorem dX10_offBy_69 : decode cX10_offBy 69 = .ok (.aload_n 0, 1) := by decide +kernel
theorem dX10_offBy_70 : decode cX10_offBy 70 = .ok (.iload 7, 2) := by decide +kernel
theorem dX10_offBy_72 : decode cX10_offBy 72 = .ok (.iconst 0, 1) := by decide +kernel
theorem dX10_offBy_73 : decode cX10_offBy 73 = .ok (.invokevirtual 116, 3) := by decide +kernel
theorem dX10_offBy_76 : decode cX10_offBy 76 = .ok (.i2l, 1) := by decide +kernel
theorem dX10_offBy_77 : decode cX10_offBy 77 = .ok (.lsub, 1) := by decide +kernel
theorem dX10_offBy_78 : decode cX10_offBy 78 = .ok (.lstore 9, 2) := by decide +kernel
theorem dX10_offBy_80 : decode cX10_offBy 80 = .ok (.lload 5, 2) := by decide +kernel
theorem dX10_offBy_82 : decode cX10_offBy 82 = .ok (.iload 8, 2) := by decide +kernel
theorem dX10_offBy_84 : decode cX10_offBy 84 = .ok (.ldc 186, 2) := by decide +kernel
theorem dX10_offBy_86 : decode cX10_offBy 86 = .ok (.if_icmp .ne 7, 3) := by decide +kernel
theorem dX10_offBy_89 : decode cX10_offBy 89 = .ok (.lconst 0, 1) := by decide +kernel
theorem dX10_offBy_90 : decode cX10_offBy 90 = .ok (.goto 18, 3) := by decide +kernel
theorem dX10_offBy_93 : decode cX10_offBy 93 = .ok (.lload 9, 2) := by decide +kernel
theorem dX10_offBy_95 : decode cX10_offBy 95 = .ok (.lconst 0, 1) := by decide +kernel
theorem dX10_offBy_96 : decode cX10_offBy 96 = .ok (.lcmp, 1) := by decide +kernel
theorem dX10_offBy_97 : decode cX10_offBy 97 = .ok (.ifCond .ge 9, 3) := by decide +kernel
theorem dX10_offBy_100 : decode cX10_offBy 100 = .ok (.lload 9, 2) := by decide +kernel
theorem dX10_offBy_102 : decode cX10_offBy 102 = .ok (.lneg, 1) := by decide +kernel
theorem dX10_offBy_103 : decode cX10_offBy 103 = .ok (.goto 5, 3) := by decide +kernel
theorem dX10_offBy_106 : decode cX10_offBy 106 = .ok (.lload 9, 2) := by decide +kernel
theorem dX10_offBy_108 : decode cX10_offBy 108 = .ok (.ladd, 1) := by decide +kernel
theorem dX10_offBy_109 : decode cX10_offBy 109 = .ok (.lstore 5, 2) := by decide +kernel
theorem dX10_offBy_111 : decode cX10_offBy 111 = .ok (.iinc 7 1, 3) := by decide +kernel
theorem dX10_offBy_114 : decode cX10_offBy 114 = .ok (.goto (-80), 3) := by decide +kernel
theorem dX10_offBy_117 : decode cX10_offBy 117 = .ok (.aload_n 0, 1) := by decide +kernel
theorem dX10_offBy_118 : decode cX10_offBy 118 = .ok (.invokevirtual 179, 3) := by decide +kernel
theorem dX10_offBy_121 : decode cX10_offBy 121 = .ok (.lload 5, 2) := by decide +kernel
theorem dX10_offBy_123 : decode cX10_offBy 123 = .ok (.lreturn, 1) := by decide +kernel
theorem dX10_opened_0 : decode cX10_opened 0 = .ok (.iload_n 1, 1) := by decide +kernel
theorem dX10_opened_1 : decode cX10_opened 1 = .ok (.invokestatic 197, 3) := by decide +kernel
theorem dX10_opened_4 : decode cX10_opened 4 = .ok (.ifCond .eq 22, 3) := by decide +kernel
theorem dX10_opened_7 : decode cX10_opened 7 = .ok (.iload_n 2, 1) := by decide +kernel
theorem dX10_opened_8 : decode cX10_opened 8 = .ok (.iconst 0, 1) := by decide +kernel
theorem dX10_opened_9 : decode cX10_opened 9 = .ok (.bipush 40, 2) := by decide +kernel
theorem dX10_opened_11 : decode cX10_opened 11 = .ok (.invokestatic 87, 3) := by decide +kernel
theorem dX10_opened_14 : decode cX10_opened 14 = .ok (.ifCond .eq 12, 3) := by decide +kernel
theorem dX10_opened_17 : decode cX10_opened 17 = .ok (.iload_n 3, 1) := by decide +kernel
theorem dX10_opened_18 : decode cX10_opened 18 = .ok (.iconst 0, 1) := by decide +kernel
theorem dX10_opened_19 : decode cX10_opened 19 = .ok (.iconst 1, 1) := by decide +kernel
theorem dX10_opened_20 : decode cX10_opened 20 = .ok (.invokestatic 87, 3) := by decide +kernel
theorem dX10_opened_23 : decode cX10_opened 23 = .ok (.ifCond .ne 6, 3) := by decide +kernel
theorem dX10_opened_26 : decode cX10_opened 26 = .ok (.ldc 95, 2) := by decide +kernel
theorem dX10_opened_28 : decode cX10_opened 28 = .ok (.ireturn, 1) := by decide +kernel
theorem dX10_opened_29 : decode cX10_opened 29 = .ok (.aload_n 0, 1) := by decide +kernel
theorem dX10_opened_30 : decode cX10_opened 30 = .ok (.getfield 60, 3) := by decide +kernel
theorem dX10_opened_33 : decode cX10_opened 33 = .ok (.iload_n 1, 1) := by decide +kernel
theorem dX10_opened_34 : decode cX10_opened 34 = .ok (.iaload, 1) := by decide +kernel
theorem dX10_opened_35 : decode cX10_opened 35 = .ok (.ifCond .ge 6, 3) := by decide +kernel
theorem dX10_opened_38 : decode cX10_opened 38 = .ok (.ldc 200, 2) := by decide +kernel
theorem dX10_opened_40 : decode cX10_opened 40 = .ok (.ireturn, 1) := by decide +kernel
theorem dX10_opened_41 : decode cX10_opened 41 = .ok (.aload_n 0, 1) := by decide +kernel
theorem dX10_opened_42 : decode cX10_opened 42 = .ok (.invokevirtual 176, 3) := by decide +kernel
theorem dX10_opened_45 : decode cX10_opened 45 = .ok (.iconst (-1), 1) := by decide +kernel
theorem dX10_opened_46 : decode cX10_opened 46 = .ok (.istore 4, 2) := by decide +kernel
theorem dX10_opened_48 : decode cX10_opened 48 = .ok (.lconst 0, 1) := by decide +kernel
theorem dX10_opened_49 : decode cX10_opened 49 = .ok (.lstore 5, 2) := by decide +kernel
theorem dX10_opened_51 : decode cX10_opened 51 = .ok (.iconst 0, 1) := by decide +kernel
theorem dX10_opened_52 : decode cX10_opened 52 = .ok (.istore 7, 2) := by decide +kernel
theorem dX10_opened_54 : decode cX10_opened 54 = .ok (.iload 7, 2) := by decide +kernel
theorem dX10_opened_56 : decode cX10_opened 56 = .ok (.aload_n 0, 1) := by decide +kernel
theorem dX10_opened_57 : decode cX10_opened 57 = .ok (.getfield 9, 3) := by decide +kernel
theorem dX10_opened_60 : decode cX10_opened 60 = .ok (.iconst 1, 1) := by decide +kernel
theorem dX10_opened_61 : decode cX10_opened 61 = .ok (.iaload, 1) := by decide +kernel
theorem dX10_opened_62 : decode cX10_opened 62 = .ok (.if_icmp .ge 57, 3) := by decide +kernel
theorem dX10_opened_65 : decode cX10_opened 65 = .ok (.aload_n 0, 1) := by decide +kernel
theorem dX10_opened_66 : decode cX10_opened 66 = .ok (.iload_n 1, 1) := by decide +kernel
theorem dX10_opened_67 : decode cX10_opened 67 = .ok (.iload 7, 2) := by decide +kernel
theorem dX10_opened_69 : decode cX10_opened 69 = .ok (.iload_n 2, 1) := by decide +kernel
theorem dX10_opened_70 : decode cX10_opened 70 = .ok (.invokevirtual 201, 3) := by decide +kernel
theorem dX10_opened_73 : decode cX10_opened 73 = .ok (.lstore 8, 2) := by decide +kernel
theorem dX10_opened_75 : decode cX10_opened 75 = .ok (.iload 4, 2) := by decide +kernel
theorem dX10_opened_77 : decode cX10_opened 77 = .ok (.ifCond .lt 11, 3) := by decide +kernel
theorem dX10_opened_80 : decode cX10_opened 80 = .ok (.lload 8, 2) := by decide +kernel
theorem dX10_opened_82 : decode cX10_opened 82 = .ok (.lload 5, 2) := by decide +kernel
theorem dX10_opened_84 : decode cX10_opened 84 = .ok (.lcmp, 1) := by decide +kernel
theorem dX10_opened_85 : decode cX10_opened 85 = .ok (.ifCond .ge 8, 3) := by decide +kernel
theorem dX10_opened_88 : decode cX10_opened 88 = .ok (.iload 7, 2) := by decide +kernel
theorem dX10_opened_90 : decode cX10_opened 90 = .ok (.goto 5, 3) := by decide +kernel
theorem dX10_opened_93 : decode cX10_opened 93 = .ok (.iload 4, 2) := by decide +kernel
