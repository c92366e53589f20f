theorem dX7_doFit_115 : decode cX7_doFit 115 = .ok (.aload_n 0, 1) := by decide +kernel
theorem dX7_doFit_116 : decode cX7_doFit 116 = .ok (.getfield 17, 3) := by decide +kernel
theorem dX7_doFit_119 : decode cX7_doFit 119 = .ok (.iload 4, 2) := by decide +kernel
theorem dX7_doFit_121 : decode cX7_doFit 121 = .ok (.iaload, 1) := by decide +kernel
theorem dX7_doFit_122 : decode cX7_doFit 122 = .ok (.i2l, 1) := by decide +kernel
theorem dX7_doFit_123 : decode cX7_doFit 123 = .ok (.goto 4, 3) := by decide +kernel
theorem dX7_doFit_126 : decode cX7_doFit 126 = .ok (.lconst 0, 1) := by decide +kernel
theorem dX7_doFit_127 : decode cX7_doFit 127 = .ok (.lastore, 1) := by decide +kernel
theorem dX7_doFit_128 : decode cX7_doFit 128 = .ok (.iinc 5 1, 3) := by decide +kernel
theorem dX7_doFit_131 : decode cX7_doFit 131 = .ok (.goto (-87), 3) := by decide +kernel
theorem dX7_doFit_134 : decode cX7_doFit 134 = .ok (.aload_n 0, 1) := by decide +kernel
theorem dX7_doFit_135 : decode cX7_doFit 135 = .ok (.getfield 34, 3) := by decide +kernel
theorem dX7_doFit_138 : decode cX7_doFit 138 = .ok (.aload_n 0, 1) := by decide +kernel
theorem dX7_doFit_139 : decode cX7_doFit 139 = .ok (.getfield 68, 3) := by decide +kernel
theorem dX7_doFit_142 : decode cX7_doFit 142 = .ok (.aload_n 0, 1) := by decide +kernel
theorem dX7_doFit_143 : decode cX7_doFit 143 = .ok (.getfield 7, 3) := by decide +kernel
theorem dX7_doFit_146 : decode cX7_doFit 146 = .ok (.aload_n 0, 1) := by decide +kernel
theorem dX7_doFit_147 : decode cX7_doFit 147 = .ok (.getfield 68, 3) := by decide +kernel
theorem dX7_doFit_150 : decode cX7_doFit 150 = .ok (.iadd, 1) := by decide +kernel
theorem dX7_doFit_151 : decode cX7_doFit 151 = .ok (.iastore, 1) := by decide +kernel
theorem dX7_doFit_152 : decode cX7_doFit 152 = .ok (.aload_n 0, 1) := by decide +kernel
theorem dX7_doFit_153 : decode cX7_doFit 153 = .ok (.dup, 1) := by decide +kernel
theorem dX7_doFit_154 : decode cX7_doFit 154 = .ok (.getfield 68, 3) := by decide +kernel
theorem dX7_doFit_157 : decode cX7_doFit 157 = .ok (.iconst 1, 1) := by decide +kernel
theorem dX7_doFit_158 : decode cX7_doFit 158 = .ok (.iadd, 1) := by decide +kernel
theorem dX7_doFit_159 : decode cX7_doFit 159 = .ok (.putfield 68, 3) := by decide +kernel
theorem dX7_doFit_162 : decode cX7_doFit 162 = .ok (.iinc 4 1, 3) := by decide +kernel
theorem dX7_doFit_165 : decode cX7_doFit 165 = .ok (.goto (-143), 3) := by decide +kernel
theorem dX7_doFit_168 : decode cX7_doFit 168 = .ok (.iconst 0, 1) := by decide +kernel
theorem dX7_doFit_169 : decode cX7_doFit 169 = .ok (.istore 4, 2) := by decide +kernel
theorem dX7_doFit_171 : decode cX7_doFit 171 = .ok (.iload 4, 2) := by decide +kernel
theorem dX7_doFit_173 : decode cX7_doFit 173 = .ok (.iload_n 3, 1) := by decide +kernel
theorem dX7_doFit_174 : decode cX7_doFit 174 = .ok (.if_icmp .ge 80, 3) := by decide +kernel
theorem dX7_doFit_177 : decode cX7_doFit 177 = .ok (.lconst 0, 1) := by decide +kernel
theorem dX7_doFit_178 : decode cX7_doFit 178 = .ok (.lstore 5, 2) := by decide +kernel
theorem dX7_doFit_180 : decode cX7_doFit 180 = .ok (.iconst 0, 1) := by decide +kernel
theorem dX7_doFit_181 : decode cX7_doFit 181 = .ok (.istore 7, 2) := by decide +kernel
theorem dX7_doFit_183 : decode cX7_doFit 183 = .ok (.iload 7, 2) := by decide +kernel
theorem dX7_doFit_185 : decode cX7_doFit 185 = .ok (.iload_n 2, 1) := by decide +kernel
theorem dX7_doFit_186 : decode cX7_doFit 186 = .ok (.if_icmp .ge 48, 3) := by decide +kernel
theorem dX7_doFit_189 : decode cX7_doFit 189 = .ok (.lload 5, 2) := by decide +kernel
theorem dX7_doFit_191 : decode cX7_doFit 191 = .ok (.iload 4, 2) := by decide +kernel
theorem dX7_doFit_193 : decode cX7_doFit 193 = .ok (.aload_n 0, 1) := by decide +kernel
theorem dX7_doFit_194 : decode cX7_doFit 194 = .ok (.getfield 7, 3) := by decide +kernel
theorem dX7_doFit_197 : decode cX7_doFit 197 = .ok (.if_icmp .lt 11, 3) := by decide +kernel
theorem dX7_doFit_200 : decode cX7_doFit 200 = .ok (.iload 4, 2) := by decide +kernel
theorem dX7_doFit_202 : decode cX7_doFit 202 = .ok (.iload_n 3, 1) := by decide +kernel
theorem dX7_doFit_203 : decode cX7_doFit 203 = .ok (.iconst 1, 1) := by decide +kernel
theorem dX7_doFit_204 : decode cX7_doFit 204 = .ok (.isub, 1) := by decide +kernel
theorem dX7_doFit_205 : decode cX7_doFit 205 = .ok (.if_icmp .ne 19, 3) := by decide +kernel
theorem dX7_doFit_208 : decode cX7_doFit 208 = .ok (.aload_n 0, 1) := by decide +kernel
theorem dX7_doFit_209 : decode cX7_doFit 209 = .ok (.getfield 30, 3) := by decide +kernel
theorem dX7_doFit_212 : decode cX7_doFit 212 = .ok (.bipush 32, 2) := by decide +kernel
theorem dX7_doFit_214 : decode cX7_doFit 214 = .ok (.iload 7, 2) := by decide +kernel
theorem dX7_doFit_216 : decode cX7_doFit 216 = .ok (.imul, 1) := by decide +kernel
theorem dX7_doFit_217 : decode cX7_doFit 217 = .ok (.iload 4, 2) := by decide +kernel
theorem dX7_doFit_219 : decode cX7_doFit 219 = .ok (.iadd, 1) := by decide +kernel
theorem dX7_doFit_220 : decode cX7_doFit 220 = .ok (.laload, 1) := by decide +kernel
theorem dX7_doFit_221 : decode cX7_doFit 221 = .ok (.goto 4, 3) := by decide +kernel
theorem dX7_doFit_224 : decode cX7_doFit 224 = .ok (.lconst 0, 1) := by decide +kernel
theorem dX7_doFit_225 : decode cX7_doFit 225 = .ok (.ladd, 1) := by decide +kernel
theorem dX7_doFit_226 : decode cX7_doFit 226 = .ok (.lstore 5, 2) := by decide +kernel
theorem dX7_doFit_228 : decode cX7_doFit 228 = .ok (.iinc 7 1, 3) := by decide +kernel
theorem dX7_doFit_231 : decode cX7_doFit 231 = .ok (.goto (-48), 3) := by decide +kernel
theorem dX7_doFit_234 : decode cX7_doFit 234 = .ok (.aload_n 0, 1) := by decide +kernel
theorem dX7_doFit_235 : decode cX7_doFit 235 = .ok (.getfield 30, 3) := by decide +kernel
theorem dX7_doFit_238 : decode cX7_doFit 238 = .ok (.bipush 32, 2) := by decide +kernel
theorem dX7_doFit_240 : decode cX7_doFit 240 = .ok (.iload_n 2, 1) := by decide +kernel
theorem dX7_doFit_241 : decode cX7_doFit 241 = .ok (.imul, 1) := by decide +kernel
theorem dX7_doFit_242 : decode cX7_doFit 242 = .ok (.iload 4, 2) := by decide +kernel
theorem dX7_doFit_244 : decode cX7_doFit 244 = .ok (.iadd, 1) := by decide +kernel
theorem dX7_doFit_245 : decode cX7_doFit 245 = .ok (.lload 5, 2) := by decide +kernel
theorem dX7_doFit_247 : decode cX7_doFit 247 = .ok (.lastore, 1) := by decide +kernel
theorem dX7_doFit_248 : decode cX7_doFit 248 = .ok (.iinc 4 1, 3) := by decide +kernel
theorem dX7_doFit_251 : decode cX7_doFit 251 = .ok (.goto (-80), 3) := by decide +kernel
theorem dX7_doFit_254 : decode cX7_doFit 254 = .ok (.aload_n 0, 1) := by decide +kernel
theorem dX7_doFit_255 : decode cX7_doFit 255 = .ok (.iload_n 2, 1) := by decide +kernel
theorem dX7_doFit_256 : decode cX7_doFit 256 = .ok (.iconst 1, 1) := by decide +kernel
theorem dX7_doFit_257 : decode cX7_doFit 257 = .ok (.iadd, 1) := by decide +kernel
theorem dX7_doFit_258 : decode cX7_doFit 258 = .ok (.putfield 68, 3) := by decide +kernel
theorem dX7_doFit_261 : decode cX7_doFit 261 = .ok (.aload_n 0, 1) := by decide +kernel
theorem dX7_doFit_262 : decode cX7_doFit 262 = .ok (.lconst 1, 1) := by decide +kernel
theorem dX7_doFit_263 : decode cX7_doFit 263 = .ok (.putfield 71, 3) := by decide +kernel
theorem dX7_doFit_266 : decode cX7_doFit 266 = .ok (.aload_n 0, 1) := by decide +kernel
theorem dX7_doFit_267 : decode cX7_doFit 267 = .ok (.iload_n 2, 1) := by decide +kernel
theorem dX7_doFit_268 : decode cX7_doFit 268 = .ok (.invokevirtual 102, 3) := by decide +kernel
theorem dX7_doFit_271 : decode cX7_doFit 271 = .ok (.istore 4, 2) := by decide +kernel
theorem dX7_doFit_273 : decode cX7_doFit 273 = .ok (.iload 4, 2) := by decide +kernel
theorem dX7_doFit_275 : decode cX7_doFit 275 = .ok (.ifCond .lt 41, 3) := by decide +kernel
theorem dX7_doFit_278 : decode cX7_doFit 278 = .ok (.aload_n 0, 1) := by decide +kernel
theorem dX7_doFit_279 : decode cX7_doFit 279 = .ok (.iload 4, 2) := by decide +kernel
theorem dX7_doFit_281 : decode cX7_doFit 281 = .ok (.iload_n 2, 1) := by decide +kernel
theorem dX7_doFit_282 : decode cX7_doFit 282 = .ok (.iload_n 3, 1) := by decide +kernel
theorem dX7_doFit_283 : decode cX7_doFit 283 = .ok (.invokevirtual 105, 3) := by decide +kernel
theorem dX7_doFit_286 : decode cX7_doFit 286 = .ok (.istore 5, 2) := by decide +kernel
theorem dX7_doFit_288 : decode cX7_doFit 288 = .ok (.aload_n 0, 1) := by decide +kernel
theorem dX7_doFit_289 : decode cX7_doFit 289 = .ok (.getfield 34, 3) := by decide +kernel
theorem dX7_doFit_292 : decode cX7_doFit 292 = .ok (.iload 5, 2) := by decide +kernel
theorem dX7_doFit_294 : decode cX7_doFit 294 = .ok (.iload 4, 2) := by decide +kernel
theorem dX7_doFit_296 : decode cX7_doFit 296 = .ok (.iastore, 1) := by decide +kernel
theorem dX7_doFit_297 : decode cX7_doFit 297 = .ok (.aload_n 0, 1) := by decide +kernel
theorem dX7_doFit_298 : decode cX7_doFit 298 = .ok (.iload 5, 2) := by decide +kernel
theorem dX7_doFit_300 : decode cX7_doFit 300 = .ok (.iload 4, 2) := by decide +kernel
theorem dX7_doFit_302 : decode cX7_doFit 302 = .ok (.iload_n 3, 1) := by decide +kernel
theorem dX7_doFit_303 : decode cX7_doFit 303 = .ok (.invokevirtual 87, 3) := by decide +kernel
theorem dX7_doFit_306 : decode cX7_doFit 306 = .ok (.aload_n 0, 1) := by decide +kernel
theorem dX7_doFit_307 : decode cX7_doFit 307 = .ok (.iload_n 2, 1) := by decide +kernel
theorem dX7_doFit_308 : decode cX7_doFit 308 = .ok (.invokevirtual 102, 3) := by decide +kernel
theorem dX7_doFit_311 : decode cX7_doFit 311 = .ok (.istore 4, 2) := by decide +kernel
theorem dX7_doFit_313 : decode cX7_doFit 313 = .ok (.goto (-40), 3) := by decide +kernel
theorem dX7_doFit_316 : decode cX7_doFit 316 = .ok (.aload_n 0, 1) := by decide +kernel
theorem dX7_doFit_317 : decode cX7_doFit 317 = .ok (.getfield 30, 3) := by decide +kernel
theorem dX7_doFit_320 : decode cX7_doFit 320 = .ok (.bipush 32, 2) := by decide +kernel
theorem dX7_doFit_322 : decode cX7_doFit 322 = .ok (.iload_n 2, 1) := by decide +kernel
theorem dX7_doFit_323 : decode cX7_doFit 323 = .ok (.imul, 1) := by decide +kernel
theorem dX7_doFit_324 : decode cX7_doFit 324 = .ok (.iload_n 3, 1) := by decide +kernel
theorem dX7_doFit_325 : decode cX7_doFit 325 = .ok (.iadd, 1) := by decide +kernel
theorem dX7_doFit_326 : decode cX7_doFit 326 = .ok (.iconst 1, 1) := by decide +kernel
theorem dX7_doFit_327 : decode cX7_doFit 327 = .ok (.isub, 1) := by decide +kernel
theorem dX7_doFit_328 : decode cX7_doFit 328 = .ok (.laload, 1) := by decide +kernel
theorem dX7_doFit_329 : decode cX7_doFit 329 = .ok (.lconst 0, 1) := by decide +kernel
theorem dX7_doFit_330 : decode cX7_doFit 330 = .ok (.lcmp, 1) := by decide +kernel
theorem dX7_doFit_331 : decode cX7_doFit 331 = .ok (.ifCond .ne 7, 3) := by decide +kernel
theorem dX7_doFit_334 : decode cX7_doFit 334 = .ok (.iconst 1, 1) := by decide +kernel
theorem dX7_doFit_335 : decode cX7_doFit 335 = .ok (.goto 4, 3) := by decide +kernel
theorem dX7_doFit_338 : decode cX7_doFit 338 = .ok (.iconst 0, 1) := by decide +kernel
theorem dX7_doFit_339 : decode cX7_doFit 339 = .ok (.ireturn, 1) := by decide +kernel
theorem dX7_enter_0 : decode cX7_enter 0 = .ok (.iconst 0, 1) := by decide +kernel
theorem dX7_enter_1 : decode cX7_enter 1 = .ok (.istore_n 2, 1) := by decide +kernel
theorem dX7_enter_2 : decode cX7_enter 2 = .ok (.iload_n 2, 1) := by decide +kernel
theorem dX7_enter_3 : decode cX7_enter 3 = .ok (.aload_n 0, 1) := by decide +kernel
theorem dX7_enter_4 : decode cX7_enter 4 = .ok (.getfield 7, 3) := by decide +kernel
theorem dX7_enter_7 : decode cX7_enter 7 = .ok (.if_icmp .ge 27, 3) := by decide +kernel
theorem dX7_enter_10 : decode cX7_enter 10 = .ok (.aload_n 0, 1) := by decide +kernel
theorem dX7_enter_11 : decode cX7_enter 11 = .ok (.getfield 30, 3) := by decide +kernel
theorem dX7_enter_14 : decode cX7_enter 14 = .ok (.bipush 32, 2) := by decide +kernel
theorem dX7_enter_16 : decode cX7_enter 16 = .ok (.iload_n 1, 1) := by decide +kernel
theorem dX7_enter_17 : decode cX7_enter 17 = .ok (.imul, 1) := by decide +kernel
theorem dX7_enter_18 : decode cX7_enter 18 = .ok (.iload_n 2, 1) := by decide +kernel
theorem dX7_enter_19 : decode cX7_enter 19 = .ok (.iadd, 1) := by decide +kernel
theorem dX7_enter_20 : decode cX7_enter 20 = .ok (.laload, 1) := by decide +kernel
theorem dX7_enter_21 : decode cX7_enter 21 = .ok (.lconst 0, 1) := by decide +kernel
theorem dX7_enter_22 : decode cX7_enter 22 = .ok (.lcmp, 1) := by decide +kernel
theorem dX7_enter_23 : decode cX7_enter 23 = .ok (.ifCond .le 5, 3) := by decide +kernel
theorem dX7_enter_26 : decode cX7_enter 26 = .ok (.iload_n 2, 1) := by decide +kernel
theorem dX7_enter_27 : decode cX7_enter 27 = .ok (.ireturn, 1) := by decide +kernel
theorem dX7_enter_28 : decode cX7_enter 28 = .ok (.iinc 2 1, 3) := by decide +kernel
theorem dX7_enter_31 : decode cX7_enter 31 = .ok (.goto (-29), 3) := by decide +kernel
theorem dX7_enter_34 : decode cX7_enter 34 = .ok (.iconst (-1), 1) := by decide +kernel
theorem dX7_enter_35 : decode cX7_enter 35 = .ok (.ireturn, 1) := by decide +kernel
theorem dX7_leave_0 : decode cX7_leave 0 = .ok (.iconst (-1), 1) := by decide +kernel
theorem dX7_leave_1 : decode cX7_leave 1 = .ok (.istore 4, 2) := by decide +kernel
theorem dX7_leave_3 : decode cX7_leave 3 = .ok (.iconst 0, 1) := by decide +kernel
theorem dX7_leave_4 : decode cX7_leave 4 = .ok (.istore 5, 2) := by decide +kernel
theorem dX7_leave_6 : decode cX7_leave 6 = .ok (.iload 5, 2) := by decide +kernel
theorem dX7_leave_8 : decode cX7_leave 8 = .ok (.iload_n 2, 1) := by decide +kernel
theorem dX7_leave_9 : decode cX7_leave 9 = .ok (.if_icmp .ge 149, 3) := by decide +kernel
theorem dX7_leave_12 : decode cX7_leave 12 = .ok (.aload_n 0, 1) := by decide +kernel
theorem dX7_leave_13 : decode cX7_leave 13 = .ok (.getfield 30, 3) := by decide +kernel
theorem dX7_leave_16 : decode cX7_leave 16 = .ok (.bipush 32, 2) := by decide +kernel
theorem dX7_leave_18 : decode cX7_leave 18 = .ok (.iload 5, 2) := by decide +kernel
theorem dX7_leave_20 : decode cX7_leave 20 = .ok (.imul, 1) := by decide +kernel
theorem dX7_leave_21 : decode cX7_leave 21 = .ok (.iload_n 1, 1) := by decide +kernel
theorem dX7_leave_22 : decode cX7_leave 22 = .ok (.iadd, 1) := by decide +kernel
theorem dX7_leave_23 : decode cX7_leave 23 = .ok (.laload, 1) := by decide +kernel
theorem dX7_leave_24 : decode cX7_leave 24 = .ok (.lconst 0, 1) := by decide +kernel
theorem dX7_leave_25 : decode cX7_leave 25 = .ok (.lcmp, 1) := by decide +kernel
theorem dX7_leave_26 : decode cX7_leave 26 = .ok (.ifCond .le 126, 3) := by decide +kernel
theorem dX7_leave_29 : decode cX7_leave 29 = .ok (.iload 4, 2) := by decide +kernel
theorem dX7_leave_31 : decode cX7_leave 31 = .ok (.ifCond .ge 7, 3) := by decide +kernel
theorem dX7_leave_34 : decode cX7_leave 34 = .ok (.lconst 0, 1) := by decide +kernel
theorem dX7_leave_35 : decode cX7_leave 35 = .ok (.goto 30, 3) := by decide +kernel
theorem dX7_leave_38 : decode cX7_leave 38 = .ok (.aload_n 0, 1) := by decide +kernel
theorem dX7_leave_39 : decode cX7_leave 39 = .ok (.getfield 30, 3) := by decide +kernel
theorem dX7_leave_42 : decode cX7_leave 42 = .ok (.bipush 32, 2) := by decide +kernel
theorem dX7_leave_44 : decode cX7_leave 44 = .ok (.iload 5, 2) := by decide +kernel
theorem dX7_leave_46 : decode cX7_leave 46 = .ok (.imul, 1) := by decide +kernel
theorem dX7_leave_47 : decode cX7_leave 47 = .ok (.iload_n 3, 1) := by decide +kernel
theorem dX7_leave_48 : decode cX7_leave 48 = .ok (.iadd, 1) := by decide +kernel
theorem dX7_leave_49 : decode cX7_leave 49 = .ok (.iconst 1, 1) := by decide +kernel
theorem dX7_leave_50 : decode cX7_leave 50 = .ok (.isub, 1) := by decide +kernel
theorem dX7_leave_51 : decode cX7_leave 51 = .ok (.laload, 1) := by decide +kernel
theorem dX7_leave_52 : decode cX7_leave 52 = .ok (.aload_n 0, 1) := by decide +kernel
theorem dX7_leave_53 : decode cX7_leave 53 = .ok (.getfield 30, 3) := by decide +kernel
theorem dX7_leave_56 : decode cX7_leave 56 = .ok (.bipush 32, 2) := by decide +kernel
theorem dX7_leave_58 : decode cX7_leave 58 = .ok (.iload 4, 2) := by decide +kernel
theorem dX7_leave_60 : decode cX7_leave 60 = .ok (.imul, 1) := by decide +kernel
theorem dX7_leave_61 : decode cX7_leave 61 = .ok (.iload_n 1, 1) := by decide +kernel
theorem dX7_leave_62 : decode cX7_leave 62 = .ok (.iadd, 1) := by decide +kernel
theorem dX7_leave_63 : decode cX7_leave 63 = .ok (.laload, 1) := by decide +kernel
theorem dX7_leave_64 : decode cX7_leave 64 = .ok (.lmul, 1) := by decide +kernel
theorem dX7_leave_65 : decode cX7_leave 65 = .ok (.lstore 6, 2) := by decide +kernel
theorem dX7_leave_67 : decode cX7_leave 67 = .ok (.iload 4, 2) := by decide +kernel
theorem dX7_leave_69 : decode cX7_leave 69 = .ok (.ifCond .ge 7, 3) := by decide +kernel
theorem dX7_leave_72 : decode cX7_leave 72 = .ok (.lconst 0, 1) := by decide +kernel
theorem dX7_leave_73 : decode cX7_leave 73 = .ok (.goto 30, 3) := by decide +kernel
theorem dX7_leave_76 : decode cX7_leave 76 = .ok (.aload_n 0, 1) := by decide +kernel
theorem dX7_leave_77 : decode cX7_leave 77 = .ok (.getfield 30, 3) := by decide +kernel
theorem dX7_leave_80 : decode cX7_leave 80 = .ok (.bipush 32, 2) := by decide +kernel
theorem dX7_leave_82 : decode cX7_leave 82 = .ok (.iload 4, 2) := by decide +kernel
theorem dX7_leave_84 : decode cX7_leave 84 = .ok (.imul, 1) := by decide +kernel
theorem dX7_leave_85 : decode cX7_leave 85 = .ok (.iload_n 3, 1) := by decide +kernel
theorem dX7_leave_86 : decode cX7_leave 86 = .ok (.iadd, 1) := by decide +kernel
theorem dX7_leave_87 : decode cX7_leave 87 = .ok (.iconst 1, 1) := by decide +kernel
theorem dX7_leave_88 : decode cX7_leave 88 = .ok (.isub, 1) := by decide +kernel
theorem dX7_leave_89 : decode cX7_leave 89 = .ok (.laload, 1) := by decide +kernel
theorem dX7_leave_90 : decode cX7_leave 90 = .ok (.aload_n 0, 1) := by decide +kernel
theorem dX7_leave_91 : decode cX7_leave 91 = .ok (.getfield 30, 3) := by decide +kernel
theorem dX7_leave_94 : decode cX7_leave 94 = .ok (.bipush 32, 2) := by decide +kernel
theorem dX7_leave_96 : decode cX7_leave 96 = .ok (.iload 5, 2) := by decide +kernel
theorem dX7_leave_98 : decode cX7_leave 98 = .ok (.imul, 1) := by decide +kernel
theorem dX7_leave_99 : decode cX7_leave 99 = .ok (.iload_n 1, 1) := by decide +kernel
theorem dX7_leave_100 : decode cX7_leave 100 = .ok (.iadd, 1) := by decide +kernel
theorem dX7_leave_101 : decode cX7_leave 101 = .ok (.laload, 1) := by decide +kernel
theorem dX7_leave_102 : decode cX7_leave 102 = .ok (.lmul, 1) := by decide +kernel
theorem dX7_leave_103 : decode cX7_leave 103 = .ok (.lstore 8, 2) := by decide +kernel
theorem dX7_leave_105 : decode cX7_leave 105 = .ok (.iload 4, 2) := by decide +kernel
theorem dX7_leave_107 : decode cX7_leave 107 = .ok (.ifCond .lt 36, 3) := by decide +kernel
theorem dX7_leave_110 : decode cX7_leave 110 = .ok (.lload 6, 2) := by decide +kernel
theorem dX7_leave_112 : decode cX7_leave 112 = .ok (.lload 8, 2) := by decide +kernel
theorem dX7_leave_114 : decode cX7_leave 114 = .ok (.lcmp, 1) := by decide +kernel
theorem dX7_leave_115 : decode cX7_leave 115 = .ok (.ifCond .lt 28, 3) := by decide +kernel
theorem dX7_leave_118 : decode cX7_leave 118 = .ok (.lload 6, 2) := by decide +kernel
theorem dX7_leave_120 : decode cX7_leave 120 = .ok (.lload 8, 2) := by decide +kernel
theorem dX7_leave_122 : decode cX7_leave 122 = .ok (.lcmp, 1) := by decide +kernel
theorem dX7_leave_123 : decode cX7_leave 123 = .ok (.ifCond .ne 25, 3) := by decide +kernel
theorem dX7_leave_126 : decode cX7_leave 126 = .ok (.aload_n 0, 1) := by decide +kernel
theorem dX7_leave_127 : decode cX7_leave 127 = .ok (.getfield 34, 3) := by decide +kernel
theorem dX7_leave_130 : decode cX7_leave 130 = .ok (.iload 5, 2) := by decide +kernel
theorem dX7_leave_132 : decode cX7_leave 132 = .ok (.iaload, 1) := by decide +kernel
theorem dX7_leave_133 : decode cX7_leave 133 = .ok (.aload_n 0, 1) := by decide +kernel
theorem dX7_leave_134 : decode cX7_leave 134 = .ok (.getfield 34, 3) := by decide +kernel
theorem dX7_leave_137 : decode cX7_leave 137 = .ok (.iload 4, 2) := by decide +kernel
theorem dX7_leave_139 : decode cX7_leave 139 = .ok (.iaload, 1) := by decide +kernel
theorem dX7_leave_140 : decode cX7_leave 140 = .ok (.if_icmp .ge 8, 3) := by decide +kernel
theorem dX7_leave_143 : decode cX7_leave 143 = .ok (.iload 5, 2) := by decide +kernel
theorem dX7_leave_145 : decode cX7_leave 145 = .ok (.goto 5, 3) := by decide +kernel
theorem dX7_leave_148 : decode cX7_leave 148 = .ok (.iload 4, 2) := by decide +kernel
theorem dX7_leave_150 : decode cX7_leave 150 = .ok (.istore 4, 2) := by decide +kernel
theorem dX7_leave_152 : decode cX7_leave 152 = .ok (.iinc 5 1, 3) := by decide +kernel
theorem dX7_leave_155 : decode cX7_leave 155 = .ok (.goto (-149), 3) := by decide +kernel
theorem dX7_leave_158 : decode cX7_leave 158 = .ok (.iload 4, 2) := by decide +kernel
theorem dX7_leave_160 : decode cX7_leave 160 = .ok (.ireturn, 1) := by decide +kernel
theorem dX7_fits_0 : decode cX7_fits 0 = .ok (.aload_n 0, 1) := by decide +kernel
theorem dX7_fits_1 : decode cX7_fits 1 = .ok (.aload_n 0, 1) := by decide +kernel
theorem dX7_fits_2 : decode cX7_fits 2 = .ok (.invokevirtual 90, 3) := by decide +kernel
theorem dX7_fits_5 : decode cX7_fits 5 = .ok (.invokevirtual 108, 3) := by decide +kernel
theorem dX7_fits_8 : decode cX7_fits 8 = .ok (.ifCond .eq 7, 3) := by decide +kernel
theorem dX7_fits_11 : decode cX7_fits 11 = .ok (.iconst 1, 1) := by decide +kernel
theorem dX7_fits_12 : decode cX7_fits 12 = .ok (.goto 4, 3) := by decide +kernel
theorem dX7_fits_15 : decode cX7_fits 15 = .ok (.iconst 0, 1) := by decide +kernel
theorem dX7_fits_16 : decode cX7_fits 16 = .ok (.ireturn, 1) := by decide +kernel
theorem dX7_tries_0 : decode cX7_tries 0 = .ok (.iconst 0, 1) := by decide +kernel
theorem dX7_tries_1 : decode cX7_tries 1 = .ok (.istore_n 2, 1) := by decide +kernel
theorem dX7_tries_2 : decode cX7_tries 2 = .ok (.aload_n 0, 1) := by decide +kernel
theorem dX7_tries_3 : decode cX7_tries 3 = .ok (.iconst 0, 1) := by decide +kernel
theorem dX7_tries_4 : decode cX7_tries 4 = .ok (.putfield 68, 3) := by decide +kernel
theorem dX7_tries_7 : decode cX7_tries 7 = .ok (.iconst 0, 1) := by decide +kernel
theorem dX7_tries_8 : decode cX7_tries 8 = .ok (.istore_n 3, 1) := by decide +kernel
theorem dX7_tries_9 : decode cX7_tries 9 = .ok (.iload_n 3, 1) := by decide +kernel
theorem dX7_tries_10 : decode cX7_tries 10 = .ok (.aload_n 0, 1) := by decide +kernel
theorem dX7_tries_11 : decode cX7_tries 11 = .ok (.getfield 52, 3) := by decide +kernel
theorem dX7_tries_14 : decode cX7_tries 14 = .ok (.if_icmp .ge 108, 3) := by decide +kernel
theorem dX7_tries_17 : decode cX7_tries 17 = .ok (.aload_n 0, 1) := by decide +kernel
theorem dX7_tries_18 : decode cX7_tries 18 = .ok (.getfield 20, 3) := by decide +kernel
theorem dX7_tries_21 : decode cX7_tries 21 = .ok (.iload_n 3, 1) := by decide +kernel
theorem dX7_tries_22 : decode cX7_tries 22 = .ok (.baload, 1) := by decide +kernel
theorem dX7_tries_23 : decode cX7_tries 23 = .ok (.ifCond .eq 93, 3) := by decide +kernel
theorem dX7_tries_26 : decode cX7_tries 26 = .ok (.iconst 0, 1) := by decide +kernel
theorem dX7_tries_27 : decode cX7_tries 27 = .ok (.istore_n 2, 1) := by decide +kernel
theorem dX7_tries_28 : decode cX7_tries 28 = .ok (.iconst 0, 1) := by decide +kernel
theorem dX7_tries_29 : decode cX7_tries 29 = .ok (.istore 4, 2) := by decide +kernel
theorem dX7_tries_31 : decode cX7_tries 31 = .ok (.iload 4, 2) := by decide +kernel
theorem dX7_tries_33 : decode cX7_tries 33 = .ok (.aload_n 0, 1) := by decide +kernel
theorem dX7_tries_34 : decode cX7_tries 34 = .ok (.getfield 7, 3) := by decide +kernel
theorem dX7_tries_37 : decode cX7_tries 37 = .ok (.if_icmp .ge 48, 3) := by decide +kernel
theorem dX7_tries_40 : decode cX7_tries 40 = .ok (.iload_n 1, 1) := by decide +kernel
theorem dX7_tries_41 : decode cX7_tries 41 = .ok (.iload 4, 2) := by decide +kernel
theorem dX7_tries_43 : decode cX7_tries 43 = .ok (.ishr, 1) := by decide +kernel
theorem dX7_tries_44 : decode cX7_tries 44 = .ok (.iconst 1, 1) := by decide +kernel
theorem dX7_tries_45 : decode cX7_tries 45 = .ok (.iand, 1) := by decide +kernel
theorem dX7_tries_46 : decode cX7_tries 46 = .ok (.iconst 1, 1) := by decide +kernel
theorem dX7_tries_47 : decode cX7_tries 47 = .ok (.if_icmp .ne 32, 3) := by decide +kernel
theorem dX7_tries_50 : decode cX7_tries 50 = .ok (.aload_n 0, 1) := by decide +kernel
theorem dX7_tries_51 : decode cX7_tries 51 = .ok (.getfield 30, 3) := by decide +kernel
theorem dX7_tries_54 : decode cX7_tries 54 = .ok (.bipush 32, 2) := by decide +kernel
theorem dX7_tries_56 : decode cX7_tries 56 = .ok (.aload_n 0, 1) := by decide +kernel
theorem dX7_tries_57 : decode cX7_tries 57 = .ok (.getfield 68, 3) := by decide +kernel
theorem dX7_tries_60 : decode cX7_tries 60 = .ok (.imul, 1) := by decide +kernel
theorem dX7_tries_61 : decode cX7_tries 61 = .ok (.iload_n 2, 1) := by decide +kernel
theorem dX7_tries_62 : decode cX7_tries 62 = .ok (.iadd, 1) := by decide +kernel
theorem dX7_tries_63 : decode cX7_tries 63 = .ok (.aload_n 0, 1) := by decide +kernel
theorem dX7_tries_64 : decode cX7_tries 64 = .ok (.getfield 13, 3) := by decide +kernel
theorem dX7_tries_67 : decode cX7_tries 67 = .ok (.iload_n 3, 1) := by decide +kernel
theorem dX7_tries_68 : decode cX7_tries 68 = .ok (.iaload, 1) := by decide +kernel
theorem dX7_tries_69 : decode cX7_tries 69 = .ok (.iload 4, 2) := by decide +kernel
theorem dX7_tries_71 : decode cX7_tries 71 = .ok (.ishr, 1) := by decide +kernel
theorem dX7_tries_72 : decode cX7_tries 72 = .ok (.iconst 1, 1) := by decide +kernel
theorem dX7_tries_73 : decode cX7_tries 73 = .ok (.iand, 1) := by decide +kernel
theorem dX7_tries_74 : decode cX7_tries 74 = .ok (.i2l, 1) := by decide +kernel
theorem dX7_tries_75 : decode cX7_tries 75 = .ok (.lastore, 1) := by decide +kernel
theorem dX7_tries_76 : decode cX7_tries 76 = .ok (.iinc 2 1, 3) := by decide +kernel
theorem dX7_tries_79 : decode cX7_tries 79 = .ok (.iinc 4 1, 3) := by decide +kernel
theorem dX7_tries_82 : decode cX7_tries 82 = .ok (.goto (-51), 3) := by decide +kernel
theorem dX7_tries_85 : decode cX7_tries 85 = .ok (.aload_n 0, 1) := by decide +kernel
theorem dX7_tries_86 : decode cX7_tries 86 = .ok (.getfield 30, 3) := by decide +kernel
theorem dX7_tries_89 : decode cX7_tries 89 = .ok (.bipush 32, 2) := by decide +kernel
theorem dX7_tries_91 : decode cX7_tries 91 = .ok (.aload_n 0, 1) := by decide +kernel
theorem dX7_tries_92 : decode cX7_tries 92 = .ok (.getfield 68, 3) := by decide +kernel
theorem dX7_tries_95 : decode cX7_tries 95 = .ok (.imul, 1) := by decide +kernel
theorem dX7_tries_96 : decode cX7_tries 96 = .ok (.iload_n 2, 1) := by decide +kernel
theorem dX7_tries_97 : decode cX7_tries 97 = .ok (.iadd, 1) := by decide +kernel
theorem dX7_tries_98 : decode cX7_tries 98 = .ok (.aload_n 0, 1) := by decide +kernel
theorem dX7_tries_99 : decode cX7_tries 99 = .ok (.getfield 17, 3) := by decide +kernel
theorem dX7_tries_102 : decode cX7_tries 102 = .ok (.iload_n 3, 1) := by decide +kernel
theorem dX7_tries_103 : decode cX7_tries 103 = .ok (.iaload, 1) := by decide +kernel
theorem dX7_tries_104 : decode cX7_tries 104 = .ok (.i2l, 1) := by decide +kernel
theorem dX7_tries_105 : decode cX7_tries 105 = .ok (.lastore, 1) := by decide +kernel
theorem dX7_tries_106 : decode cX7_tries 106 = .ok (.aload_n 0, 1) := by decide +kernel
theorem dX7_tries_107 : decode cX7_tries 107 = .ok (.dup, 1) := by decide +kernel
theorem dX7_tries_108 : decode cX7_tries 108 = .ok (.getfield 68, 3) := by decide +kernel
theorem dX7_tries_111 : decode cX7_tries 111 = .ok (.iconst 1, 1) := by decide +kernel
theorem dX7_tries_112 : decode cX7_tries 112 = .ok (.iadd, 1) := by decide +kernel
theorem dX7_tries_113 : decode cX7_tries 113 = .ok (.putfield 68, 3) := by decide +kernel
theorem dX7_tries_116 : decode cX7_tries 116 = .ok (.iinc 3 1, 3) := by decide +kernel
theorem dX7_tries_119 : decode cX7_tries 119 = .ok (.goto (-110), 3) := by decide +kernel
theorem dX7_tries_122 : decode cX7_tries 122 = .ok (.iload_n 1, 1) := by decide +kernel
theorem dX7_tries_123 : decode cX7_tries 123 = .ok (.invokestatic 98, 3) := by decide +kernel
theorem dX7_tries_126 : decode cX7_tries 126 = .ok (.istore_n 2, 1) := by decide +kernel
theorem dX7_tries_127 : decode cX7_tries 127 = .ok (.aload_n 0, 1) := by decide +kernel
theorem dX7_tries_128 : decode cX7_tries 128 = .ok (.lconst 1, 1) := by decide +kernel
theorem dX7_tries_129 : decode cX7_tries 129 = .ok (.putfield 71, 3) := by decide +kernel
theorem dX7_tries_132 : decode cX7_tries 132 = .ok (.iconst 0, 1) := by decide +kernel
theorem dX7_tries_133 : decode cX7_tries 133 = .ok (.istore_n 3, 1) := by decide +kernel
theorem dX7_tries_134 : decode cX7_tries 134 = .ok (.iload_n 3, 1) := by decide +kernel
theorem dX7_tries_135 : decode cX7_tries 135 = .ok (.iload_n 2, 1) := by decide +kernel
theorem dX7_tries_136 : decode cX7_tries 136 = .ok (.if_icmp .ge 47, 3) := by decide +kernel
theorem dX7_tries_139 : decode cX7_tries 139 = .ok (.aload_n 0, 1) := by decide +kernel
theorem dX7_tries_140 : decode cX7_tries 140 = .ok (.iload_n 3, 1) := by decide +kernel
theorem dX7_tries_141 : decode cX7_tries 141 = .ok (.iload_n 3, 1) := by decide +kernel
theorem dX7_tries_142 : decode cX7_tries 142 = .ok (.invokevirtual 79, 3) := by decide +kernel
theorem dX7_tries_145 : decode cX7_tries 145 = .ok (.istore 4, 2) := by decide +kernel
theorem dX7_tries_147 : decode cX7_tries 147 = .ok (.iload 4, 2) := by decide +kernel
theorem dX7_tries_149 : decode cX7_tries 149 = .ok (.aload_n 0, 1) := by decide +kernel
theorem dX7_tries_150 : decode cX7_tries 150 = .ok (.getfield 68, 3) := by decide +kernel
theorem dX7_tries_153 : decode cX7_tries 153 = .ok (.if_icmp .lt 5, 3) := by decide +kernel
theorem dX7_tries_156 : decode cX7_tries 156 = .ok (.iconst 0, 1) := by decide +kernel
theorem dX7_tries_157 : decode cX7_tries 157 = .ok (.ireturn, 1) := by decide +kernel
theorem dX7_tries_158 : decode cX7_tries 158 = .ok (.aload_n 0, 1) := by decide +kernel
theorem dX7_tries_159 : decode cX7_tries 159 = .ok (.iload 4, 2) := by decide +kernel
theorem dX7_tries_161 : decode cX7_tries 161 = .ok (.iload_n 3, 1) := by decide +kernel
theorem dX7_tries_162 : decode cX7_tries 162 = .ok (.iload_n 2, 1) := by decide +kernel
theorem dX7_tries_163 : decode cX7_tries 163 = .ok (.iconst 1, 1) := by decide +kernel
theorem dX7_tries_164 : decode cX7_tries 164 = .ok (.iadd, 1) := by decide +kernel
theorem dX7_tries_165 : decode cX7_tries 165 = .ok (.invokevirtual 83, 3) := by decide +kernel
theorem dX7_tries_168 : decode cX7_tries 168 = .ok (.aload_n 0, 1) := by decide +kernel
theorem dX7_tries_169 : decode cX7_tries 169 = .ok (.iload_n 3, 1) := by decide +kernel
theorem dX7_tries_170 : decode cX7_tries 170 = .ok (.iload_n 3, 1) := by decide +kernel
theorem dX7_tries_171 : decode cX7_tries 171 = .ok (.iload_n 2, 1) := by decide +kernel
theorem dX7_tries_172 : decode cX7_tries 172 = .ok (.iconst 1, 1) := by decide +kernel
theorem dX7_tries_173 : decode cX7_tries 173 = .ok (.iadd, 1) := by decide +kernel
theorem dX7_tries_174 : decode cX7_tries 174 = .ok (.invokevirtual 87, 3) := by decide +kernel
theorem dX7_tries_177 : decode cX7_tries 177 = .ok (.iinc 3 1, 3) := by decide +kernel
theorem dX7_tries_180 : decode cX7_tries 180 = .ok (.goto (-46), 3) := by decide +kernel
theorem dX7_tries_183 : decode cX7_tries 183 = .ok (.iconst 1, 1) := by decide +kernel
theorem dX7_tries_184 : decode cX7_tries 184 = .ok (.istore_n 3, 1) := by decide +kernel
theorem dX7_tries_185 : decode cX7_tries 185 = .ok (.iload_n 2, 1) := by decide +kernel
theorem dX7_tries_186 : decode cX7_tries 186 = .ok (.istore 4, 2) := by decide +kernel
theorem dX7_tries_188 : decode cX7_tries 188 = .ok (.iload 4, 2) := by decide +kernel
theorem dX7_tries_190 : decode cX7_tries 190 = .ok (.aload_n 0, 1) := by decide +kernel
theorem dX7_tries_191 : decode cX7_tries 191 = .ok (.getfield 68, 3) := by decide +kernel
theorem dX7_tries_194 : decode cX7_tries 194 = .ok (.if_icmp .ge 36, 3) := by decide +kernel
theorem dX7_tries_197 : decode cX7_tries 197 = .ok (.iload_n 3, 1) := by decide +kernel
theorem dX7_tries_198 : decode cX7_tries 198 = .ok (.ifCond .eq 24, 3) := by decide +kernel
theorem dX7_tries_201 : decode cX7_tries 201 = .ok (.aload_n 0, 1) := by decide +kernel
theorem dX7_tries_202 : decode cX7_tries 202 = .ok (.getfield 30, 3) := by decide +kernel
theorem dX7_tries_205 : decode cX7_tries 205 = .ok (.bipush 32, 2) := by decide +kernel
theorem dX7_tries_207 : decode cX7_tries 207 = .ok (.iload 4, 2) := by decide +kernel
theorem dX7_tries_209 : decode cX7_tries 209 = .ok (.imul, 1) := by decide +kernel
theorem dX7_tries_210 : decode cX7_tries 210 = .ok (.iload_n 2, 1) := by decide +kernel
theorem dX7_tries_211 : decode cX7_tries 211 = .ok (.iadd, 1) := by decide +kernel
theorem dX7_tries_212 : decode cX7_tries 212 = .ok (.laload, 1) := by decide +kernel
theorem dX7_tries_213 : decode cX7_tries 213 = .ok (.lconst 0, 1) := by decide +kernel
theorem dX7_tries_214 : decode cX7_tries 214 = .ok (.lcmp, 1) := by decide +kernel
theorem dX7_tries_215 : decode cX7_tries 215 = .ok (.ifCond .ne 7, 3) := by decide +kernel
theorem dX7_tries_218 : decode cX7_tries 218 = .ok (.iconst 1, 1) := by decide +kernel
theorem dX7_tries_219 : decode cX7_tries 219 = .ok (.goto 4, 3) := by decide +kernel
theorem dX7_tries_222 : decode cX7_tries 222 = .ok (.iconst 0, 1) := by decide +kernel
theorem dX7_tries_223 : decode cX7_tries 223 = .ok (.istore_n 3, 1) := by decide +kernel
theorem dX7_tries_224 : decode cX7_tries 224 = .ok (.iinc 4 1, 3) := by decide +kernel
theorem dX7_tries_227 : decode cX7_tries 227 = .ok (.goto (-39), 3) := by decide +kernel
theorem dX7_tries_230 : decode cX7_tries 230 = .ok (.aload_n 0, 1) := by decide +kernel
theorem dX7_tries_231 : decode cX7_tries 231 = .ok (.getfield 71, 3) := by decide +kernel
theorem dX7_tries_234 : decode cX7_tries 234 = .ok (.lconst 0, 1) := by decide +kernel
theorem dX7_tries_235 : decode cX7_tries 235 = .ok (.lcmp, 1) := by decide +kernel
theorem dX7_tries_236 : decode cX7_tries 236 = .ok (.ifCond .ge 9, 3) := by decide +kernel
theorem dX7_tries_239 : decode cX7_tries 239 = .ok (.ldc2_w 111, 3) := by decide +kernel
theorem dX7_tries_242 : decode cX7_tries 242 = .ok (.goto 4, 3) := by decide +kernel
theorem dX7_tries_245 : decode cX7_tries 245 = .ok (.lconst 1, 1) := by decide +kernel
theorem dX7_tries_246 : decode cX7_tries 246 = .ok (.lstore 4, 2) := by decide +kernel
theorem dX7_tries_248 : decode cX7_tries 248 = .ok (.aload_n 0, 1) := by decide +kernel
theorem dX7_tries_249 : decode cX7_tries 249 = .ok (.aload_n 0, 1) := by decide +kernel
theorem dX7_tries_250 : decode cX7_tries 250 = .ok (.getfield 71, 3) := by decide +kernel
theorem dX7_tries_253 : decode cX7_tries 253 = .ok (.lload 4, 2) := by decide +kernel
theorem dX7_tries_255 : decode cX7_tries 255 = .ok (.lmul, 1) := by decide +kernel
theorem dX7_tries_256 : decode cX7_tries 256 = .ok (.putfield 113, 3) := by decide +kernel
theorem dX7_tries_259 : decode cX7_tries 259 = .ok (.iconst 0, 1) := by decide +kernel
theorem dX7_tries_260 : decode cX7_tries 260 = .ok (.istore 6, 2) := by decide +kernel
theorem dX7_tries_262 : decode cX7_tries 262 = .ok (.iconst 0, 1) := by decide +kernel
theorem dX7_tries_263 : decode cX7_tries 263 = .ok (.istore 7, 2) := by decide +kernel
theorem dX7_tries_265 : decode cX7_tries 265 = .ok (.iload 7, 2) := by decide +kernel
theorem dX7_tries_267 : decode cX7_tries 267 = .ok (.aload_n 0, 1) := by decide +kernel
theorem dX7_tries_268 : decode cX7_tries 268 = .ok (.getfield 7, 3) := by decide +kernel
theorem dX7_tries_271 : decode cX7_tries 271 = .ok (.if_icmp .ge 98, 3) := by decide +kernel
theorem dX7_tries_274 : decode cX7_tries 274 = .ok (.iload_n 1, 1) := by decide +kernel
theorem dX7_tries_275 : decode cX7_tries 275 = .ok (.iload 7, 2) := by decide +kernel
theorem dX7_tries_277 : decode cX7_tries 277 = .ok (.ishr, 1) := by decide +kernel
theorem dX7_tries_278 : decode cX7_tries 278 = .ok (.iconst 1, 1) := by decide +kernel
theorem dX7_tries_279 : decode cX7_tries 279 = .ok (.iand, 1) := by decide +kernel
theorem dX7_tries_280 : decode cX7_tries 280 = .ok (.iconst 1, 1) := by decide +kernel
theorem dX7_tries_281 : decode cX7_tries 281 = .ok (.if_icmp .ne 7, 3) := by decide +kernel
theorem dX7_tries_284 : decode cX7_tries 284 = .ok (.iconst 1, 1) := by decide +kernel
theorem dX7_tries_285 : decode cX7_tries 285 = .ok (.goto 4, 3) := by decide +kernel
theorem dX7_tries_288 : decode cX7_tries 288 = .ok (.iconst 0, 1) := by decide +kernel
theorem dX7_tries_289 : decode cX7_tries 289 = .ok (.istore 8, 2) := by decide +kernel
theorem dX7_tries_291 : decode cX7_tries 291 = .ok (.aload_n 0, 1) := by decide +kernel
theorem dX7_tries_292 : decode cX7_tries 292 = .ok (.getfield 37, 3) := by decide +kernel
theorem dX7_tries_295 : decode cX7_tries 295 = .ok (.iload 7, 2) := by decide +kernel
theorem dX7_tries_297 : decode cX7_tries 297 = .ok (.iload 8, 2) := by decide +kernel
theorem dX7_tries_299 : decode cX7_tries 299 = .ok (.ifCond .eq 25, 3) := by decide +kernel
theorem dX7_tries_302 : decode cX7_tries 302 = .ok (.iload_n 3, 1) := by decide +kernel
theorem dX7_tries_303 : decode cX7_tries 303 = .ok (.ifCond .eq 21, 3) := by decide +kernel
theorem dX7_tries_306 : decode cX7_tries 306 = .ok (.aload_n 0, 1) := by decide +kernel
theorem dX7_tries_307 : decode cX7_tries 307 = .ok (.getfield 30, 3) := by decide +kernel
theorem dX7_tries_310 : decode cX7_tries 310 = .ok (.bipush 32, 2) := by decide +kernel
theorem dX7_tries_312 : decode cX7_tries 312 = .ok (.iload 6, 2) := by decide +kernel
theorem dX7_tries_314 : decode cX7_tries 314 = .ok (.imul, 1) := by decide +kernel
theorem dX7_tries_315 : decode cX7_tries 315 = .ok (.iload_n 2, 1) := by decide +kernel
theorem dX7_tries_316 : decode cX7_tries 316 = .ok (.iadd, 1) := by decide +kernel
theorem dX7_tries_317 : decode cX7_tries 317 = .ok (.laload, 1) := by decide +kernel
theorem dX7_tries_318 : decode cX7_tries 318 = .ok (.lload 4, 2) := by decide +kernel
theorem dX7_tries_320 : decode cX7_tries 320 = .ok (.lmul, 1) := by decide +kernel
theorem dX7_tries_321 : decode cX7_tries 321 = .ok (.goto 4, 3) := by decide +kernel
theorem dX7_tries_324 : decode cX7_tries 324 = .ok (.lconst 0, 1) := by decide +kernel
theorem dX7_tries_325 : decode cX7_tries 325 = .ok (.lastore, 1) := by decide +kernel
theorem dX7_tries_326 : decode cX7_tries 326 = .ok (.iload_n 3, 1) := by decide +kernel
theorem dX7_tries_327 : decode cX7_tries 327 = .ok (.ifCond .eq 19, 3) := by decide +kernel
theorem dX7_tries_330 : decode cX7_tries 330 = .ok (.aload_n 0, 1) := by decide +kernel
theorem dX7_tries_331 : decode cX7_tries 331 = .ok (.getfield 37, 3) := by decide +kernel
theorem dX7_tries_334 : decode cX7_tries 334 = .ok (.iload 7, 2) := by decide +kernel
theorem dX7_tries_336 : decode cX7_tries 336 = .ok (.laload, 1) := by decide +kernel
theorem dX7_tries_337 : decode cX7_tries 337 = .ok (.lconst 0, 1) := by decide +kernel
theorem dX7_tries_338 : decode cX7_tries 338 = .ok (.lcmp, 1) := by decide +kernel
theorem dX7_tries_339 : decode cX7_tries 339 = .ok (.ifCond .lt 7, 3) := by decide +kernel
theorem dX7_tries_342 : decode cX7_tries 342 = .ok (.iconst 1, 1) := by decide +kernel
theorem dX7_tries_343 : decode cX7_tries 343 = .ok (.goto 4, 3) := by decide +kernel
theorem dX7_tries_346 : decode cX7_tries 346 = .ok (.iconst 0, 1) := by decide +kernel
theorem dX7_tries_347 : decode cX7_tries 347 = .ok (.istore_n 3, 1) := by decide +kernel
theorem dX7_tries_348 : decode cX7_tries 348 = .ok (.iload 6, 2) := by decide +kernel
theorem dX7_tries_350 : decode cX7_tries 350 = .ok (.iload 8, 2) := by decide +kernel
theorem dX7_tries_352 : decode cX7_tries 352 = .ok (.ifCond .eq 7, 3) := by decide +kernel
theorem dX7_tries_355 : decode cX7_tries 355 = .ok (.iconst 1, 1) := by decide +kernel
theorem dX7_tries_356 : decode cX7_tries 356 = .ok (.goto 4, 3) := by decide +kernel
theorem dX7_tries_359 : decode cX7_tries 359 = .ok (.iconst 0, 1) := by decide +kernel
theorem dX7_tries_360 : decode cX7_tries 360 = .ok (.iadd, 1) := by decide +kernel
theorem dX7_tries_361 : decode cX7_tries 361 = .ok (.istore 6, 2) := by decide +kernel
theorem dX7_tries_363 : decode cX7_tries 363 = .ok (.iinc 7 1, 3) := by decide +kernel
theorem dX7_tries_366 : decode cX7_tries 366 = .ok (.goto (-101), 3) := by decide +kernel
theorem dX7_tries_369 : decode cX7_tries 369 = .ok (.iload_n 3, 1) := by decide +kernel
theorem dX7_tries_370 : decode cX7_tries 370 = .ok (.ireturn, 1) := by decide +kernel
theorem dX7_of_0 : decode cX7_of 0 = .ok (.lconst 0, 1) := by decide +kernel
theorem dX7_of_1 : decode cX7_of 1 = .ok (.lstore_n 2, 1) := by decide +kernel
theorem dX7_of_2 : decode cX7_of 2 = .ok (.iconst 0, 1) := by decide +kernel
theorem dX7_of_3 : decode cX7_of 3 = .ok (.istore 4, 2) := by decide +kernel
theorem dX7_of_5 : decode cX7_of 5 = .ok (.iload 4, 2) := by decide +kernel
theorem dX7_of_7 : decode cX7_of 7 = .ok (.bipush 10, 2) := by decide +kernel
theorem dX7_of_9 : decode cX7_of 9 = .ok (.if_icmp .ge 30, 3) := by decide +kernel
theorem dX7_of_12 : decode cX7_of 12 = .ok (.lload_n 2, 1) := by decide +kernel
theorem dX7_of_13 : decode cX7_of 13 = .ok (.iload_n 1, 1) := by decide +kernel
theorem dX7_of_14 : decode cX7_of 14 = .ok (.iload 4, 2) := by decide +kernel
theorem dX7_of_16 : decode cX7_of 16 = .ok (.ishr, 1) := by decide +kernel
theorem dX7_of_17 : decode cX7_of 17 = .ok (.iconst 1, 1) := by decide +kernel
theorem dX7_of_18 : decode cX7_of 18 = .ok (.iand, 1) := by decide +kernel
theorem dX7_of_19 : decode cX7_of 19 = .ok (.iconst 1, 1) := by decide +kernel
theorem dX7_of_20 : decode cX7_of 20 = .ok (.if_icmp .ne 10, 3) := by decide +kernel
theorem dX7_of_23 : decode cX7_of 23 = .ok (.aload_n 0, 1) := by decide +kernel
theorem dX7_of_24 : decode cX7_of 24 = .ok (.iload 4, 2) := by decide +kernel
theorem dX7_of_26 : decode cX7_of 26 = .ok (.laload, 1) := by decide +kernel
theorem dX7_of_27 : decode cX7_of 27 = .ok (.goto 4, 3) := by decide +kernel
theorem dX7_of_30 : decode cX7_of 30 = .ok (.lconst 0, 1) := by decide +kernel
theorem dX7_of_31 : decode cX7_of 31 = .ok (.ladd, 1) := by decide +kernel
theorem dX7_of_32 : decode cX7_of 32 = .ok (.lstore_n 2, 1) := by decide +kernel
theorem dX7_of_33 : decode cX7_of 33 = .ok (.iinc 4 1, 3) := by decide +kernel
theorem dX7_of_36 : decode cX7_of 36 = .ok (.goto (-31), 3) := by decide +kernel
theorem dX7_of_39 : decode cX7_of 39 = .ok (.lload_n 2, 1) := by decide +kernel
theorem dX7_of_40 : decode cX7_of 40 = .ok (.lreturn, 1) := by decide +kernel
theorem dX7_betters_0 : decode cX7_betters 0 = .ok (.aload_n 0, 1) := by decide +kernel
theorem dX7_betters_1 : decode cX7_betters 1 = .ok (.getfield 37, 3) := by decide +kernel
theorem dX7_betters_4 : decode cX7_betters 4 = .ok (.iload_n 1, 1) := by decide +kernel
theorem dX7_betters_5 : decode cX7_betters 5 = .ok (.invokestatic 116, 3) := by decide +kernel
theorem dX7_betters_8 : decode cX7_betters 8 = .ok (.aload_n 0, 1) := by decide +kernel
theorem dX7_betters_9 : decode cX7_betters 9 = .ok (.getfield 120, 3) := by decide +kernel
theorem dX7_betters_12 : decode cX7_betters 12 = .ok (.lmul, 1) := by decide +kernel
theorem dX7_betters_13 : decode cX7_betters 13 = .ok (.lstore_n 3, 1) := by decide +kernel
theorem dX7_betters_14 : decode cX7_betters 14 = .ok (.aload_n 0, 1) := by decide +kernel
theorem dX7_betters_15 : decode cX7_betters 15 = .ok (.getfield 40, 3) := by decide +kernel
theorem dX7_betters_18 : decode cX7_betters 18 = .ok (.iload_n 1, 1) := by decide +kernel
theorem dX7_betters_19 : decode cX7_betters 19 = .ok (.invokestatic 116, 3) := by decide +kernel
theorem dX7_betters_22 : decode cX7_betters 22 = .ok (.aload_n 0, 1) := by decide +kernel
theorem dX7_betters_23 : decode cX7_betters 23 = .ok (.getfield 113, 3) := by decide +kernel
theorem dX7_betters_26 : decode cX7_betters 26 = .ok (.lmul, 1) := by decide +kernel
theorem dX7_betters_27 : decode cX7_betters 27 = .ok (.lstore 5, 2) := by decide +kernel
theorem dX7_betters_29 : decode cX7_betters 29 = .ok (.lload_n 3, 1) := by decide +kernel
theorem dX7_betters_30 : decode cX7_betters 30 = .ok (.lload 5, 2) := by decide +kernel
theorem dX7_betters_32 : decode cX7_betters 32 = .ok (.lcmp, 1) := by decide +kernel
theorem dX7_betters_33 : decode cX7_betters 33 = .ok (.ifCond .eq 35, 3) := by decide +kernel
theorem dX7_betters_36 : decode cX7_betters 36 = .ok (.iload_n 2, 1) := by decide +kernel
theorem dX7_betters_37 : decode cX7_betters 37 = .ok (.ifCond .ne 18, 3) := by decide +kernel
theorem dX7_betters_40 : decode cX7_betters 40 = .ok (.lload_n 3, 1) := by decide +kernel
theorem dX7_betters_41 : decode cX7_betters 41 = .ok (.lload 5, 2) := by decide +kernel
theorem dX7_betters_43 : decode cX7_betters 43 = .ok (.lcmp, 1) := by decide +kernel
theorem dX7_betters_44 : decode cX7_betters 44 = .ok (.ifCond .ge 7, 3) := by decide +kernel
theorem dX7_betters_47 : decode cX7_betters 47 = .ok (.iconst 1, 1) := by decide +kernel
theorem dX7_betters_48 : decode cX7_betters 48 = .ok (.goto 19, 3) := by decide +kernel
theorem dX7_betters_51 : decode cX7_betters 51 = .ok (.iconst 0, 1) := by decide +kernel
theorem dX7_betters_52 : decode cX7_betters 52 = .ok (.goto 15, 3) := by decide +kernel
theorem dX7_betters_55 : decode cX7_betters 55 = .ok (.lload_n 3, 1) := by decide +kernel
theorem dX7_betters_56 : decode cX7_betters 56 = .ok (.lload 5, 2) := by decide +kernel
theorem dX7_betters_58 : decode cX7_betters 58 = .ok (.lcmp, 1) := by decide +kernel
theorem dX7_betters_59 : decode cX7_betters 59 = .ok (.ifCond .le 7, 3) := by decide +kernel
theorem dX7_betters_62 : decode cX7_betters 62 = .ok (.iconst 1, 1) := by decide +kernel
theorem dX7_betters_63 : decode cX7_betters 63 = .ok (.goto 4, 3) := by decide +kernel
theorem dX7_betters_66 : decode cX7_betters 66 = .ok (.iconst 0, 1) := by decide +kernel
theorem dX7_betters_67 : decode cX7_betters 67 = .ok (.ireturn, 1) := by decide +kernel
theorem dX7_betters_68 : decode cX7_betters 68 = .ok (.iconst 0, 1) := by decide +kernel
theorem dX7_betters_69 : decode cX7_betters 69 = .ok (.istore 7, 2) := by decide +kernel
theorem dX7_betters_71 : decode cX7_betters 71 = .ok (.iload 7, 2) := by decide +kernel
theorem dX7_betters_73 : decode cX7_betters 73 = .ok (.aload_n 0, 1) := by decide +kernel
theorem dX7_betters_74 : decode cX7_betters 74 = .ok (.getfield 7, 3) := by decide +kernel
theorem dX7_betters_77 : decode cX7_betters 77 = .ok (.if_icmp .ge 59, 3) := by decide +kernel
theorem dX7_betters_80 : decode cX7_betters 80 = .ok (.aload_n 0, 1) := by decide +kernel
theorem dX7_betters_81 : decode cX7_betters 81 = .ok (.getfield 37, 3) := by decide +kernel
theorem dX7_betters_84 : decode cX7_betters 84 = .ok (.iload 7, 2) := by decide +kernel
theorem dX7_betters_86 : decode cX7_betters 86 = .ok (.laload, 1) := by decide +kernel
theorem dX7_betters_87 : decode cX7_betters 87 = .ok (.aload_n 0, 1) := by decide +kernel
theorem dX7_betters_88 : decode cX7_betters 88 = .ok (.getfield 120, 3) := by decide +kernel
theorem dX7_betters_91 : decode cX7_betters 91 = .ok (.lmul, 1) := by decide +kernel
theorem dX7_betters_92 : decode cX7_betters 92 = .ok (.lstore 8, 2) := by decide +kernel
theorem dX7_betters_94 : decode cX7_betters 94 = .ok (.aload_n 0, 1) := by decide +kernel
theorem dX7_betters_95 : decode cX7_betters 95 = .ok (.getfield 40, 3) := by decide +kernel
theorem dX7_betters_98 : decode cX7_betters 98 = .ok (.iload 7, 2) := by decide +kernel
theorem dX7_betters_100 : decode cX7_betters 100 = .ok (.laload, 1) := by decide +kernel
theorem dX7_betters_101 : decode cX7_betters 101 = .ok (.aload_n 0, 1) := by decide +kernel
theorem dX7_betters_102 : decode cX7_betters 102 = .ok (.getfield 113, 3) := by decide +kernel
theorem dX7_betters_105 : decode cX7_betters 105 = .ok (.lmul, 1) := by decide +kernel
theorem dX7_betters_106 : decode cX7_betters 106 = .ok (.lstore 10, 2) := by decide +kernel
theorem dX7_betters_108 : decode cX7_betters 108 = .ok (.lload 8, 2) := by decide +kernel
theorem dX7_betters_110 : decode cX7_betters 110 = .ok (.lload 10, 2) := by decide +kernel
theorem dX7_betters_112 : decode cX7_betters 112 = .ok (.lcmp, 1) := by decide +kernel
theorem dX7_betters_113 : decode cX7_betters 113 = .ok (.ifCond .eq 17, 3) := by decide +kernel
theorem dX7_betters_116 : decode cX7_betters 116 = .ok (.lload 8, 2) := by decide +kernel
theorem dX7_betters_118 : decode cX7_betters 118 = .ok (.lload 10, 2) := by decide +kernel
theorem dX7_betters_120 : decode cX7_betters 120 = .ok (.lcmp, 1) := by decide +kernel
theorem dX7_betters_121 : decode cX7_betters 121 = .ok (.ifCond .ge 7, 3) := by decide +kernel
theorem dX7_betters_124 : decode cX7_betters 124 = .ok (.iconst 1, 1) := by decide +kernel
theorem dX7_betters_125 : decode cX7_betters 125 = .ok (.goto 4, 3) := by decide +kernel
theorem dX7_betters_128 : decode cX7_betters 128 = .ok (.iconst 0, 1) := by decide +kernel
theorem dX7_betters_129 : decode cX7_betters 129 = .ok (.ireturn, 1) := by decide +kernel
theorem dX7_betters_130 : decode cX7_betters 130 = .ok (.iinc 7 1, 3) := by decide +kernel
theorem dX7_betters_133 : decode cX7_betters 133 = .ok (.goto (-62), 3) := by decide +kernel
theorem dX7_betters_136 : decode cX7_betters 136 = .ok (.iconst 0, 1) := by decide +kernel
theorem dX7_betters_137 : decode cX7_betters 137 = .ok (.ireturn, 1) := by decide +kernel
theorem dX7_find_0 : decode cX7_find 0 = .ok (.iconst 0, 1) := by decide +kernel
theorem dX7_find_1 : decode cX7_find 1 = .ok (.istore_n 3, 1) := by decide +kernel
theorem dX7_find_2 : decode cX7_find 2 = .ok (.aload_n 0, 1) := by decide +kernel
theorem dX7_find_3 : decode cX7_find 3 = .ok (.invokevirtual 123, 3) := by decide +kernel
theorem dX7_find_6 : decode cX7_find 6 = .ok (.istore 4, 2) := by decide +kernel
theorem dX7_find_8 : decode cX7_find 8 = .ok (.iconst 0, 1) := by decide +kernel
theorem dX7_find_9 : decode cX7_find 9 = .ok (.istore 5, 2) := by decide +kernel
theorem dX7_find_11 : decode cX7_find 11 = .ok (.iload 5, 2) := by decide +kernel
theorem dX7_find_13 : decode cX7_find 13 = .ok (.iconst 1, 1) := by decide +kernel
theorem dX7_find_14 : decode cX7_find 14 = .ok (.aload_n 0, 1) := by decide +kernel
theorem dX7_find_15 : decode cX7_find 15 = .ok (.getfield 7, 3) := by decide +kernel
theorem dX7_find_18 : decode cX7_find 18 = .ok (.ishl, 1) := by decide +kernel
theorem dX7_find_19 : decode cX7_find 19 = .ok (.if_icmp .ge 94, 3) := by decide +kernel
theorem dX7_find_22 : decode cX7_find 22 = .ok (.iload 5, 2) := by decide +kernel
theorem dX7_find_24 : decode cX7_find 24 = .ok (.iload 4, 2) := by decide +kernel
theorem dX7_find_26 : decode cX7_find 26 = .ok (.iconst (-1), 1) := by decide +kernel
theorem dX7_find_27 : decode cX7_find 27 = .ok (.ixor, 1) := by decide +kernel
theorem dX7_find_28 : decode cX7_find 28 = .ok (.iand, 1) := by decide +kernel
theorem dX7_find_29 : decode cX7_find 29 = .ok (.ifCond .ne 78, 3) := by decide +kernel
theorem dX7_find_32 : decode cX7_find 32 = .ok (.aload_n 0, 1) := by decide +kernel
theorem dX7_find_33 : decode cX7_find 33 = .ok (.iload 5, 2) := by decide +kernel
theorem dX7_find_35 : decode cX7_find 35 = .ok (.invokevirtual 126, 3) := by decide +kernel
theorem dX7_find_38 : decode cX7_find 38 = .ok (.ifCond .eq 69, 3) := by decide +kernel
theorem dX7_find_41 : decode cX7_find 41 = .ok (.iload_n 3, 1) := by decide +kernel
theorem dX7_find_42 : decode cX7_find 42 = .ok (.ifCond .eq 12, 3) := by decide +kernel
theorem dX7_find_45 : decode cX7_find 45 = .ok (.aload_n 0, 1) := by decide +kernel
theorem dX7_find_46 : decode cX7_find 46 = .ok (.iload_n 1, 1) := by decide +kernel
theorem dX7_find_47 : decode cX7_find 47 = .ok (.iload_n 2, 1) := by decide +kernel
theorem dX7_find_48 : decode cX7_find 48 = .ok (.invokevirtual 129, 3) := by decide +kernel
theorem dX7_find_51 : decode cX7_find 51 = .ok (.ifCond .eq 56, 3) := by decide +kernel
theorem dX7_find_54 : decode cX7_find 54 = .ok (.iconst 0, 1) := by decide +kernel
theorem dX7_find_55 : decode cX7_find 55 = .ok (.istore 6, 2) := by decide +kernel
theorem dX7_find_57 : decode cX7_find 57 = .ok (.iload 6, 2) := by decide +kernel
theorem dX7_find_59 : decode cX7_find 59 = .ok (.bipush 10, 2) := by decide +kernel
theorem dX7_find_61 : decode cX7_find 61 = .ok (.if_icmp .ge 36, 3) := by decide +kernel
theorem dX7_find_64 : decode cX7_find 64 = .ok (.aload_n 0, 1) := by decide +kernel
theorem dX7_find_65 : decode cX7_find 65 = .ok (.getfield 40, 3) := by decide +kernel
theorem dX7_find_68 : decode cX7_find 68 = .ok (.iload 6, 2) := by decide +kernel
theorem dX7_find_70 : decode cX7_find 70 = .ok (.iload 6, 2) := by decide +kernel
theorem dX7_find_72 : decode cX7_find 72 = .ok (.aload_n 0, 1) := by decide +kernel
theorem dX7_find_73 : decode cX7_find 73 = .ok (.getfield 7, 3) := by decide +kernel
theorem dX7_find_76 : decode cX7_find 76 = .ok (.if_icmp .ge 13, 3) := by decide +kernel
theorem dX7_find_79 : decode cX7_find 79 = .ok (.aload_n 0, 1) := by decide +kernel
theorem dX7_find_80 : decode cX7_find 80 = .ok (.getfield 37, 3) := by decide +kernel
theorem dX7_find_83 : decode cX7_find 83 = .ok (.iload 6, 2) := by decide +kernel
theorem dX7_find_85 : decode cX7_find 85 = .ok (.laload, 1) := by decide +kernel
theorem dX7_find_86 : decode cX7_find 86 = .ok (.goto 4, 3) := by decide +kernel
theorem dX7_find_89 : decode cX7_find 89 = .ok (.lconst 0, 1) := by decide +kernel
theorem dX7_find_90 : decode cX7_find 90 = .ok (.lastore, 1) := by decide +kernel
theorem dX7_find_91 : decode cX7_find 91 = .ok (.iinc 6 1, 3) := by decide +kernel
theorem dX7_find_94 : decode cX7_find 94 = .ok (.goto (-37), 3) := by decide +kernel
theorem dX7_find_97 : decode cX7_find 97 = .ok (.aload_n 0, 1) := by decide +kernel
theorem dX7_find_98 : decode cX7_find 98 = .ok (.aload_n 0, 1) := by decide +kernel
theorem dX7_find_99 : decode cX7_find 99 = .ok (.getfield 113, 3) := by decide +kernel
theorem dX7_find_102 : decode cX7_find 102 = .ok (.putfield 120, 3) := by decide +kernel
theorem dX7_find_105 : decode cX7_find 105 = .ok (.iconst 1, 1) := by decide +kernel
theorem dX7_find_106 : decode cX7_find 106 = .ok (.istore_n 3, 1) := by decide +kernel
theorem dX7_find_107 : decode cX7_find 107 = .ok (.iinc 5 1, 3) := by decide +kernel
theorem dX7_find_110 : decode cX7_find 110 = .ok (.goto (-99), 3) := by decide +kernel
theorem dX7_find_113 : decode cX7_find 113 = .ok (.iload_n 3, 1) := by decide +kernel
theorem dX7_find_114 : decode cX7_find 114 = .ok (.ireturn, 1) := by decide +kernel
theorem dX7_gcd_0 : decode cX7_gcd 0 = .ok (.lload_n 0, 1) := by decide +kernel
theorem dX7_gcd_1 : decode cX7_gcd 1 = .ok (.lstore 4, 2) := by decide +kernel
theorem dX7_gcd_3 : decode cX7_gcd 3 = .ok (.lload_n 2, 1) := by decide +kernel
theorem dX7_gcd_4 : decode cX7_gcd 4 = .ok (.lstore 6, 2) := by decide +kernel
theorem dX7_gcd_6 : decode cX7_gcd 6 = .ok (.lload 6, 2) := by decide +kernel
theorem dX7_gcd_8 : decode cX7_gcd 8 = .ok (.lconst 0, 1) := by decide +kernel
theorem dX7_gcd_9 : decode cX7_gcd 9 = .ok (.lcmp, 1) := by decide +kernel
theorem dX7_gcd_10 : decode cX7_gcd 10 = .ok (.ifCond .eq 21, 3) := by decide +kernel
theorem dX7_gcd_13 : decode cX7_gcd 13 = .ok (.lload 4, 2) := by decide +kernel
theorem dX7_gcd_15 : decode cX7_gcd 15 = .ok (.lload 6, 2) := by decide +kernel
theorem dX7_gcd_17 : decode cX7_gcd 17 = .ok (.lrem, 1) := by decide +kernel
theorem dX7_gcd_18 : decode cX7_gcd 18 = .ok (.lstore 8, 2) := by decide +kernel
theorem dX7_gcd_20 : decode cX7_gcd 20 = .ok (.lload 6, 2) := by decide +kernel
theorem dX7_gcd_22 : decode cX7_gcd 22 = .ok (.lstore 4, 2) := by decide +kernel
theorem dX7_gcd_24 : decode cX7_gcd 24 = .ok (.lload 8, 2) := by decide +kernel
theorem dX7_gcd_26 : decode cX7_gcd 26 = .ok (.lstore 6, 2) := by decide +kernel
theorem dX7_gcd_28 : decode cX7_gcd 28 = .ok (.goto (-22), 3) := by decide +kernel
theorem dX7_gcd_31 : decode cX7_gcd 31 = .ok (.lload 4, 2) := by decide +kernel
theorem dX7_gcd_33 : decode cX7_gcd 33 = .ok (.lreturn, 1) := by decide +kernel
theorem dX7_part_0 : decode cX7_part 0 = .ok (.lload_n 0, 1) := by decide +kernel
theorem dX7_part_1 : decode cX7_part 1 = .ok (.lload_n 2, 1) := by decide +kernel
theorem dX7_part_2 : decode cX7_part 2 = .ok (.invokestatic 132, 3) := by decide +kernel
theorem dX7_part_5 : decode cX7_part 5 = .ok (.lstore 5, 2) := by decide +kernel
theorem dX7_part_7 : decode cX7_part 7 = .ok (.iload 4, 2) := by decide +kernel
theorem dX7_part_9 : decode cX7_part 9 = .ok (.ifCond .ne 10, 3) := by decide +kernel
theorem dX7_part_12 : decode cX7_part 12 = .ok (.lload_n 0, 1) := by decide +kernel
theorem dX7_part_13 : decode cX7_part 13 = .ok (.lload 5, 2) := by decide +kernel
theorem dX7_part_15 : decode cX7_part 15 = .ok (.ldiv, 1) := by decide +kernel
theorem dX7_part_16 : decode cX7_part 16 = .ok (.goto 7, 3) := by decide +kernel
theorem dX7_part_19 : decode cX7_part 19 = .ok (.lload_n 2, 1) := by decide +kernel
theorem dX7_part_20 : decode cX7_part 20 = .ok (.lload 5, 2) := by decide +kernel
theorem dX7_part_22 : decode cX7_part 22 = .ok (.ldiv, 1) := by decide +kernel
theorem dX7_part_23 : decode cX7_part 23 = .ok (.lreturn, 1) := by decide +kernel
theorem dX7_isEndless_0 : decode cX7_isEndless 0 = .ok (.iload_n 2, 1) := by decide +kernel
theorem dX7_isEndless_1 : decode cX7_isEndless 1 = .ok (.iconst 1, 1) := by decide +kernel
theorem dX7_isEndless_2 : decode cX7_isEndless 2 = .ok (.if_icmp .ne 18, 3) := by decide +kernel
theorem dX7_isEndless_5 : decode cX7_isEndless 5 = .ok (.iload_n 1, 1) := by decide +kernel
theorem dX7_isEndless_6 : decode cX7_isEndless 6 = .ok (.aload_n 0, 1) := by decide +kernel
theorem dX7_isEndless_7 : decode cX7_isEndless 7 = .ok (.invokevirtual 123, 3) := by decide +kernel
theorem dX7_isEndless_10 : decode cX7_isEndless 10 = .ok (.iconst (-1), 1) := by decide +kernel
theorem dX7_isEndless_11 : decode cX7_isEndless 11 = .ok (.ixor, 1) := by decide +kernel
theorem dX7_isEndless_12 : decode cX7_isEndless 12 = .ok (.iand, 1) := by decide +kernel
theorem dX7_isEndless_13 : decode cX7_isEndless 13 = .ok (.ifCond .eq 7, 3) := by decide +kernel
theorem dX7_isEndless_16 : decode cX7_isEndless 16 = .ok (.iconst 1, 1) := by decide +kernel
theorem dX7_isEndless_17 : decode cX7_isEndless 17 = .ok (.goto 4, 3) := by decide +kernel
theorem dX7_isEndless_20 : decode cX7_isEndless 20 = .ok (.iconst 0, 1) := by decide +kernel
theorem dX7_isEndless_21 : decode cX7_isEndless 21 = .ok (.ireturn, 1) := by decide +kernel
theorem dX7_bound_0 : decode cX7_bound 0 = .ok (.aload_n 0, 1) := by decide +kernel
theorem dX7_bound_1 : decode cX7_bound 1 = .ok (.iload_n 1, 1) := by decide +kernel
theorem dX7_bound_2 : decode cX7_bound 2 = .ok (.iconst 0, 1) := by decide +kernel
theorem dX7_bound_3 : decode cX7_bound 3 = .ok (.invokevirtual 58, 3) := by decide +kernel
theorem dX7_bound_6 : decode cX7_bound 6 = .ok (.ifCond .ne 23, 3) := by decide +kernel
theorem dX7_bound_9 : decode cX7_bound 9 = .ok (.iload_n 2, 1) := by decide +kernel
theorem dX7_bound_10 : decode cX7_bound 10 = .ok (.i2l, 1) := by decide +kernel
theorem dX7_bound_11 : decode cX7_bound 11 = .ok (.lconst 0, 1) := by decide +kernel
theorem dX7_bound_12 : decode cX7_bound 12 = .ok (.lconst 1, 1) := by decide +kernel
theorem dX7_bound_13 : decode cX7_bound 13 = .ok (.invokestatic 46, 3) := by decide +kernel
theorem dX7_bound_16 : decode cX7_bound 16 = .ok (.ifCond .eq 13, 3) := by decide +kernel
theorem dX7_bound_19 : decode cX7_bound 19 = .ok (.iload_n 3, 1) := by decide +kernel
theorem dX7_bound_20 : decode cX7_bound 20 = .ok (.i2l, 1) := by decide +kernel
theorem dX7_bound_21 : decode cX7_bound 21 = .ok (.lconst 0, 1) := by decide +kernel
theorem dX7_bound_22 : decode cX7_bound 22 = .ok (.lconst 1, 1) := by decide +kernel
theorem dX7_bound_23 : decode cX7_bound 23 = .ok (.invokestatic 46, 3) := by decide +kernel
theorem dX7_bound_26 : decode cX7_bound 26 = .ok (.ifCond .ne 7, 3) := by decide +kernel
theorem dX7_bound_29 : decode cX7_bound 29 = .ok (.ldc2_w 136, 3) := by decide +kernel
theorem dX7_bound_32 : decode cX7_bound 32 = .ok (.lreturn, 1) := by decide +kernel
theorem dX7_bound_33 : decode cX7_bound 33 = .ok (.aload_n 0, 1) := by decide +kernel
theorem dX7_bound_34 : decode cX7_bound 34 = .ok (.aload_n 0, 1) := by decide +kernel
theorem dX7_bound_35 : decode cX7_bound 35 = .ok (.invokevirtual 90, 3) := by decide +kernel
theorem dX7_bound_38 : decode cX7_bound 38 = .ok (.invokevirtual 108, 3) := by decide +kernel
theorem dX7_bound_41 : decode cX7_bound 41 = .ok (.ifCond .ne 7, 3) := by decide +kernel
theorem dX7_bound_44 : decode cX7_bound 44 = .ok (.ldc2_w 138, 3) := by decide +kernel
theorem dX7_bound_47 : decode cX7_bound 47 = .ok (.lreturn, 1) := by decide +kernel
theorem dX7_bound_48 : decode cX7_bound 48 = .ok (.aload_n 0, 1) := by decide +kernel
theorem dX7_bound_49 : decode cX7_bound 49 = .ok (.iload_n 1, 1) := by decide +kernel
theorem dX7_bound_50 : decode cX7_bound 50 = .ok (.iload_n 2, 1) := by decide +kernel
theorem dX7_bound_51 : decode cX7_bound 51 = .ok (.invokevirtual 140, 3) := by decide +kernel
theorem dX7_bound_54 : decode cX7_bound 54 = .ok (.ifCond .eq 7, 3) := by decide +kernel
theorem dX7_bound_57 : decode cX7_bound 57 = .ok (.ldc2_w 143, 3) := by decide +kernel
theorem dX7_bound_60 : decode cX7_bound 60 = .ok (.lreturn, 1) := by decide +kernel
theorem dX7_bound_61 : decode cX7_bound 61 = .ok (.aload_n 0, 1) := by decide +kernel
theorem dX7_bound_62 : decode cX7_bound 62 = .ok (.iload_n 1, 1) := by decide +kernel
theorem dX7_bound_63 : decode cX7_bound 63 = .ok (.iload_n 2, 1) := by decide +kernel
theorem dX7_bound_64 : decode cX7_bound 64 = .ok (.invokevirtual 145, 3) := by decide +kernel
theorem dX7_bound_67 : decode cX7_bound 67 = .ok (.istore 4, 2) := by decide +kernel
theorem dX7_bound_69 : decode cX7_bound 69 = .ok (.aload_n 0, 1) := by decide +kernel
theorem dX7_bound_70 : decode cX7_bound 70 = .ok (.getfield 40, 3) := by decide +kernel
