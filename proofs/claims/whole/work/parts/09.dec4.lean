theorem dX11_share_62 : decode cX11_share 62 = .ok (.iastore, 1) := by decide +kernel
theorem dX11_share_63 : decode cX11_share 63 = .ok (.aload_n 0, 1) := by decide +kernel
theorem dX11_share_64 : decode cX11_share 64 = .ok (.getfield 174, 3) := by decide +kernel
theorem dX11_share_67 : decode cX11_share 67 = .ok (.iload_n 3, 1) := by decide +kernel
theorem dX11_share_68 : decode cX11_share 68 = .ok (.ldc2_w 246, 3) := by decide +kernel
theorem dX11_share_71 : decode cX11_share 71 = .ok (.lastore, 1) := by decide +kernel
theorem dX11_share_72 : decode cX11_share 72 = .ok (.iinc 2 1, 3) := by decide +kernel
theorem dX11_share_75 : decode cX11_share 75 = .ok (.goto (-73), 3) := by decide +kernel
theorem dX11_share_78 : decode cX11_share 78 = .ok (.return_, 1) := by decide +kernel
theorem dX11_wander_0 : decode cX11_wander 0 = .ok (.iconst 0, 1) := by decide +kernel
theorem dX11_wander_1 : decode cX11_wander 1 = .ok (.istore_n 3, 1) := by decide +kernel
theorem dX11_wander_2 : decode cX11_wander 2 = .ok (.iload_n 3, 1) := by decide +kernel
theorem dX11_wander_3 : decode cX11_wander 3 = .ok (.bipush 10, 2) := by decide +kernel
theorem dX11_wander_5 : decode cX11_wander 5 = .ok (.if_icmp .ge 36, 3) := by decide +kernel
theorem dX11_wander_8 : decode cX11_wander 8 = .ok (.aload_n 0, 1) := by decide +kernel
theorem dX11_wander_9 : decode cX11_wander 9 = .ok (.getfield 171, 3) := by decide +kernel
theorem dX11_wander_12 : decode cX11_wander 12 = .ok (.iload_n 3, 1) := by decide +kernel
theorem dX11_wander_13 : decode cX11_wander 13 = .ok (.iload_n 3, 1) := by decide +kernel
theorem dX11_wander_14 : decode cX11_wander 14 = .ok (.aload_n 0, 1) := by decide +kernel
theorem dX11_wander_15 : decode cX11_wander 15 = .ok (.getfield 29, 3) := by decide +kernel
theorem dX11_wander_18 : decode cX11_wander 18 = .ok (.iconst 0, 1) := by decide +kernel
theorem dX11_wander_19 : decode cX11_wander 19 = .ok (.iaload, 1) := by decide +kernel
theorem dX11_wander_20 : decode cX11_wander 20 = .ok (.if_icmp .ge 13, 3) := by decide +kernel
theorem dX11_wander_23 : decode cX11_wander 23 = .ok (.aload_n 0, 1) := by decide +kernel
theorem dX11_wander_24 : decode cX11_wander 24 = .ok (.iload_n 3, 1) := by decide +kernel
theorem dX11_wander_25 : decode cX11_wander 25 = .ok (.iload_n 1, 1) := by decide +kernel
theorem dX11_wander_26 : decode cX11_wander 26 = .ok (.iload_n 2, 1) := by decide +kernel
theorem dX11_wander_27 : decode cX11_wander 27 = .ok (.invokevirtual 248, 3) := by decide +kernel
theorem dX11_wander_30 : decode cX11_wander 30 = .ok (.goto 4, 3) := by decide +kernel
theorem dX11_wander_33 : decode cX11_wander 33 = .ok (.iconst 0, 1) := by decide +kernel
theorem dX11_wander_34 : decode cX11_wander 34 = .ok (.iastore, 1) := by decide +kernel
theorem dX11_wander_35 : decode cX11_wander 35 = .ok (.iinc 3 1, 3) := by decide +kernel
theorem dX11_wander_38 : decode cX11_wander 38 = .ok (.goto (-36), 3) := by decide +kernel
theorem dX11_wander_41 : decode cX11_wander 41 = .ok (.iconst 0, 1) := by decide +kernel
theorem dX11_wander_42 : decode cX11_wander 42 = .ok (.istore_n 3, 1) := by decide +kernel
theorem dX11_wander_43 : decode cX11_wander 43 = .ok (.iload_n 3, 1) := by decide +kernel
theorem dX11_wander_44 : decode cX11_wander 44 = .ok (.bipush 10, 2) := by decide +kernel
theorem dX11_wander_46 : decode cX11_wander 46 = .ok (.if_icmp .ge 16, 3) := by decide +kernel
theorem dX11_wander_49 : decode cX11_wander 49 = .ok (.aload_n 0, 1) := by decide +kernel
theorem dX11_wander_50 : decode cX11_wander 50 = .ok (.getfield 168, 3) := by decide +kernel
theorem dX11_wander_53 : decode cX11_wander 53 = .ok (.iload_n 3, 1) := by decide +kernel
theorem dX11_wander_54 : decode cX11_wander 54 = .ok (.iconst 0, 1) := by decide +kernel
theorem dX11_wander_55 : decode cX11_wander 55 = .ok (.iastore, 1) := by decide +kernel
theorem dX11_wander_56 : decode cX11_wander 56 = .ok (.iinc 3 1, 3) := by decide +kernel
theorem dX11_wander_59 : decode cX11_wander 59 = .ok (.goto (-16), 3) := by decide +kernel
theorem dX11_wander_62 : decode cX11_wander 62 = .ok (.iconst 0, 1) := by decide +kernel
theorem dX11_wander_63 : decode cX11_wander 63 = .ok (.istore_n 3, 1) := by decide +kernel
theorem dX11_wander_64 : decode cX11_wander 64 = .ok (.iload_n 3, 1) := by decide +kernel
theorem dX11_wander_65 : decode cX11_wander 65 = .ok (.aload_n 0, 1) := by decide +kernel
theorem dX11_wander_66 : decode cX11_wander 66 = .ok (.getfield 29, 3) := by decide +kernel
theorem dX11_wander_69 : decode cX11_wander 69 = .ok (.iconst 0, 1) := by decide +kernel
theorem dX11_wander_70 : decode cX11_wander 70 = .ok (.iaload, 1) := by decide +kernel
theorem dX11_wander_71 : decode cX11_wander 71 = .ok (.if_icmp .ge 228, 3) := by decide +kernel
theorem dX11_wander_74 : decode cX11_wander 74 = .ok (.iconst 0, 1) := by decide +kernel
theorem dX11_wander_75 : decode cX11_wander 75 = .ok (.istore 4, 2) := by decide +kernel
theorem dX11_wander_77 : decode cX11_wander 77 = .ok (.iconst 0, 1) := by decide +kernel
theorem dX11_wander_78 : decode cX11_wander 78 = .ok (.istore 5, 2) := by decide +kernel
theorem dX11_wander_80 : decode cX11_wander 80 = .ok (.iload 5, 2) := by decide +kernel
theorem dX11_wander_82 : decode cX11_wander 82 = .ok (.aload_n 0, 1) := by decide +kernel
theorem dX11_wander_83 : decode cX11_wander 83 = .ok (.getfield 29, 3) := by decide +kernel
theorem dX11_wander_86 : decode cX11_wander 86 = .ok (.iconst 0, 1) := by decide +kernel
theorem dX11_wander_87 : decode cX11_wander 87 = .ok (.iaload, 1) := by decide +kernel
theorem dX11_wander_88 : decode cX11_wander 88 = .ok (.if_icmp .ge 46, 3) := by decide +kernel
theorem dX11_wander_91 : decode cX11_wander 91 = .ok (.iload 4, 2) := by decide +kernel
theorem dX11_wander_93 : decode cX11_wander 93 = .ok (.iload 5, 2) := by decide +kernel
theorem dX11_wander_95 : decode cX11_wander 95 = .ok (.iload_n 3, 1) := by decide +kernel
theorem dX11_wander_96 : decode cX11_wander 96 = .ok (.if_icmp .eq 18, 3) := by decide +kernel
theorem dX11_wander_99 : decode cX11_wander 99 = .ok (.aload_n 0, 1) := by decide +kernel
theorem dX11_wander_100 : decode cX11_wander 100 = .ok (.getfield 36, 3) := by decide +kernel
theorem dX11_wander_103 : decode cX11_wander 103 = .ok (.bipush 10, 2) := by decide +kernel
theorem dX11_wander_105 : decode cX11_wander 105 = .ok (.iload_n 3, 1) := by decide +kernel
theorem dX11_wander_106 : decode cX11_wander 106 = .ok (.imul, 1) := by decide +kernel
theorem dX11_wander_107 : decode cX11_wander 107 = .ok (.iload 5, 2) := by decide +kernel
theorem dX11_wander_109 : decode cX11_wander 109 = .ok (.iadd, 1) := by decide +kernel
theorem dX11_wander_110 : decode cX11_wander 110 = .ok (.iaload, 1) := by decide +kernel
theorem dX11_wander_111 : decode cX11_wander 111 = .ok (.ifCond .le 13, 3) := by decide +kernel
theorem dX11_wander_114 : decode cX11_wander 114 = .ok (.aload_n 0, 1) := by decide +kernel
theorem dX11_wander_115 : decode cX11_wander 115 = .ok (.getfield 171, 3) := by decide +kernel
theorem dX11_wander_118 : decode cX11_wander 118 = .ok (.iload 5, 2) := by decide +kernel
theorem dX11_wander_120 : decode cX11_wander 120 = .ok (.iaload, 1) := by decide +kernel
theorem dX11_wander_121 : decode cX11_wander 121 = .ok (.goto 4, 3) := by decide +kernel
theorem dX11_wander_124 : decode cX11_wander 124 = .ok (.iconst 0, 1) := by decide +kernel
theorem dX11_wander_125 : decode cX11_wander 125 = .ok (.iadd, 1) := by decide +kernel
theorem dX11_wander_126 : decode cX11_wander 126 = .ok (.istore 4, 2) := by decide +kernel
theorem dX11_wander_128 : decode cX11_wander 128 = .ok (.iinc 5 1, 3) := by decide +kernel
theorem dX11_wander_131 : decode cX11_wander 131 = .ok (.goto (-51), 3) := by decide +kernel
theorem dX11_wander_134 : decode cX11_wander 134 = .ok (.iload 4, 2) := by decide +kernel
theorem dX11_wander_136 : decode cX11_wander 136 = .ok (.ifCond .ne 21, 3) := by decide +kernel
theorem dX11_wander_139 : decode cX11_wander 139 = .ok (.aload_n 0, 1) := by decide +kernel
theorem dX11_wander_140 : decode cX11_wander 140 = .ok (.getfield 168, 3) := by decide +kernel
theorem dX11_wander_143 : decode cX11_wander 143 = .ok (.iload_n 3, 1) := by decide +kernel
theorem dX11_wander_144 : decode cX11_wander 144 = .ok (.dup2, 1) := by decide +kernel
theorem dX11_wander_145 : decode cX11_wander 145 = .ok (.iaload, 1) := by decide +kernel
theorem dX11_wander_146 : decode cX11_wander 146 = .ok (.aload_n 0, 1) := by decide +kernel
theorem dX11_wander_147 : decode cX11_wander 147 = .ok (.getfield 165, 3) := by decide +kernel
theorem dX11_wander_150 : decode cX11_wander 150 = .ok (.iload_n 3, 1) := by decide +kernel
theorem dX11_wander_151 : decode cX11_wander 151 = .ok (.iaload, 1) := by decide +kernel
theorem dX11_wander_152 : decode cX11_wander 152 = .ok (.iadd, 1) := by decide +kernel
theorem dX11_wander_153 : decode cX11_wander 153 = .ok (.iastore, 1) := by decide +kernel
theorem dX11_wander_154 : decode cX11_wander 154 = .ok (.goto 139, 3) := by decide +kernel
theorem dX11_wander_157 : decode cX11_wander 157 = .ok (.aload_n 0, 1) := by decide +kernel
theorem dX11_wander_158 : decode cX11_wander 158 = .ok (.getfield 165, 3) := by decide +kernel
theorem dX11_wander_161 : decode cX11_wander 161 = .ok (.iload_n 3, 1) := by decide +kernel
theorem dX11_wander_162 : decode cX11_wander 162 = .ok (.iaload, 1) := by decide +kernel
theorem dX11_wander_163 : decode cX11_wander 163 = .ok (.istore 5, 2) := by decide +kernel
theorem dX11_wander_165 : decode cX11_wander 165 = .ok (.iconst 0, 1) := by decide +kernel
theorem dX11_wander_166 : decode cX11_wander 166 = .ok (.istore 6, 2) := by decide +kernel
theorem dX11_wander_168 : decode cX11_wander 168 = .ok (.iload 6, 2) := by decide +kernel
theorem dX11_wander_170 : decode cX11_wander 170 = .ok (.aload_n 0, 1) := by decide +kernel
theorem dX11_wander_171 : decode cX11_wander 171 = .ok (.getfield 29, 3) := by decide +kernel
theorem dX11_wander_174 : decode cX11_wander 174 = .ok (.iconst 0, 1) := by decide +kernel
theorem dX11_wander_175 : decode cX11_wander 175 = .ok (.iaload, 1) := by decide +kernel
theorem dX11_wander_176 : decode cX11_wander 176 = .ok (.if_icmp .ge 111, 3) := by decide +kernel
theorem dX11_wander_179 : decode cX11_wander 179 = .ok (.iload 6, 2) := by decide +kernel
theorem dX11_wander_181 : decode cX11_wander 181 = .ok (.iload_n 3, 1) := by decide +kernel
theorem dX11_wander_182 : decode cX11_wander 182 = .ok (.if_icmp .eq 18, 3) := by decide +kernel
theorem dX11_wander_185 : decode cX11_wander 185 = .ok (.aload_n 0, 1) := by decide +kernel
theorem dX11_wander_186 : decode cX11_wander 186 = .ok (.getfield 36, 3) := by decide +kernel
theorem dX11_wander_189 : decode cX11_wander 189 = .ok (.bipush 10, 2) := by decide +kernel
theorem dX11_wander_191 : decode cX11_wander 191 = .ok (.iload_n 3, 1) := by decide +kernel
theorem dX11_wander_192 : decode cX11_wander 192 = .ok (.imul, 1) := by decide +kernel
theorem dX11_wander_193 : decode cX11_wander 193 = .ok (.iload 6, 2) := by decide +kernel
theorem dX11_wander_195 : decode cX11_wander 195 = .ok (.iadd, 1) := by decide +kernel
theorem dX11_wander_196 : decode cX11_wander 196 = .ok (.iaload, 1) := by decide +kernel
theorem dX11_wander_197 : decode cX11_wander 197 = .ok (.ifCond .le 7, 3) := by decide +kernel
theorem dX11_wander_200 : decode cX11_wander 200 = .ok (.iconst 1, 1) := by decide +kernel
theorem dX11_wander_201 : decode cX11_wander 201 = .ok (.goto 4, 3) := by decide +kernel
theorem dX11_wander_204 : decode cX11_wander 204 = .ok (.iconst 0, 1) := by decide +kernel
theorem dX11_wander_205 : decode cX11_wander 205 = .ok (.istore 7, 2) := by decide +kernel
theorem dX11_wander_207 : decode cX11_wander 207 = .ok (.iload 7, 2) := by decide +kernel
theorem dX11_wander_209 : decode cX11_wander 209 = .ok (.ifCond .eq 20, 3) := by decide +kernel
theorem dX11_wander_212 : decode cX11_wander 212 = .ok (.aload_n 0, 1) := by decide +kernel
theorem dX11_wander_213 : decode cX11_wander 213 = .ok (.getfield 165, 3) := by decide +kernel
theorem dX11_wander_216 : decode cX11_wander 216 = .ok (.iload_n 3, 1) := by decide +kernel
theorem dX11_wander_217 : decode cX11_wander 217 = .ok (.iaload, 1) := by decide +kernel
theorem dX11_wander_218 : decode cX11_wander 218 = .ok (.aload_n 0, 1) := by decide +kernel
theorem dX11_wander_219 : decode cX11_wander 219 = .ok (.getfield 171, 3) := by decide +kernel
theorem dX11_wander_222 : decode cX11_wander 222 = .ok (.iload 6, 2) := by decide +kernel
theorem dX11_wander_224 : decode cX11_wander 224 = .ok (.iaload, 1) := by decide +kernel
theorem dX11_wander_225 : decode cX11_wander 225 = .ok (.imul, 1) := by decide +kernel
theorem dX11_wander_226 : decode cX11_wander 226 = .ok (.goto 4, 3) := by decide +kernel
theorem dX11_wander_229 : decode cX11_wander 229 = .ok (.iconst 0, 1) := by decide +kernel
theorem dX11_wander_230 : decode cX11_wander 230 = .ok (.istore 8, 2) := by decide +kernel
theorem dX11_wander_232 : decode cX11_wander 232 = .ok (.aload_n 0, 1) := by decide +kernel
theorem dX11_wander_233 : decode cX11_wander 233 = .ok (.getfield 168, 3) := by decide +kernel
theorem dX11_wander_236 : decode cX11_wander 236 = .ok (.iload 6, 2) := by decide +kernel
theorem dX11_wander_238 : decode cX11_wander 238 = .ok (.dup2, 1) := by decide +kernel
theorem dX11_wander_239 : decode cX11_wander 239 = .ok (.iaload, 1) := by decide +kernel
theorem dX11_wander_240 : decode cX11_wander 240 = .ok (.iload 8, 2) := by decide +kernel
theorem dX11_wander_242 : decode cX11_wander 242 = .ok (.iload 4, 2) := by decide +kernel
theorem dX11_wander_244 : decode cX11_wander 244 = .ok (.idiv, 1) := by decide +kernel
theorem dX11_wander_245 : decode cX11_wander 245 = .ok (.iadd, 1) := by decide +kernel
theorem dX11_wander_246 : decode cX11_wander 246 = .ok (.iastore, 1) := by decide +kernel
theorem dX11_wander_247 : decode cX11_wander 247 = .ok (.iload 5, 2) := by decide +kernel
theorem dX11_wander_249 : decode cX11_wander 249 = .ok (.iload 8, 2) := by decide +kernel
theorem dX11_wander_251 : decode cX11_wander 251 = .ok (.iload 4, 2) := by decide +kernel
theorem dX11_wander_253 : decode cX11_wander 253 = .ok (.idiv, 1) := by decide +kernel
theorem dX11_wander_254 : decode cX11_wander 254 = .ok (.isub, 1) := by decide +kernel
theorem dX11_wander_255 : decode cX11_wander 255 = .ok (.istore 5, 2) := by decide +kernel
theorem dX11_wander_257 : decode cX11_wander 257 = .ok (.aload_n 0, 1) := by decide +kernel
theorem dX11_wander_258 : decode cX11_wander 258 = .ok (.getfield 174, 3) := by decide +kernel
theorem dX11_wander_261 : decode cX11_wander 261 = .ok (.iload 6, 2) := by decide +kernel
theorem dX11_wander_263 : decode cX11_wander 263 = .ok (.iload 7, 2) := by decide +kernel
theorem dX11_wander_265 : decode cX11_wander 265 = .ok (.ifCond .eq 12, 3) := by decide +kernel
theorem dX11_wander_268 : decode cX11_wander 268 = .ok (.iload 8, 2) := by decide +kernel
theorem dX11_wander_270 : decode cX11_wander 270 = .ok (.iload 4, 2) := by decide +kernel
theorem dX11_wander_272 : decode cX11_wander 272 = .ok (.irem, 1) := by decide +kernel
theorem dX11_wander_273 : decode cX11_wander 273 = .ok (.i2l, 1) := by decide +kernel
theorem dX11_wander_274 : decode cX11_wander 274 = .ok (.goto 6, 3) := by decide +kernel
theorem dX11_wander_277 : decode cX11_wander 277 = .ok (.ldc2_w 246, 3) := by decide +kernel
theorem dX11_wander_280 : decode cX11_wander 280 = .ok (.lastore, 1) := by decide +kernel
theorem dX11_wander_281 : decode cX11_wander 281 = .ok (.iinc 6 1, 3) := by decide +kernel
theorem dX11_wander_284 : decode cX11_wander 284 = .ok (.goto (-116), 3) := by decide +kernel
theorem dX11_wander_287 : decode cX11_wander 287 = .ok (.aload_n 0, 1) := by decide +kernel
theorem dX11_wander_288 : decode cX11_wander 288 = .ok (.iload 5, 2) := by decide +kernel
theorem dX11_wander_290 : decode cX11_wander 290 = .ok (.invokevirtual 252, 3) := by decide +kernel
theorem dX11_wander_293 : decode cX11_wander 293 = .ok (.iinc 3 1, 3) := by decide +kernel
theorem dX11_wander_296 : decode cX11_wander 296 = .ok (.goto (-232), 3) := by decide +kernel
theorem dX11_wander_299 : decode cX11_wander 299 = .ok (.iconst 0, 1) := by decide +kernel
theorem dX11_wander_300 : decode cX11_wander 300 = .ok (.istore_n 3, 1) := by decide +kernel
theorem dX11_wander_301 : decode cX11_wander 301 = .ok (.iload_n 3, 1) := by decide +kernel
theorem dX11_wander_302 : decode cX11_wander 302 = .ok (.bipush 10, 2) := by decide +kernel
theorem dX11_wander_304 : decode cX11_wander 304 = .ok (.if_icmp .ge 21, 3) := by decide +kernel
theorem dX11_wander_307 : decode cX11_wander 307 = .ok (.aload_n 0, 1) := by decide +kernel
theorem dX11_wander_308 : decode cX11_wander 308 = .ok (.getfield 165, 3) := by decide +kernel
theorem dX11_wander_311 : decode cX11_wander 311 = .ok (.iload_n 3, 1) := by decide +kernel
theorem dX11_wander_312 : decode cX11_wander 312 = .ok (.aload_n 0, 1) := by decide +kernel
theorem dX11_wander_313 : decode cX11_wander 313 = .ok (.getfield 168, 3) := by decide +kernel
theorem dX11_wander_316 : decode cX11_wander 316 = .ok (.iload_n 3, 1) := by decide +kernel
theorem dX11_wander_317 : decode cX11_wander 317 = .ok (.iaload, 1) := by decide +kernel
theorem dX11_wander_318 : decode cX11_wander 318 = .ok (.iastore, 1) := by decide +kernel
theorem dX11_wander_319 : decode cX11_wander 319 = .ok (.iinc 3 1, 3) := by decide +kernel
theorem dX11_wander_322 : decode cX11_wander 322 = .ok (.goto (-21), 3) := by decide +kernel
theorem dX11_wander_325 : decode cX11_wander 325 = .ok (.return_, 1) := by decide +kernel
theorem dX11_hear_0 : decode cX11_hear 0 = .ok (.aload_n 0, 1) := by decide +kernel
theorem dX11_hear_1 : decode cX11_hear 1 = .ok (.getfield 75, 3) := by decide +kernel
theorem dX11_hear_4 : decode cX11_hear 4 = .ok (.iload_n 1, 1) := by decide +kernel
theorem dX11_hear_5 : decode cX11_hear 5 = .ok (.iaload, 1) := by decide +kernel
theorem dX11_hear_6 : decode cX11_hear 6 = .ok (.istore_n 2, 1) := by decide +kernel
theorem dX11_hear_7 : decode cX11_hear 7 = .ok (.aload_n 0, 1) := by decide +kernel
theorem dX11_hear_8 : decode cX11_hear 8 = .ok (.getfield 81, 3) := by decide +kernel
theorem dX11_hear_11 : decode cX11_hear 11 = .ok (.iload_n 1, 1) := by decide +kernel
theorem dX11_hear_12 : decode cX11_hear 12 = .ok (.baload, 1) := by decide +kernel
theorem dX11_hear_13 : decode cX11_hear 13 = .ok (.ifCond .eq 15, 3) := by decide +kernel
theorem dX11_hear_16 : decode cX11_hear 16 = .ok (.aload_n 0, 1) := by decide +kernel
theorem dX11_hear_17 : decode cX11_hear 17 = .ok (.getfield 165, 3) := by decide +kernel
theorem dX11_hear_20 : decode cX11_hear 20 = .ok (.iload_n 2, 1) := by decide +kernel
theorem dX11_hear_21 : decode cX11_hear 21 = .ok (.iaload, 1) := by decide +kernel
theorem dX11_hear_22 : decode cX11_hear 22 = .ok (.ifCond .ne 39, 3) := by decide +kernel
theorem dX11_hear_25 : decode cX11_hear 25 = .ok (.goto 15, 3) := by decide +kernel
theorem dX11_hear_28 : decode cX11_hear 28 = .ok (.aload_n 0, 1) := by decide +kernel
theorem dX11_hear_29 : decode cX11_hear 29 = .ok (.getfield 165, 3) := by decide +kernel
theorem dX11_hear_32 : decode cX11_hear 32 = .ok (.iload_n 2, 1) := by decide +kernel
theorem dX11_hear_33 : decode cX11_hear 33 = .ok (.iaload, 1) := by decide +kernel
theorem dX11_hear_34 : decode cX11_hear 34 = .ok (.ldc_w 256, 3) := by decide +kernel
theorem dX11_hear_37 : decode cX11_hear 37 = .ok (.if_icmp .ne 24, 3) := by decide +kernel
theorem dX11_hear_40 : decode cX11_hear 40 = .ok (.aload_n 0, 1) := by decide +kernel
theorem dX11_hear_41 : decode cX11_hear 41 = .ok (.getfield 178, 3) := by decide +kernel
theorem dX11_hear_44 : decode cX11_hear 44 = .ok (.aload_n 0, 1) := by decide +kernel
theorem dX11_hear_45 : decode cX11_hear 45 = .ok (.getfield 257, 3) := by decide +kernel
theorem dX11_hear_48 : decode cX11_hear 48 = .ok (.iload_n 1, 1) := by decide +kernel
theorem dX11_hear_49 : decode cX11_hear 49 = .ok (.iastore, 1) := by decide +kernel
theorem dX11_hear_50 : decode cX11_hear 50 = .ok (.aload_n 0, 1) := by decide +kernel
theorem dX11_hear_51 : decode cX11_hear 51 = .ok (.dup, 1) := by decide +kernel
theorem dX11_hear_52 : decode cX11_hear 52 = .ok (.getfield 257, 3) := by decide +kernel
theorem dX11_hear_55 : decode cX11_hear 55 = .ok (.iconst 1, 1) := by decide +kernel
theorem dX11_hear_56 : decode cX11_hear 56 = .ok (.iadd, 1) := by decide +kernel
theorem dX11_hear_57 : decode cX11_hear 57 = .ok (.putfield 257, 3) := by decide +kernel
theorem dX11_hear_60 : decode cX11_hear 60 = .ok (.return_, 1) := by decide +kernel
theorem dX11_hear_61 : decode cX11_hear 61 = .ok (.ldc_w 256, 3) := by decide +kernel
theorem dX11_hear_64 : decode cX11_hear 64 = .ok (.aload_n 0, 1) := by decide +kernel
theorem dX11_hear_65 : decode cX11_hear 65 = .ok (.getfield 165, 3) := by decide +kernel
theorem dX11_hear_68 : decode cX11_hear 68 = .ok (.iload_n 2, 1) := by decide +kernel
theorem dX11_hear_69 : decode cX11_hear 69 = .ok (.iaload, 1) := by decide +kernel
theorem dX11_hear_70 : decode cX11_hear 70 = .ok (.isub, 1) := by decide +kernel
theorem dX11_hear_71 : decode cX11_hear 71 = .ok (.istore_n 3, 1) := by decide +kernel
theorem dX11_hear_72 : decode cX11_hear 72 = .ok (.ldc_w 256, 3) := by decide +kernel
theorem dX11_hear_75 : decode cX11_hear 75 = .ok (.istore 4, 2) := by decide +kernel
theorem dX11_hear_77 : decode cX11_hear 77 = .ok (.iconst 0, 1) := by decide +kernel
theorem dX11_hear_78 : decode cX11_hear 78 = .ok (.istore 5, 2) := by decide +kernel
theorem dX11_hear_80 : decode cX11_hear 80 = .ok (.iload 5, 2) := by decide +kernel
theorem dX11_hear_82 : decode cX11_hear 82 = .ok (.bipush 10, 2) := by decide +kernel
theorem dX11_hear_84 : decode cX11_hear 84 = .ok (.if_icmp .ge 128, 3) := by decide +kernel
theorem dX11_hear_87 : decode cX11_hear 87 = .ok (.aload_n 0, 1) := by decide +kernel
theorem dX11_hear_88 : decode cX11_hear 88 = .ok (.getfield 81, 3) := by decide +kernel
theorem dX11_hear_91 : decode cX11_hear 91 = .ok (.iload_n 1, 1) := by decide +kernel
theorem dX11_hear_92 : decode cX11_hear 92 = .ok (.baload, 1) := by decide +kernel
theorem dX11_hear_93 : decode cX11_hear 93 = .ok (.ifCond .eq 29, 3) := by decide +kernel
theorem dX11_hear_96 : decode cX11_hear 96 = .ok (.aload_n 0, 1) := by decide +kernel
theorem dX11_hear_97 : decode cX11_hear 97 = .ok (.getfield 168, 3) := by decide +kernel
theorem dX11_hear_100 : decode cX11_hear 100 = .ok (.iload 5, 2) := by decide +kernel
theorem dX11_hear_102 : decode cX11_hear 102 = .ok (.iload 5, 2) := by decide +kernel
theorem dX11_hear_104 : decode cX11_hear 104 = .ok (.iload_n 2, 1) := by decide +kernel
theorem dX11_hear_105 : decode cX11_hear 105 = .ok (.if_icmp .ne 9, 3) := by decide +kernel
theorem dX11_hear_108 : decode cX11_hear 108 = .ok (.ldc_w 256, 3) := by decide +kernel
theorem dX11_hear_111 : decode cX11_hear 111 = .ok (.goto 4, 3) := by decide +kernel
theorem dX11_hear_114 : decode cX11_hear 114 = .ok (.iconst 0, 1) := by decide +kernel
theorem dX11_hear_115 : decode cX11_hear 115 = .ok (.iastore, 1) := by decide +kernel
theorem dX11_hear_116 : decode cX11_hear 116 = .ok (.iconst 0, 1) := by decide +kernel
theorem dX11_hear_117 : decode cX11_hear 117 = .ok (.istore 4, 2) := by decide +kernel
theorem dX11_hear_119 : decode cX11_hear 119 = .ok (.goto 87, 3) := by decide +kernel
theorem dX11_hear_122 : decode cX11_hear 122 = .ok (.iload 5, 2) := by decide +kernel
theorem dX11_hear_124 : decode cX11_hear 124 = .ok (.iload_n 2, 1) := by decide +kernel
theorem dX11_hear_125 : decode cX11_hear 125 = .ok (.if_icmp .ne 7, 3) := by decide +kernel
theorem dX11_hear_128 : decode cX11_hear 128 = .ok (.lconst 0, 1) := by decide +kernel
theorem dX11_hear_129 : decode cX11_hear 129 = .ok (.goto 15, 3) := by decide +kernel
theorem dX11_hear_132 : decode cX11_hear 132 = .ok (.ldc2_w 260, 3) := by decide +kernel
theorem dX11_hear_135 : decode cX11_hear 135 = .ok (.aload_n 0, 1) := by decide +kernel
theorem dX11_hear_136 : decode cX11_hear 136 = .ok (.getfield 165, 3) := by decide +kernel
theorem dX11_hear_139 : decode cX11_hear 139 = .ok (.iload 5, 2) := by decide +kernel
theorem dX11_hear_141 : decode cX11_hear 141 = .ok (.iaload, 1) := by decide +kernel
theorem dX11_hear_142 : decode cX11_hear 142 = .ok (.i2l, 1) := by decide +kernel
theorem dX11_hear_143 : decode cX11_hear 143 = .ok (.lmul, 1) := by decide +kernel
theorem dX11_hear_144 : decode cX11_hear 144 = .ok (.lstore 6, 2) := by decide +kernel
theorem dX11_hear_146 : decode cX11_hear 146 = .ok (.aload_n 0, 1) := by decide +kernel
theorem dX11_hear_147 : decode cX11_hear 147 = .ok (.getfield 168, 3) := by decide +kernel
theorem dX11_hear_150 : decode cX11_hear 150 = .ok (.iload 5, 2) := by decide +kernel
theorem dX11_hear_152 : decode cX11_hear 152 = .ok (.lload 6, 2) := by decide +kernel
theorem dX11_hear_154 : decode cX11_hear 154 = .ok (.iload_n 3, 1) := by decide +kernel
theorem dX11_hear_155 : decode cX11_hear 155 = .ok (.i2l, 1) := by decide +kernel
theorem dX11_hear_156 : decode cX11_hear 156 = .ok (.ldiv, 1) := by decide +kernel
theorem dX11_hear_157 : decode cX11_hear 157 = .ok (.l2i, 1) := by decide +kernel
theorem dX11_hear_158 : decode cX11_hear 158 = .ok (.iastore, 1) := by decide +kernel
theorem dX11_hear_159 : decode cX11_hear 159 = .ok (.iload 4, 2) := by decide +kernel
theorem dX11_hear_161 : decode cX11_hear 161 = .ok (.aload_n 0, 1) := by decide +kernel
theorem dX11_hear_162 : decode cX11_hear 162 = .ok (.getfield 168, 3) := by decide +kernel
theorem dX11_hear_165 : decode cX11_hear 165 = .ok (.iload 5, 2) := by decide +kernel
theorem dX11_hear_167 : decode cX11_hear 167 = .ok (.iaload, 1) := by decide +kernel
theorem dX11_hear_168 : decode cX11_hear 168 = .ok (.isub, 1) := by decide +kernel
theorem dX11_hear_169 : decode cX11_hear 169 = .ok (.istore 4, 2) := by decide +kernel
theorem dX11_hear_171 : decode cX11_hear 171 = .ok (.aload_n 0, 1) := by decide +kernel
theorem dX11_hear_172 : decode cX11_hear 172 = .ok (.getfield 174, 3) := by decide +kernel
theorem dX11_hear_175 : decode cX11_hear 175 = .ok (.iload 5, 2) := by decide +kernel
theorem dX11_hear_177 : decode cX11_hear 177 = .ok (.iload 5, 2) := by decide +kernel
theorem dX11_hear_179 : decode cX11_hear 179 = .ok (.iload_n 2, 1) := by decide +kernel
theorem dX11_hear_180 : decode cX11_hear 180 = .ok (.if_icmp .eq 14, 3) := by decide +kernel
theorem dX11_hear_183 : decode cX11_hear 183 = .ok (.iload 5, 2) := by decide +kernel
theorem dX11_hear_185 : decode cX11_hear 185 = .ok (.aload_n 0, 1) := by decide +kernel
theorem dX11_hear_186 : decode cX11_hear 186 = .ok (.getfield 29, 3) := by decide +kernel
theorem dX11_hear_189 : decode cX11_hear 189 = .ok (.iconst 0, 1) := by decide +kernel
theorem dX11_hear_190 : decode cX11_hear 190 = .ok (.iaload, 1) := by decide +kernel
theorem dX11_hear_191 : decode cX11_hear 191 = .ok (.if_icmp .lt 9, 3) := by decide +kernel
theorem dX11_hear_194 : decode cX11_hear 194 = .ok (.ldc2_w 246, 3) := by decide +kernel
theorem dX11_hear_197 : decode cX11_hear 197 = .ok (.goto 8, 3) := by decide +kernel
theorem dX11_hear_200 : decode cX11_hear 200 = .ok (.lload 6, 2) := by decide +kernel
theorem dX11_hear_202 : decode cX11_hear 202 = .ok (.iload_n 3, 1) := by decide +kernel
theorem dX11_hear_203 : decode cX11_hear 203 = .ok (.i2l, 1) := by decide +kernel
theorem dX11_hear_204 : decode cX11_hear 204 = .ok (.lrem, 1) := by decide +kernel
theorem dX11_hear_205 : decode cX11_hear 205 = .ok (.lastore, 1) := by decide +kernel
theorem dX11_hear_206 : decode cX11_hear 206 = .ok (.iinc 5 1, 3) := by decide +kernel
theorem dX11_hear_209 : decode cX11_hear 209 = .ok (.goto (-129), 3) := by decide +kernel
theorem dX11_hear_212 : decode cX11_hear 212 = .ok (.aload_n 0, 1) := by decide +kernel
theorem dX11_hear_213 : decode cX11_hear 213 = .ok (.iload 4, 2) := by decide +kernel
theorem dX11_hear_215 : decode cX11_hear 215 = .ok (.invokevirtual 252, 3) := by decide +kernel
theorem dX11_hear_218 : decode cX11_hear 218 = .ok (.iconst 0, 1) := by decide +kernel
theorem dX11_hear_219 : decode cX11_hear 219 = .ok (.istore 5, 2) := by decide +kernel
theorem dX11_hear_221 : decode cX11_hear 221 = .ok (.iload 5, 2) := by decide +kernel
theorem dX11_hear_223 : decode cX11_hear 223 = .ok (.bipush 10, 2) := by decide +kernel
theorem dX11_hear_225 : decode cX11_hear 225 = .ok (.if_icmp .ge 23, 3) := by decide +kernel
theorem dX11_hear_228 : decode cX11_hear 228 = .ok (.aload_n 0, 1) := by decide +kernel
theorem dX11_hear_229 : decode cX11_hear 229 = .ok (.getfield 165, 3) := by decide +kernel
theorem dX11_hear_232 : decode cX11_hear 232 = .ok (.iload 5, 2) := by decide +kernel
theorem dX11_hear_234 : decode cX11_hear 234 = .ok (.aload_n 0, 1) := by decide +kernel
theorem dX11_hear_235 : decode cX11_hear 235 = .ok (.getfield 168, 3) := by decide +kernel
theorem dX11_hear_238 : decode cX11_hear 238 = .ok (.iload 5, 2) := by decide +kernel
theorem dX11_hear_240 : decode cX11_hear 240 = .ok (.iaload, 1) := by decide +kernel
theorem dX11_hear_241 : decode cX11_hear 241 = .ok (.iastore, 1) := by decide +kernel
theorem dX11_hear_242 : decode cX11_hear 242 = .ok (.iinc 5 1, 3) := by decide +kernel
theorem dX11_hear_245 : decode cX11_hear 245 = .ok (.goto (-24), 3) := by decide +kernel
theorem dX11_hear_248 : decode cX11_hear 248 = .ok (.return_, 1) := by decide +kernel
theorem dX11_hearAll_0 : decode cX11_hearAll 0 = .ok (.iconst 0, 1) := by decide +kernel
theorem dX11_hearAll_1 : decode cX11_hearAll 1 = .ok (.istore 4, 2) := by decide +kernel
theorem dX11_hearAll_3 : decode cX11_hearAll 3 = .ok (.iload 4, 2) := by decide +kernel
theorem dX11_hearAll_5 : decode cX11_hearAll 5 = .ok (.aload_n 0, 1) := by decide +kernel
theorem dX11_hearAll_6 : decode cX11_hearAll 6 = .ok (.getfield 69, 3) := by decide +kernel
theorem dX11_hearAll_9 : decode cX11_hearAll 9 = .ok (.iconst 0, 1) := by decide +kernel
theorem dX11_hearAll_10 : decode cX11_hearAll 10 = .ok (.iaload, 1) := by decide +kernel
theorem dX11_hearAll_11 : decode cX11_hearAll 11 = .ok (.if_icmp .ge 48, 3) := by decide +kernel
theorem dX11_hearAll_14 : decode cX11_hearAll 14 = .ok (.aload_n 0, 1) := by decide +kernel
theorem dX11_hearAll_15 : decode cX11_hearAll 15 = .ok (.getfield 72, 3) := by decide +kernel
theorem dX11_hearAll_18 : decode cX11_hearAll 18 = .ok (.iload 4, 2) := by decide +kernel
theorem dX11_hearAll_20 : decode cX11_hearAll 20 = .ok (.iaload, 1) := by decide +kernel
theorem dX11_hearAll_21 : decode cX11_hearAll 21 = .ok (.iload_n 1, 1) := by decide +kernel
theorem dX11_hearAll_22 : decode cX11_hearAll 22 = .ok (.if_icmp .ne 31, 3) := by decide +kernel
theorem dX11_hearAll_25 : decode cX11_hearAll 25 = .ok (.aload_n 0, 1) := by decide +kernel
theorem dX11_hearAll_26 : decode cX11_hearAll 26 = .ok (.getfield 78, 3) := by decide +kernel
theorem dX11_hearAll_29 : decode cX11_hearAll 29 = .ok (.iload 4, 2) := by decide +kernel
theorem dX11_hearAll_31 : decode cX11_hearAll 31 = .ok (.iaload, 1) := by decide +kernel
theorem dX11_hearAll_32 : decode cX11_hearAll 32 = .ok (.iload_n 2, 1) := by decide +kernel
theorem dX11_hearAll_33 : decode cX11_hearAll 33 = .ok (.if_icmp .ne 20, 3) := by decide +kernel
theorem dX11_hearAll_36 : decode cX11_hearAll 36 = .ok (.aload_n 0, 1) := by decide +kernel
theorem dX11_hearAll_37 : decode cX11_hearAll 37 = .ok (.getfield 84, 3) := by decide +kernel
theorem dX11_hearAll_40 : decode cX11_hearAll 40 = .ok (.iload 4, 2) := by decide +kernel
theorem dX11_hearAll_42 : decode cX11_hearAll 42 = .ok (.iaload, 1) := by decide +kernel
theorem dX11_hearAll_43 : decode cX11_hearAll 43 = .ok (.iload_n 3, 1) := by decide +kernel
theorem dX11_hearAll_44 : decode cX11_hearAll 44 = .ok (.if_icmp .gt 9, 3) := by decide +kernel
theorem dX11_hearAll_47 : decode cX11_hearAll 47 = .ok (.aload_n 0, 1) := by decide +kernel
theorem dX11_hearAll_48 : decode cX11_hearAll 48 = .ok (.iload 4, 2) := by decide +kernel
theorem dX11_hearAll_50 : decode cX11_hearAll 50 = .ok (.invokevirtual 262, 3) := by decide +kernel
theorem dX11_hearAll_53 : decode cX11_hearAll 53 = .ok (.iinc 4 1, 3) := by decide +kernel
theorem dX11_hearAll_56 : decode cX11_hearAll 56 = .ok (.goto (-53), 3) := by decide +kernel
theorem dX11_hearAll_59 : decode cX11_hearAll 59 = .ok (.return_, 1) := by decide +kernel
theorem dX11_begin_0 : decode cX11_begin 0 = .ok (.aload_n 0, 1) := by decide +kernel
theorem dX11_begin_1 : decode cX11_begin 1 = .ok (.iconst 0, 1) := by decide +kernel
theorem dX11_begin_2 : decode cX11_begin 2 = .ok (.putfield 257, 3) := by decide +kernel
theorem dX11_begin_5 : decode cX11_begin 5 = .ok (.iconst 0, 1) := by decide +kernel
theorem dX11_begin_6 : decode cX11_begin 6 = .ok (.istore_n 3, 1) := by decide +kernel
theorem dX11_begin_7 : decode cX11_begin 7 = .ok (.iload_n 3, 1) := by decide +kernel
theorem dX11_begin_8 : decode cX11_begin 8 = .ok (.bipush 10, 2) := by decide +kernel
theorem dX11_begin_10 : decode cX11_begin 10 = .ok (.if_icmp .ge 32, 3) := by decide +kernel
theorem dX11_begin_13 : decode cX11_begin 13 = .ok (.aload_n 0, 1) := by decide +kernel
theorem dX11_begin_14 : decode cX11_begin 14 = .ok (.getfield 165, 3) := by decide +kernel
theorem dX11_begin_17 : decode cX11_begin 17 = .ok (.iload_n 3, 1) := by decide +kernel
theorem dX11_begin_18 : decode cX11_begin 18 = .ok (.iload_n 3, 1) := by decide +kernel
theorem dX11_begin_19 : decode cX11_begin 19 = .ok (.aload_n 0, 1) := by decide +kernel
theorem dX11_begin_20 : decode cX11_begin 20 = .ok (.getfield 45, 3) := by decide +kernel
theorem dX11_begin_23 : decode cX11_begin 23 = .ok (.iload_n 1, 1) := by decide +kernel
theorem dX11_begin_24 : decode cX11_begin 24 = .ok (.iaload, 1) := by decide +kernel
theorem dX11_begin_25 : decode cX11_begin 25 = .ok (.if_icmp .ne 9, 3) := by decide +kernel
theorem dX11_begin_28 : decode cX11_begin 28 = .ok (.ldc_w 256, 3) := by decide +kernel
theorem dX11_begin_31 : decode cX11_begin 31 = .ok (.goto 4, 3) := by decide +kernel
theorem dX11_begin_34 : decode cX11_begin 34 = .ok (.iconst 0, 1) := by decide +kernel
theorem dX11_begin_35 : decode cX11_begin 35 = .ok (.iastore, 1) := by decide +kernel
theorem dX11_begin_36 : decode cX11_begin 36 = .ok (.iinc 3 1, 3) := by decide +kernel
theorem dX11_begin_39 : decode cX11_begin 39 = .ok (.goto (-32), 3) := by decide +kernel
theorem dX11_begin_42 : decode cX11_begin 42 = .ok (.aload_n 0, 1) := by decide +kernel
theorem dX11_begin_43 : decode cX11_begin 43 = .ok (.iload_n 1, 1) := by decide +kernel
theorem dX11_begin_44 : decode cX11_begin 44 = .ok (.aload_n 0, 1) := by decide +kernel
theorem dX11_begin_45 : decode cX11_begin 45 = .ok (.getfield 48, 3) := by decide +kernel
theorem dX11_begin_48 : decode cX11_begin 48 = .ok (.iload_n 1, 1) := by decide +kernel
theorem dX11_begin_49 : decode cX11_begin 49 = .ok (.iaload, 1) := by decide +kernel
theorem dX11_begin_50 : decode cX11_begin 50 = .ok (.iload_n 2, 1) := by decide +kernel
theorem dX11_begin_51 : decode cX11_begin 51 = .ok (.invokevirtual 265, 3) := by decide +kernel
theorem dX11_begin_54 : decode cX11_begin 54 = .ok (.return_, 1) := by decide +kernel
theorem dX11_goOn_0 : decode cX11_goOn 0 = .ok (.aload_n 0, 1) := by decide +kernel
theorem dX11_goOn_1 : decode cX11_goOn 1 = .ok (.iload_n 2, 1) := by decide +kernel
theorem dX11_goOn_2 : decode cX11_goOn 2 = .ok (.iload_n 3, 1) := by decide +kernel
theorem dX11_goOn_3 : decode cX11_goOn 3 = .ok (.invokevirtual 269, 3) := by decide +kernel
theorem dX11_goOn_6 : decode cX11_goOn 6 = .ok (.aload_n 0, 1) := by decide +kernel
theorem dX11_goOn_7 : decode cX11_goOn 7 = .ok (.iload_n 1, 1) := by decide +kernel
theorem dX11_goOn_8 : decode cX11_goOn 8 = .ok (.iload_n 2, 1) := by decide +kernel
theorem dX11_goOn_9 : decode cX11_goOn 9 = .ok (.iload_n 3, 1) := by decide +kernel
theorem dX11_goOn_10 : decode cX11_goOn 10 = .ok (.invokevirtual 265, 3) := by decide +kernel
theorem dX11_goOn_13 : decode cX11_goOn 13 = .ok (.return_, 1) := by decide +kernel
theorem dX11_findParts_0 : decode cX11_findParts 0 = .ok (.aload_n 0, 1) := by decide +kernel
theorem dX11_findParts_1 : decode cX11_findParts 1 = .ok (.iload_n 1, 1) := by decide +kernel
theorem dX11_findParts_2 : decode cX11_findParts 2 = .ok (.iload_n 3, 1) := by decide +kernel
theorem dX11_findParts_3 : decode cX11_findParts 3 = .ok (.invokevirtual 273, 3) := by decide +kernel
theorem dX11_findParts_6 : decode cX11_findParts 6 = .ok (.aload_n 0, 1) := by decide +kernel
theorem dX11_findParts_7 : decode cX11_findParts 7 = .ok (.getfield 48, 3) := by decide +kernel
theorem dX11_findParts_10 : decode cX11_findParts 10 = .ok (.iload_n 1, 1) := by decide +kernel
theorem dX11_findParts_11 : decode cX11_findParts 11 = .ok (.iaload, 1) := by decide +kernel
theorem dX11_findParts_12 : decode cX11_findParts 12 = .ok (.iconst 1, 1) := by decide +kernel
theorem dX11_findParts_13 : decode cX11_findParts 13 = .ok (.iadd, 1) := by decide +kernel
theorem dX11_findParts_14 : decode cX11_findParts 14 = .ok (.istore 4, 2) := by decide +kernel
theorem dX11_findParts_16 : decode cX11_findParts 16 = .ok (.iload 4, 2) := by decide +kernel
theorem dX11_findParts_18 : decode cX11_findParts 18 = .ok (.iload_n 2, 1) := by decide +kernel
theorem dX11_findParts_19 : decode cX11_findParts 19 = .ok (.if_icmp .gt 17, 3) := by decide +kernel
theorem dX11_findParts_22 : decode cX11_findParts 22 = .ok (.aload_n 0, 1) := by decide +kernel
theorem dX11_findParts_23 : decode cX11_findParts 23 = .ok (.iload_n 1, 1) := by decide +kernel
theorem dX11_findParts_24 : decode cX11_findParts 24 = .ok (.iload 4, 2) := by decide +kernel
theorem dX11_findParts_26 : decode cX11_findParts 26 = .ok (.iload_n 3, 1) := by decide +kernel
theorem dX11_findParts_27 : decode cX11_findParts 27 = .ok (.invokevirtual 276, 3) := by decide +kernel
theorem dX11_findParts_30 : decode cX11_findParts 30 = .ok (.iinc 4 1, 3) := by decide +kernel
theorem dX11_findParts_33 : decode cX11_findParts 33 = .ok (.goto (-17), 3) := by decide +kernel
theorem dX11_findParts_36 : decode cX11_findParts 36 = .ok (.return_, 1) := by decide +kernel
theorem dX11_greatest_0 : decode cX11_greatest 0 = .ok (.iconst 0, 1) := by decide +kernel
theorem dX11_greatest_1 : decode cX11_greatest 1 = .ok (.istore_n 1, 1) := by decide +kernel
theorem dX11_greatest_2 : decode cX11_greatest 2 = .ok (.iconst 1, 1) := by decide +kernel
theorem dX11_greatest_3 : decode cX11_greatest 3 = .ok (.istore_n 2, 1) := by decide +kernel
theorem dX11_greatest_4 : decode cX11_greatest 4 = .ok (.iload_n 2, 1) := by decide +kernel
theorem dX11_greatest_5 : decode cX11_greatest 5 = .ok (.bipush 10, 2) := by decide +kernel
theorem dX11_greatest_7 : decode cX11_greatest 7 = .ok (.if_icmp .ge 30, 3) := by decide +kernel
theorem dX11_greatest_10 : decode cX11_greatest 10 = .ok (.aload_n 0, 1) := by decide +kernel
theorem dX11_greatest_11 : decode cX11_greatest 11 = .ok (.getfield 165, 3) := by decide +kernel
theorem dX11_greatest_14 : decode cX11_greatest 14 = .ok (.iload_n 2, 1) := by decide +kernel
theorem dX11_greatest_15 : decode cX11_greatest 15 = .ok (.iaload, 1) := by decide +kernel
theorem dX11_greatest_16 : decode cX11_greatest 16 = .ok (.aload_n 0, 1) := by decide +kernel
theorem dX11_greatest_17 : decode cX11_greatest 17 = .ok (.getfield 165, 3) := by decide +kernel
theorem dX11_greatest_20 : decode cX11_greatest 20 = .ok (.iload_n 1, 1) := by decide +kernel
theorem dX11_greatest_21 : decode cX11_greatest 21 = .ok (.iaload, 1) := by decide +kernel
theorem dX11_greatest_22 : decode cX11_greatest 22 = .ok (.if_icmp .le 7, 3) := by decide +kernel
theorem dX11_greatest_25 : decode cX11_greatest 25 = .ok (.iload_n 2, 1) := by decide +kernel
theorem dX11_greatest_26 : decode cX11_greatest 26 = .ok (.goto 4, 3) := by decide +kernel
theorem dX11_greatest_29 : decode cX11_greatest 29 = .ok (.iload_n 1, 1) := by decide +kernel
theorem dX11_greatest_30 : decode cX11_greatest 30 = .ok (.istore_n 1, 1) := by decide +kernel
theorem dX11_greatest_31 : decode cX11_greatest 31 = .ok (.iinc 2 1, 3) := by decide +kernel
theorem dX11_greatest_34 : decode cX11_greatest 34 = .ok (.goto (-30), 3) := by decide +kernel
theorem dX11_greatest_37 : decode cX11_greatest 37 = .ok (.iload_n 1, 1) := by decide +kernel
theorem dX11_greatest_38 : decode cX11_greatest 38 = .ok (.ireturn, 1) := by decide +kernel
theorem dX11_isThere_0 : decode cX11_isThere 0 = .ok (.aload_n 0, 1) := by decide +kernel
theorem dX11_isThere_1 : decode cX11_isThere 1 = .ok (.iload_n 1, 1) := by decide +kernel
theorem dX11_isThere_2 : decode cX11_isThere 2 = .ok (.invokevirtual 243, 3) := by decide +kernel
theorem dX11_isThere_5 : decode cX11_isThere 5 = .ok (.ifCond .eq 22, 3) := by decide +kernel
theorem dX11_isThere_8 : decode cX11_isThere 8 = .ok (.iload_n 2, 1) := by decide +kernel
theorem dX11_isThere_9 : decode cX11_isThere 9 = .ok (.aload_n 0, 1) := by decide +kernel
theorem dX11_isThere_10 : decode cX11_isThere 10 = .ok (.getfield 48, 3) := by decide +kernel
theorem dX11_isThere_13 : decode cX11_isThere 13 = .ok (.iload_n 1, 1) := by decide +kernel
theorem dX11_isThere_14 : decode cX11_isThere 14 = .ok (.iaload, 1) := by decide +kernel
theorem dX11_isThere_15 : decode cX11_isThere 15 = .ok (.bipush 99, 2) := by decide +kernel
theorem dX11_isThere_17 : decode cX11_isThere 17 = .ok (.invokestatic 232, 3) := by decide +kernel
theorem dX11_isThere_20 : decode cX11_isThere 20 = .ok (.ifCond .eq 7, 3) := by decide +kernel
theorem dX11_isThere_23 : decode cX11_isThere 23 = .ok (.iconst 1, 1) := by decide +kernel
theorem dX11_isThere_24 : decode cX11_isThere 24 = .ok (.goto 4, 3) := by decide +kernel
theorem dX11_isThere_27 : decode cX11_isThere 27 = .ok (.iconst 0, 1) := by decide +kernel
theorem dX11_isThere_28 : decode cX11_isThere 28 = .ok (.ireturn, 1) := by decide +kernel
theorem dX11_parts_0 : decode cX11_parts 0 = .ok (.aload_n 0, 1) := by decide +kernel
theorem dX11_parts_1 : decode cX11_parts 1 = .ok (.iconst 0, 1) := by decide +kernel
theorem dX11_parts_2 : decode cX11_parts 2 = .ok (.putfield 220, 3) := by decide +kernel
theorem dX11_parts_5 : decode cX11_parts 5 = .ok (.aload_n 0, 1) := by decide +kernel
theorem dX11_parts_6 : decode cX11_parts 6 = .ok (.iload_n 1, 1) := by decide +kernel
theorem dX11_parts_7 : decode cX11_parts 7 = .ok (.iload_n 3, 1) := by decide +kernel
theorem dX11_parts_8 : decode cX11_parts 8 = .ok (.invokevirtual 279, 3) := by decide +kernel
theorem dX11_parts_11 : decode cX11_parts 11 = .ok (.ifCond .eq 11, 3) := by decide +kernel
theorem dX11_parts_14 : decode cX11_parts 14 = .ok (.aload_n 0, 1) := by decide +kernel
theorem dX11_parts_15 : decode cX11_parts 15 = .ok (.iload_n 2, 1) := by decide +kernel
theorem dX11_parts_16 : decode cX11_parts 16 = .ok (.invokevirtual 236, 3) := by decide +kernel
theorem dX11_parts_19 : decode cX11_parts 19 = .ok (.ifCond .ne 5, 3) := by decide +kernel
theorem dX11_parts_22 : decode cX11_parts 22 = .ok (.iconst (-1), 1) := by decide +kernel
theorem dX11_parts_23 : decode cX11_parts 23 = .ok (.ireturn, 1) := by decide +kernel
theorem dX11_parts_24 : decode cX11_parts 24 = .ok (.aload_n 0, 1) := by decide +kernel
theorem dX11_parts_25 : decode cX11_parts 25 = .ok (.iload_n 1, 1) := by decide +kernel
theorem dX11_parts_26 : decode cX11_parts 26 = .ok (.iload_n 3, 1) := by decide +kernel
theorem dX11_parts_27 : decode cX11_parts 27 = .ok (.aload_n 0, 1) := by decide +kernel
theorem dX11_parts_28 : decode cX11_parts 28 = .ok (.invokevirtual 283, 3) := by decide +kernel
theorem dX11_parts_31 : decode cX11_parts 31 = .ok (.invokevirtual 287, 3) := by decide +kernel
theorem dX11_parts_34 : decode cX11_parts 34 = .ok (.aload_n 0, 1) := by decide +kernel
theorem dX11_parts_35 : decode cX11_parts 35 = .ok (.getfield 165, 3) := by decide +kernel
theorem dX11_parts_38 : decode cX11_parts 38 = .ok (.iload_n 2, 1) := by decide +kernel
theorem dX11_parts_39 : decode cX11_parts 39 = .ok (.iaload, 1) := by decide +kernel
theorem dX11_parts_40 : decode cX11_parts 40 = .ok (.ireturn, 1) := by decide +kernel
theorem dX11_likeliest_0 : decode cX11_likeliest 0 = .ok (.aload_n 0, 1) := by decide +kernel
theorem dX11_likeliest_1 : decode cX11_likeliest 1 = .ok (.iconst 0, 1) := by decide +kernel
theorem dX11_likeliest_2 : decode cX11_likeliest 2 = .ok (.putfield 220, 3) := by decide +kernel
theorem dX11_likeliest_5 : decode cX11_likeliest 5 = .ok (.aload_n 0, 1) := by decide +kernel
theorem dX11_likeliest_6 : decode cX11_likeliest 6 = .ok (.iload_n 1, 1) := by decide +kernel
theorem dX11_likeliest_7 : decode cX11_likeliest 7 = .ok (.iload_n 2, 1) := by decide +kernel
theorem dX11_likeliest_8 : decode cX11_likeliest 8 = .ok (.invokevirtual 279, 3) := by decide +kernel
theorem dX11_likeliest_11 : decode cX11_likeliest 11 = .ok (.ifCond .ne 5, 3) := by decide +kernel
theorem dX11_likeliest_14 : decode cX11_likeliest 14 = .ok (.iconst (-1), 1) := by decide +kernel
theorem dX11_likeliest_15 : decode cX11_likeliest 15 = .ok (.ireturn, 1) := by decide +kernel
theorem dX11_likeliest_16 : decode cX11_likeliest 16 = .ok (.aload_n 0, 1) := by decide +kernel
theorem dX11_likeliest_17 : decode cX11_likeliest 17 = .ok (.iload_n 1, 1) := by decide +kernel
theorem dX11_likeliest_18 : decode cX11_likeliest 18 = .ok (.iload_n 2, 1) := by decide +kernel
theorem dX11_likeliest_19 : decode cX11_likeliest 19 = .ok (.aload_n 0, 1) := by decide +kernel
theorem dX11_likeliest_20 : decode cX11_likeliest 20 = .ok (.invokevirtual 283, 3) := by decide +kernel
theorem dX11_likeliest_23 : decode cX11_likeliest 23 = .ok (.invokevirtual 287, 3) := by decide +kernel
theorem dX11_likeliest_26 : decode cX11_likeliest 26 = .ok (.aload_n 0, 1) := by decide +kernel
theorem dX11_likeliest_27 : decode cX11_likeliest 27 = .ok (.invokevirtual 290, 3) := by decide +kernel
theorem dX11_likeliest_30 : decode cX11_likeliest 30 = .ok (.ireturn, 1) := by decide +kernel
theorem dX11_quarrel_0 : decode cX11_quarrel 0 = .ok (.aload_n 0, 1) := by decide +kernel
theorem dX11_quarrel_1 : decode cX11_quarrel 1 = .ok (.iconst 0, 1) := by decide +kernel
theorem dX11_quarrel_2 : decode cX11_quarrel 2 = .ok (.putfield 220, 3) := by decide +kernel
theorem dX11_quarrel_5 : decode cX11_quarrel 5 = .ok (.aload_n 0, 1) := by decide +kernel
theorem dX11_quarrel_6 : decode cX11_quarrel 6 = .ok (.iload_n 1, 1) := by decide +kernel
theorem dX11_quarrel_7 : decode cX11_quarrel 7 = .ok (.invokevirtual 243, 3) := by decide +kernel
theorem dX11_quarrel_10 : decode cX11_quarrel 10 = .ok (.ifCond .ne 5, 3) := by decide +kernel
theorem dX11_quarrel_13 : decode cX11_quarrel 13 = .ok (.iconst (-1), 1) := by decide +kernel
theorem dX11_quarrel_14 : decode cX11_quarrel 14 = .ok (.ireturn, 1) := by decide +kernel
theorem dX11_quarrel_15 : decode cX11_quarrel 15 = .ok (.aload_n 0, 1) := by decide +kernel
theorem dX11_quarrel_16 : decode cX11_quarrel 16 = .ok (.iload_n 1, 1) := by decide +kernel
theorem dX11_quarrel_17 : decode cX11_quarrel 17 = .ok (.bipush 99, 2) := by decide +kernel
theorem dX11_quarrel_19 : decode cX11_quarrel 19 = .ok (.aload_n 0, 1) := by decide +kernel
theorem dX11_quarrel_20 : decode cX11_quarrel 20 = .ok (.invokevirtual 283, 3) := by decide +kernel
theorem dX11_quarrel_23 : decode cX11_quarrel 23 = .ok (.invokevirtual 287, 3) := by decide +kernel
theorem dX11_quarrel_26 : decode cX11_quarrel 26 = .ok (.iload_n 2, 1) := by decide +kernel
theorem dX11_quarrel_27 : decode cX11_quarrel 27 = .ok (.iconst 0, 1) := by decide +kernel
theorem dX11_quarrel_28 : decode cX11_quarrel 28 = .ok (.aload_n 0, 1) := by decide +kernel
theorem dX11_quarrel_29 : decode cX11_quarrel 29 = .ok (.getfield 257, 3) := by decide +kernel
theorem dX11_quarrel_32 : decode cX11_quarrel 32 = .ok (.iconst 1, 1) := by decide +kernel
theorem dX11_quarrel_33 : decode cX11_quarrel 33 = .ok (.isub, 1) := by decide +kernel
theorem dX11_quarrel_34 : decode cX11_quarrel 34 = .ok (.invokestatic 232, 3) := by decide +kernel
theorem dX11_quarrel_37 : decode cX11_quarrel 37 = .ok (.ifCond .eq 12, 3) := by decide +kernel
theorem dX11_quarrel_40 : decode cX11_quarrel 40 = .ok (.aload_n 0, 1) := by decide +kernel
theorem dX11_quarrel_41 : decode cX11_quarrel 41 = .ok (.getfield 178, 3) := by decide +kernel
theorem dX11_quarrel_44 : decode cX11_quarrel 44 = .ok (.iload_n 2, 1) := by decide +kernel
theorem dX11_quarrel_45 : decode cX11_quarrel 45 = .ok (.iaload, 1) := by decide +kernel
theorem dX11_quarrel_46 : decode cX11_quarrel 46 = .ok (.goto 4, 3) := by decide +kernel
theorem dX11_quarrel_49 : decode cX11_quarrel 49 = .ok (.iconst (-1), 1) := by decide +kernel
theorem dX11_quarrel_50 : decode cX11_quarrel 50 = .ok (.ireturn, 1) := by decide +kernel
theorem dX11_book_0 : decode cX11_book 0 = .ok (.aload_n 0, 1) := by decide +kernel
theorem dX11_book_1 : decode cX11_book 1 = .ok (.iconst 0, 1) := by decide +kernel
theorem dX11_book_2 : decode cX11_book 2 = .ok (.putfield 220, 3) := by decide +kernel
theorem dX11_book_5 : decode cX11_book 5 = .ok (.aload_n 0, 1) := by decide +kernel
theorem dX11_book_6 : decode cX11_book 6 = .ok (.getfield 87, 3) := by decide +kernel
theorem dX11_book_9 : decode cX11_book 9 = .ok (.iconst 0, 1) := by decide +kernel
theorem dX11_book_10 : decode cX11_book 10 = .ok (.iaload, 1) := by decide +kernel
theorem dX11_book_11 : decode cX11_book 11 = .ok (.bipush 24, 2) := by decide +kernel
theorem dX11_book_13 : decode cX11_book 13 = .ok (.if_icmp .eq 56, 3) := by decide +kernel
theorem dX11_book_16 : decode cX11_book 16 = .ok (.iload_n 1, 1) := by decide +kernel
theorem dX11_book_17 : decode cX11_book 17 = .ok (.iconst 0, 1) := by decide +kernel
theorem dX11_book_18 : decode cX11_book 18 = .ok (.bipush 7, 2) := by decide +kernel
theorem dX11_book_20 : decode cX11_book 20 = .ok (.invokestatic 232, 3) := by decide +kernel
theorem dX11_book_23 : decode cX11_book 23 = .ok (.ifCond .eq 46, 3) := by decide +kernel
theorem dX11_book_26 : decode cX11_book 26 = .ok (.iload_n 2, 1) := by decide +kernel
theorem dX11_book_27 : decode cX11_book 27 = .ok (.iconst 0, 1) := by decide +kernel
theorem dX11_book_28 : decode cX11_book 28 = .ok (.iconst 3, 1) := by decide +kernel
theorem dX11_book_29 : decode cX11_book 29 = .ok (.invokestatic 232, 3) := by decide +kernel
theorem dX11_book_32 : decode cX11_book 32 = .ok (.ifCond .eq 37, 3) := by decide +kernel
theorem dX11_book_35 : decode cX11_book 35 = .ok (.iload_n 3, 1) := by decide +kernel
theorem dX11_book_36 : decode cX11_book 36 = .ok (.iconst 0, 1) := by decide +kernel
theorem dX11_book_37 : decode cX11_book 37 = .ok (.bipush 9, 2) := by decide +kernel
theorem dX11_book_39 : decode cX11_book 39 = .ok (.invokestatic 232, 3) := by decide +kernel
theorem dX11_book_42 : decode cX11_book 42 = .ok (.ifCond .eq 27, 3) := by decide +kernel
theorem dX11_book_45 : decode cX11_book 45 = .ok (.iload 4, 2) := by decide +kernel
theorem dX11_book_47 : decode cX11_book 47 = .ok (.iconst 1, 1) := by decide +kernel
theorem dX11_book_48 : decode cX11_book 48 = .ok (.sipush 400, 3) := by decide +kernel
theorem dX11_book_51 : decode cX11_book 51 = .ok (.invokestatic 232, 3) := by decide +kernel
theorem dX11_book_54 : decode cX11_book 54 = .ok (.ifCond .eq 15, 3) := by decide +kernel
theorem dX11_book_57 : decode cX11_book 57 = .ok (.iload 5, 2) := by decide +kernel
theorem dX11_book_59 : decode cX11_book 59 = .ok (.iconst 1, 1) := by decide +kernel
theorem dX11_book_60 : decode cX11_book 60 = .ok (.sipush 2000, 3) := by decide +kernel
theorem dX11_book_63 : decode cX11_book 63 = .ok (.invokestatic 232, 3) := by decide +kernel
theorem dX11_book_66 : decode cX11_book 66 = .ok (.ifCond .ne 5, 3) := by decide +kernel
theorem dX11_book_69 : decode cX11_book 69 = .ok (.iconst (-1), 1) := by decide +kernel
theorem dX11_book_70 : decode cX11_book 70 = .ok (.ireturn, 1) := by decide +kernel
theorem dX11_book_71 : decode cX11_book 71 = .ok (.aload_n 0, 1) := by decide +kernel
theorem dX11_book_72 : decode cX11_book 72 = .ok (.getfield 87, 3) := by decide +kernel
theorem dX11_book_75 : decode cX11_book 75 = .ok (.iconst 0, 1) := by decide +kernel
theorem dX11_book_76 : decode cX11_book 76 = .ok (.iaload, 1) := by decide +kernel
theorem dX11_book_77 : decode cX11_book 77 = .ok (.istore 6, 2) := by decide +kernel
theorem dX11_book_79 : decode cX11_book 79 = .ok (.aload_n 0, 1) := by decide +kernel
theorem dX11_book_80 : decode cX11_book 80 = .ok (.getfield 87, 3) := by decide +kernel
theorem dX11_book_83 : decode cX11_book 83 = .ok (.iconst 0, 1) := by decide +kernel
theorem dX11_book_84 : decode cX11_book 84 = .ok (.dup2, 1) := by decide +kernel
theorem dX11_book_85 : decode cX11_book 85 = .ok (.iaload, 1) := by decide +kernel
theorem dX11_book_86 : decode cX11_book 86 = .ok (.iconst 1, 1) := by decide +kernel
theorem dX11_book_87 : decode cX11_book 87 = .ok (.iadd, 1) := by decide +kernel
theorem dX11_book_88 : decode cX11_book 88 = .ok (.iastore, 1) := by decide +kernel
theorem dX11_book_89 : decode cX11_book 89 = .ok (.aload_n 0, 1) := by decide +kernel
theorem dX11_book_90 : decode cX11_book 90 = .ok (.getfield 90, 3) := by decide +kernel
theorem dX11_book_93 : decode cX11_book 93 = .ok (.iload 6, 2) := by decide +kernel
theorem dX11_book_95 : decode cX11_book 95 = .ok (.iload_n 1, 1) := by decide +kernel
theorem dX11_book_96 : decode cX11_book 96 = .ok (.iastore, 1) := by decide +kernel
theorem dX11_book_97 : decode cX11_book 97 = .ok (.aload_n 0, 1) := by decide +kernel
theorem dX11_book_98 : decode cX11_book 98 = .ok (.getfield 93, 3) := by decide +kernel
theorem dX11_book_101 : decode cX11_book 101 = .ok (.iload 6, 2) := by decide +kernel
theorem dX11_book_103 : decode cX11_book 103 = .ok (.iload_n 2, 1) := by decide +kernel
theorem dX11_book_104 : decode cX11_book 104 = .ok (.iastore, 1) := by decide +kernel
theorem dX11_book_105 : decode cX11_book 105 = .ok (.aload_n 0, 1) := by decide +kernel
theorem dX11_book_106 : decode cX11_book 106 = .ok (.getfield 96, 3) := by decide +kernel
theorem dX11_book_109 : decode cX11_book 109 = .ok (.iload 6, 2) := by decide +kernel
theorem dX11_book_111 : decode cX11_book 111 = .ok (.iload_n 3, 1) := by decide +kernel
theorem dX11_book_112 : decode cX11_book 112 = .ok (.iastore, 1) := by decide +kernel
theorem dX11_book_113 : decode cX11_book 113 = .ok (.aload_n 0, 1) := by decide +kernel
theorem dX11_book_114 : decode cX11_book 114 = .ok (.getfield 99, 3) := by decide +kernel
theorem dX11_book_117 : decode cX11_book 117 = .ok (.iload 6, 2) := by decide +kernel
theorem dX11_book_119 : decode cX11_book 119 = .ok (.iload 4, 2) := by decide +kernel
theorem dX11_book_121 : decode cX11_book 121 = .ok (.iastore, 1) := by decide +kernel
theorem dX11_book_122 : decode cX11_book 122 = .ok (.aload_n 0, 1) := by decide +kernel
theorem dX11_book_123 : decode cX11_book 123 = .ok (.getfield 102, 3) := by decide +kernel
theorem dX11_book_126 : decode cX11_book 126 = .ok (.iload 6, 2) := by decide +kernel
theorem dX11_book_128 : decode cX11_book 128 = .ok (.iload 5, 2) := by decide +kernel
theorem dX11_book_130 : decode cX11_book 130 = .ok (.iastore, 1) := by decide +kernel
theorem dX11_book_131 : decode cX11_book 131 = .ok (.iload 6, 2) := by decide +kernel
theorem dX11_book_133 : decode cX11_book 133 = .ok (.ireturn, 1) := by decide +kernel
theorem dX11_lastAct_0 : decode cX11_lastAct 0 = .ok (.iconst (-1), 1) := by decide +kernel
theorem dX11_lastAct_1 : decode cX11_lastAct 1 = .ok (.istore 5, 2) := by decide +kernel
theorem dX11_lastAct_3 : decode cX11_lastAct 3 = .ok (.iconst 0, 1) := by decide +kernel
theorem dX11_lastAct_4 : decode cX11_lastAct 4 = .ok (.istore 6, 2) := by decide +kernel
theorem dX11_lastAct_6 : decode cX11_lastAct 6 = .ok (.iload 6, 2) := by decide +kernel
theorem dX11_lastAct_8 : decode cX11_lastAct 8 = .ok (.aload_n 0, 1) := by decide +kernel
theorem dX11_lastAct_9 : decode cX11_lastAct 9 = .ok (.getfield 105, 3) := by decide +kernel
theorem dX11_lastAct_12 : decode cX11_lastAct 12 = .ok (.iconst 0, 1) := by decide +kernel
theorem dX11_lastAct_13 : decode cX11_lastAct 13 = .ok (.iaload, 1) := by decide +kernel
theorem dX11_lastAct_14 : decode cX11_lastAct 14 = .ok (.if_icmp .ge 115, 3) := by decide +kernel
theorem dX11_lastAct_17 : decode cX11_lastAct 17 = .ok (.iload 4, 2) := by decide +kernel
theorem dX11_lastAct_19 : decode cX11_lastAct 19 = .ok (.ifCond .eq 21, 3) := by decide +kernel
theorem dX11_lastAct_22 : decode cX11_lastAct 22 = .ok (.aload_n 0, 1) := by decide +kernel
theorem dX11_lastAct_23 : decode cX11_lastAct 23 = .ok (.getfield 111, 3) := by decide +kernel
theorem dX11_lastAct_26 : decode cX11_lastAct 26 = .ok (.iload 6, 2) := by decide +kernel
theorem dX11_lastAct_28 : decode cX11_lastAct 28 = .ok (.iaload, 1) := by decide +kernel
theorem dX11_lastAct_29 : decode cX11_lastAct 29 = .ok (.ifCond .ne 7, 3) := by decide +kernel
theorem dX11_lastAct_32 : decode cX11_lastAct 32 = .ok (.iconst 1, 1) := by decide +kernel
theorem dX11_lastAct_33 : decode cX11_lastAct 33 = .ok (.goto 23, 3) := by decide +kernel
theorem dX11_lastAct_36 : decode cX11_lastAct 36 = .ok (.iconst 0, 1) := by decide +kernel
theorem dX11_lastAct_37 : decode cX11_lastAct 37 = .ok (.goto 19, 3) := by decide +kernel
theorem dX11_lastAct_40 : decode cX11_lastAct 40 = .ok (.aload_n 0, 1) := by decide +kernel
theorem dX11_lastAct_41 : decode cX11_lastAct 41 = .ok (.getfield 111, 3) := by decide +kernel
theorem dX11_lastAct_44 : decode cX11_lastAct 44 = .ok (.iload 6, 2) := by decide +kernel
theorem dX11_lastAct_46 : decode cX11_lastAct 46 = .ok (.iaload, 1) := by decide +kernel
theorem dX11_lastAct_47 : decode cX11_lastAct 47 = .ok (.iconst 3, 1) := by decide +kernel
theorem dX11_lastAct_48 : decode cX11_lastAct 48 = .ok (.if_icmp .eq 7, 3) := by decide +kernel
theorem dX11_lastAct_51 : decode cX11_lastAct 51 = .ok (.iconst 1, 1) := by decide +kernel
theorem dX11_lastAct_52 : decode cX11_lastAct 52 = .ok (.goto 4, 3) := by decide +kernel
theorem dX11_lastAct_55 : decode cX11_lastAct 55 = .ok (.iconst 0, 1) := by decide +kernel
theorem dX11_lastAct_56 : decode cX11_lastAct 56 = .ok (.istore 7, 2) := by decide +kernel
theorem dX11_lastAct_58 : decode cX11_lastAct 58 = .ok (.iload 7, 2) := by decide +kernel
theorem dX11_lastAct_60 : decode cX11_lastAct 60 = .ok (.ifCond .eq 63, 3) := by decide +kernel
theorem dX11_lastAct_63 : decode cX11_lastAct 63 = .ok (.aload_n 0, 1) := by decide +kernel
theorem dX11_lastAct_64 : decode cX11_lastAct 64 = .ok (.getfield 108, 3) := by decide +kernel
theorem dX11_lastAct_67 : decode cX11_lastAct 67 = .ok (.iload 6, 2) := by decide +kernel
theorem dX11_lastAct_69 : decode cX11_lastAct 69 = .ok (.iaload, 1) := by decide +kernel
theorem dX11_lastAct_70 : decode cX11_lastAct 70 = .ok (.iload_n 1, 1) := by decide +kernel
theorem dX11_lastAct_71 : decode cX11_lastAct 71 = .ok (.if_icmp .ne 52, 3) := by decide +kernel
theorem dX11_lastAct_74 : decode cX11_lastAct 74 = .ok (.aload_n 0, 1) := by decide +kernel
theorem dX11_lastAct_75 : decode cX11_lastAct 75 = .ok (.getfield 117, 3) := by decide +kernel
theorem dX11_lastAct_78 : decode cX11_lastAct 78 = .ok (.iload 6, 2) := by decide +kernel
theorem dX11_lastAct_80 : decode cX11_lastAct 80 = .ok (.iaload, 1) := by decide +kernel
theorem dX11_lastAct_81 : decode cX11_lastAct 81 = .ok (.iload_n 2, 1) := by decide +kernel
theorem dX11_lastAct_82 : decode cX11_lastAct 82 = .ok (.if_icmp .gt 41, 3) := by decide +kernel
theorem dX11_lastAct_85 : decode cX11_lastAct 85 = .ok (.aload_n 0, 1) := by decide +kernel
theorem dX11_lastAct_86 : decode cX11_lastAct 86 = .ok (.getfield 120, 3) := by decide +kernel
theorem dX11_lastAct_89 : decode cX11_lastAct 89 = .ok (.iload 6, 2) := by decide +kernel
theorem dX11_lastAct_91 : decode cX11_lastAct 91 = .ok (.iaload, 1) := by decide +kernel
theorem dX11_lastAct_92 : decode cX11_lastAct 92 = .ok (.iload_n 3, 1) := by decide +kernel
theorem dX11_lastAct_93 : decode cX11_lastAct 93 = .ok (.if_icmp .gt 30, 3) := by decide +kernel
theorem dX11_lastAct_96 : decode cX11_lastAct 96 = .ok (.iload 5, 2) := by decide +kernel
theorem dX11_lastAct_98 : decode cX11_lastAct 98 = .ok (.iconst (-1), 1) := by decide +kernel
theorem dX11_lastAct_99 : decode cX11_lastAct 99 = .ok (.if_icmp .eq 20, 3) := by decide +kernel
theorem dX11_lastAct_102 : decode cX11_lastAct 102 = .ok (.aload_n 0, 1) := by decide +kernel
theorem dX11_lastAct_103 : decode cX11_lastAct 103 = .ok (.getfield 117, 3) := by decide +kernel
theorem dX11_lastAct_106 : decode cX11_lastAct 106 = .ok (.iload 6, 2) := by decide +kernel
theorem dX11_lastAct_108 : decode cX11_lastAct 108 = .ok (.iaload, 1) := by decide +kernel
theorem dX11_lastAct_109 : decode cX11_lastAct 109 = .ok (.aload_n 0, 1) := by decide +kernel
theorem dX11_lastAct_110 : decode cX11_lastAct 110 = .ok (.getfield 117, 3) := by decide +kernel
theorem dX11_lastAct_113 : decode cX11_lastAct 113 = .ok (.iload 5, 2) := by decide +kernel
theorem dX11_lastAct_115 : decode cX11_lastAct 115 = .ok (.iaload, 1) := by decide +kernel
theorem dX11_lastAct_116 : decode cX11_lastAct 116 = .ok (.if_icmp .lt 7, 3) := by decide +kernel
theorem dX11_lastAct_119 : decode cX11_lastAct 119 = .ok (.iload 6, 2) := by decide +kernel
theorem dX11_lastAct_121 : decode cX11_lastAct 121 = .ok (.istore 5, 2) := by decide +kernel
theorem dX11_lastAct_123 : decode cX11_lastAct 123 = .ok (.iinc 6 1, 3) := by decide +kernel
theorem dX11_lastAct_126 : decode cX11_lastAct 126 = .ok (.goto (-120), 3) := by decide +kernel
theorem dX11_lastAct_129 : decode cX11_lastAct 129 = .ok (.iload 5, 2) := by decide +kernel
theorem dX11_lastAct_131 : decode cX11_lastAct 131 = .ok (.ireturn, 1) := by decide +kernel
theorem dX11_whoHas_0 : decode cX11_whoHas 0 = .ok (.aload_n 0, 1) := by decide +kernel
theorem dX11_whoHas_1 : decode cX11_whoHas 1 = .ok (.iload_n 1, 1) := by decide +kernel
theorem dX11_whoHas_2 : decode cX11_whoHas 2 = .ok (.iload_n 2, 1) := by decide +kernel
theorem dX11_whoHas_3 : decode cX11_whoHas 3 = .ok (.iload_n 3, 1) := by decide +kernel
theorem dX11_whoHas_4 : decode cX11_whoHas 4 = .ok (.iconst 0, 1) := by decide +kernel
theorem dX11_whoHas_5 : decode cX11_whoHas 5 = .ok (.invokevirtual 293, 3) := by decide +kernel
theorem dX11_whoHas_8 : decode cX11_whoHas 8 = .ok (.istore 4, 2) := by decide +kernel
theorem dX11_whoHas_10 : decode cX11_whoHas 10 = .ok (.iload 4, 2) := by decide +kernel
theorem dX11_whoHas_12 : decode cX11_whoHas 12 = .ok (.iconst (-1), 1) := by decide +kernel
theorem dX11_whoHas_13 : decode cX11_whoHas 13 = .ok (.if_icmp .eq 14, 3) := by decide +kernel
theorem dX11_whoHas_16 : decode cX11_whoHas 16 = .ok (.aload_n 0, 1) := by decide +kernel
theorem dX11_whoHas_17 : decode cX11_whoHas 17 = .ok (.getfield 111, 3) := by decide +kernel
theorem dX11_whoHas_20 : decode cX11_whoHas 20 = .ok (.iload 4, 2) := by decide +kernel
theorem dX11_whoHas_22 : decode cX11_whoHas 22 = .ok (.iaload, 1) := by decide +kernel
theorem dX11_whoHas_23 : decode cX11_whoHas 23 = .ok (.iconst 2, 1) := by decide +kernel
theorem dX11_whoHas_24 : decode cX11_whoHas 24 = .ok (.if_icmp .ne 7, 3) := by decide +kernel
theorem dX11_whoHas_27 : decode cX11_whoHas 27 = .ok (.iconst (-1), 1) := by decide +kernel
theorem dX11_whoHas_28 : decode cX11_whoHas 28 = .ok (.goto 10, 3) := by decide +kernel
theorem dX11_whoHas_31 : decode cX11_whoHas 31 = .ok (.aload_n 0, 1) := by decide +kernel
theorem dX11_whoHas_32 : decode cX11_whoHas 32 = .ok (.getfield 114, 3) := by decide +kernel
theorem dX11_whoHas_35 : decode cX11_whoHas 35 = .ok (.iload 4, 2) := by decide +kernel
theorem dX11_whoHas_37 : decode cX11_whoHas 37 = .ok (.iaload, 1) := by decide +kernel
theorem dX11_whoHas_38 : decode cX11_whoHas 38 = .ok (.ireturn, 1) := by decide +kernel
theorem dX11_dueOf_0 : decode cX11_dueOf 0 = .ok (.aload_n 0, 1) := by decide +kernel
theorem dX11_dueOf_1 : decode cX11_dueOf 1 = .ok (.iload_n 1, 1) := by decide +kernel
theorem dX11_dueOf_2 : decode cX11_dueOf 2 = .ok (.iload_n 2, 1) := by decide +kernel
theorem dX11_dueOf_3 : decode cX11_dueOf 3 = .ok (.iload_n 3, 1) := by decide +kernel
theorem dX11_dueOf_4 : decode cX11_dueOf 4 = .ok (.invokevirtual 297, 3) := by decide +kernel
theorem dX11_dueOf_7 : decode cX11_dueOf 7 = .ok (.iconst (-1), 1) := by decide +kernel
theorem dX11_dueOf_8 : decode cX11_dueOf 8 = .ok (.if_icmp .ne 5, 3) := by decide +kernel
theorem dX11_dueOf_11 : decode cX11_dueOf 11 = .ok (.iconst (-1), 1) := by decide +kernel
theorem dX11_dueOf_12 : decode cX11_dueOf 12 = .ok (.ireturn, 1) := by decide +kernel
theorem dX11_dueOf_13 : decode cX11_dueOf 13 = .ok (.aload_n 0, 1) := by decide +kernel
theorem dX11_dueOf_14 : decode cX11_dueOf 14 = .ok (.iload_n 1, 1) := by decide +kernel
theorem dX11_dueOf_15 : decode cX11_dueOf 15 = .ok (.iload_n 2, 1) := by decide +kernel
theorem dX11_dueOf_16 : decode cX11_dueOf 16 = .ok (.iload_n 3, 1) := by decide +kernel
theorem dX11_dueOf_17 : decode cX11_dueOf 17 = .ok (.iconst 1, 1) := by decide +kernel
theorem dX11_dueOf_18 : decode cX11_dueOf 18 = .ok (.invokevirtual 293, 3) := by decide +kernel
theorem dX11_dueOf_21 : decode cX11_dueOf 21 = .ok (.istore 4, 2) := by decide +kernel
theorem dX11_dueOf_23 : decode cX11_dueOf 23 = .ok (.iload 4, 2) := by decide +kernel
theorem dX11_dueOf_25 : decode cX11_dueOf 25 = .ok (.iconst (-1), 1) := by decide +kernel
theorem dX11_dueOf_26 : decode cX11_dueOf 26 = .ok (.if_icmp .ne 6, 3) := by decide +kernel
theorem dX11_dueOf_29 : decode cX11_dueOf 29 = .ok (.bipush (-2), 2) := by decide +kernel
theorem dX11_dueOf_31 : decode cX11_dueOf 31 = .ok (.ireturn, 1) := by decide +kernel
theorem dX11_dueOf_32 : decode cX11_dueOf 32 = .ok (.aload_n 0, 1) := by decide +kernel
theorem dX11_dueOf_33 : decode cX11_dueOf 33 = .ok (.getfield 123, 3) := by decide +kernel
theorem dX11_dueOf_36 : decode cX11_dueOf 36 = .ok (.iload 4, 2) := by decide +kernel
theorem dX11_dueOf_38 : decode cX11_dueOf 38 = .ok (.iaload, 1) := by decide +kernel
theorem dX11_dueOf_39 : decode cX11_dueOf 39 = .ok (.istore 5, 2) := by decide +kernel
theorem dX11_dueOf_41 : decode cX11_dueOf 41 = .ok (.aload_n 0, 1) := by decide +kernel
theorem dX11_dueOf_42 : decode cX11_dueOf 42 = .ok (.getfield 117, 3) := by decide +kernel
theorem dX11_dueOf_45 : decode cX11_dueOf 45 = .ok (.iload 4, 2) := by decide +kernel
theorem dX11_dueOf_47 : decode cX11_dueOf 47 = .ok (.iaload, 1) := by decide +kernel
theorem dX11_dueOf_48 : decode cX11_dueOf 48 = .ok (.istore 6, 2) := by decide +kernel
theorem dX11_dueOf_50 : decode cX11_dueOf 50 = .ok (.iload 5, 2) := by decide +kernel
theorem dX11_dueOf_52 : decode cX11_dueOf 52 = .ok (.ifCond .le 43, 3) := by decide +kernel
theorem dX11_dueOf_55 : decode cX11_dueOf 55 = .ok (.iload 6, 2) := by decide +kernel
theorem dX11_dueOf_57 : decode cX11_dueOf 57 = .ok (.bipush 100, 2) := by decide +kernel
theorem dX11_dueOf_59 : decode cX11_dueOf 59 = .ok (.if_icmp .ge 36, 3) := by decide +kernel
theorem dX11_dueOf_62 : decode cX11_dueOf 62 = .ok (.iinc 6 1, 3) := by decide +kernel
theorem dX11_dueOf_65 : decode cX11_dueOf 65 = .ok (.iload 5, 2) := by decide +kernel
theorem dX11_dueOf_67 : decode cX11_dueOf 67 = .ok (.iload 6, 2) := by decide +kernel
theorem dX11_dueOf_69 : decode cX11_dueOf 69 = .ok (.bipush 100, 2) := by decide +kernel
theorem dX11_dueOf_71 : decode cX11_dueOf 71 = .ok (.if_icmp .ge 17, 3) := by decide +kernel
theorem dX11_dueOf_74 : decode cX11_dueOf 74 = .ok (.aload_n 0, 1) := by decide +kernel
theorem dX11_dueOf_75 : decode cX11_dueOf 75 = .ok (.getfield 66, 3) := by decide +kernel
theorem dX11_dueOf_78 : decode cX11_dueOf 78 = .ok (.iload 6, 2) := by decide +kernel
theorem dX11_dueOf_80 : decode cX11_dueOf 80 = .ok (.baload, 1) := by decide +kernel
theorem dX11_dueOf_81 : decode cX11_dueOf 81 = .ok (.ifCond .ne 7, 3) := by decide +kernel
theorem dX11_dueOf_84 : decode cX11_dueOf 84 = .ok (.iconst 1, 1) := by decide +kernel
theorem dX11_dueOf_85 : decode cX11_dueOf 85 = .ok (.goto 4, 3) := by decide +kernel
theorem dX11_dueOf_88 : decode cX11_dueOf 88 = .ok (.iconst 0, 1) := by decide +kernel
theorem dX11_dueOf_89 : decode cX11_dueOf 89 = .ok (.isub, 1) := by decide +kernel
theorem dX11_dueOf_90 : decode cX11_dueOf 90 = .ok (.istore 5, 2) := by decide +kernel
theorem dX11_dueOf_92 : decode cX11_dueOf 92 = .ok (.goto (-42), 3) := by decide +kernel
theorem dX11_dueOf_95 : decode cX11_dueOf 95 = .ok (.iload 6, 2) := by decide +kernel
theorem dX11_dueOf_97 : decode cX11_dueOf 97 = .ok (.ireturn, 1) := by decide +kernel
theorem dX11_isLate_0 : decode cX11_isLate 0 = .ok (.aload_n 0, 1) := by decide +kernel
theorem dX11_isLate_1 : decode cX11_isLate 1 = .ok (.iload_n 1, 1) := by decide +kernel
theorem dX11_isLate_2 : decode cX11_isLate 2 = .ok (.iload_n 2, 1) := by decide +kernel
theorem dX11_isLate_3 : decode cX11_isLate 3 = .ok (.iload_n 3, 1) := by decide +kernel
theorem dX11_isLate_4 : decode cX11_isLate 4 = .ok (.invokevirtual 300, 3) := by decide +kernel
theorem dX11_isLate_7 : decode cX11_isLate 7 = .ok (.istore 4, 2) := by decide +kernel
theorem dX11_isLate_9 : decode cX11_isLate 9 = .ok (.iload 4, 2) := by decide +kernel
theorem dX11_isLate_11 : decode cX11_isLate 11 = .ok (.ifCond .lt 13, 3) := by decide +kernel
theorem dX11_isLate_14 : decode cX11_isLate 14 = .ok (.iload_n 2, 1) := by decide +kernel
theorem dX11_isLate_15 : decode cX11_isLate 15 = .ok (.iload 4, 2) := by decide +kernel
theorem dX11_isLate_17 : decode cX11_isLate 17 = .ok (.if_icmp .le 7, 3) := by decide +kernel
theorem dX11_isLate_20 : decode cX11_isLate 20 = .ok (.iconst 1, 1) := by decide +kernel
theorem dX11_isLate_21 : decode cX11_isLate 21 = .ok (.goto 4, 3) := by decide +kernel
theorem dX11_isLate_24 : decode cX11_isLate 24 = .ok (.iconst 0, 1) := by decide +kernel
theorem dX11_isLate_25 : decode cX11_isLate 25 = .ok (.ireturn, 1) := by decide +kernel
theorem dX11_held_0 : decode cX11_held 0 = .ok (.iconst 0, 1) := by decide +kernel
theorem dX11_held_1 : decode cX11_held 1 = .ok (.istore 5, 2) := by decide +kernel
theorem dX11_held_3 : decode cX11_held 3 = .ok (.iconst 0, 1) := by decide +kernel
theorem dX11_held_4 : decode cX11_held 4 = .ok (.istore 6, 2) := by decide +kernel
theorem dX11_held_6 : decode cX11_held 6 = .ok (.iload 6, 2) := by decide +kernel
theorem dX11_held_8 : decode cX11_held 8 = .ok (.aload_n 0, 1) := by decide +kernel
theorem dX11_held_9 : decode cX11_held 9 = .ok (.getfield 87, 3) := by decide +kernel
theorem dX11_held_12 : decode cX11_held 12 = .ok (.iconst 0, 1) := by decide +kernel
theorem dX11_held_13 : decode cX11_held 13 = .ok (.iaload, 1) := by decide +kernel
theorem dX11_held_14 : decode cX11_held 14 = .ok (.if_icmp .ge 47, 3) := by decide +kernel
theorem dX11_held_17 : decode cX11_held 17 = .ok (.iload 5, 2) := by decide +kernel
theorem dX11_held_19 : decode cX11_held 19 = .ok (.aload_n 0, 1) := by decide +kernel
theorem dX11_held_20 : decode cX11_held 20 = .ok (.iload 6, 2) := by decide +kernel
theorem dX11_held_22 : decode cX11_held 22 = .ok (.iload_n 2, 1) := by decide +kernel
theorem dX11_held_23 : decode cX11_held 23 = .ok (.iload_n 3, 1) := by decide +kernel
theorem dX11_held_24 : decode cX11_held 24 = .ok (.invokevirtual 297, 3) := by decide +kernel
theorem dX11_held_27 : decode cX11_held 27 = .ok (.iload_n 1, 1) := by decide +kernel
theorem dX11_held_28 : decode cX11_held 28 = .ok (.if_icmp .ne 23, 3) := by decide +kernel
theorem dX11_held_31 : decode cX11_held 31 = .ok (.iload 4, 2) := by decide +kernel
theorem dX11_held_33 : decode cX11_held 33 = .ok (.ifCond .eq 14, 3) := by decide +kernel
theorem dX11_held_36 : decode cX11_held 36 = .ok (.aload_n 0, 1) := by decide +kernel
theorem dX11_held_37 : decode cX11_held 37 = .ok (.iload 6, 2) := by decide +kernel
theorem dX11_held_39 : decode cX11_held 39 = .ok (.iload_n 2, 1) := by decide +kernel
theorem dX11_held_40 : decode cX11_held 40 = .ok (.iload_n 3, 1) := by decide +kernel
theorem dX11_held_41 : decode cX11_held 41 = .ok (.invokevirtual 303, 3) := by decide +kernel
theorem dX11_held_44 : decode cX11_held 44 = .ok (.ifCond .eq 7, 3) := by decide +kernel
theorem dX11_held_47 : decode cX11_held 47 = .ok (.iconst 1, 1) := by decide +kernel
theorem dX11_held_48 : decode cX11_held 48 = .ok (.goto 4, 3) := by decide +kernel
theorem dX11_held_51 : decode cX11_held 51 = .ok (.iconst 0, 1) := by decide +kernel
theorem dX11_held_52 : decode cX11_held 52 = .ok (.iadd, 1) := by decide +kernel
theorem dX11_held_53 : decode cX11_held 53 = .ok (.istore 5, 2) := by decide +kernel
theorem dX11_held_55 : decode cX11_held 55 = .ok (.iinc 6 1, 3) := by decide +kernel
theorem dX11_held_58 : decode cX11_held 58 = .ok (.goto (-52), 3) := by decide +kernel
theorem dX11_held_61 : decode cX11_held 61 = .ok (.iload 5, 2) := by decide +kernel
theorem dX11_held_63 : decode cX11_held 63 = .ok (.ireturn, 1) := by decide +kernel
theorem dX11_torn_0 : decode cX11_torn 0 = .ok (.iconst 0, 1) := by decide +kernel
theorem dX11_torn_1 : decode cX11_torn 1 = .ok (.istore 6, 2) := by decide +kernel
theorem dX11_torn_3 : decode cX11_torn 3 = .ok (.iconst 0, 1) := by decide +kernel
theorem dX11_torn_4 : decode cX11_torn 4 = .ok (.istore 7, 2) := by decide +kernel
theorem dX11_torn_6 : decode cX11_torn 6 = .ok (.iload 7, 2) := by decide +kernel
theorem dX11_torn_8 : decode cX11_torn 8 = .ok (.aload_n 0, 1) := by decide +kernel
theorem dX11_torn_9 : decode cX11_torn 9 = .ok (.getfield 105, 3) := by decide +kernel
theorem dX11_torn_12 : decode cX11_torn 12 = .ok (.iconst 0, 1) := by decide +kernel
theorem dX11_torn_13 : decode cX11_torn 13 = .ok (.iaload, 1) := by decide +kernel
theorem dX11_torn_14 : decode cX11_torn 14 = .ok (.if_icmp .ge 120, 3) := by decide +kernel
theorem dX11_torn_17 : decode cX11_torn 17 = .ok (.aload_n 0, 1) := by decide +kernel
theorem dX11_torn_18 : decode cX11_torn 18 = .ok (.getfield 111, 3) := by decide +kernel
theorem dX11_torn_21 : decode cX11_torn 21 = .ok (.iload 7, 2) := by decide +kernel
theorem dX11_torn_23 : decode cX11_torn 23 = .ok (.iaload, 1) := by decide +kernel
theorem dX11_torn_24 : decode cX11_torn 24 = .ok (.iconst 3, 1) := by decide +kernel
theorem dX11_torn_25 : decode cX11_torn 25 = .ok (.if_icmp .ne 62, 3) := by decide +kernel
theorem dX11_torn_28 : decode cX11_torn 28 = .ok (.iload_n 1, 1) := by decide +kernel
theorem dX11_torn_29 : decode cX11_torn 29 = .ok (.iconst (-1), 1) := by decide +kernel
theorem dX11_torn_30 : decode cX11_torn 30 = .ok (.if_icmp .eq 14, 3) := by decide +kernel
theorem dX11_torn_33 : decode cX11_torn 33 = .ok (.aload_n 0, 1) := by decide +kernel
theorem dX11_torn_34 : decode cX11_torn 34 = .ok (.getfield 108, 3) := by decide +kernel
theorem dX11_torn_37 : decode cX11_torn 37 = .ok (.iload 7, 2) := by decide +kernel
theorem dX11_torn_39 : decode cX11_torn 39 = .ok (.iaload, 1) := by decide +kernel
theorem dX11_torn_40 : decode cX11_torn 40 = .ok (.iload_n 1, 1) := by decide +kernel
theorem dX11_torn_41 : decode cX11_torn 41 = .ok (.if_icmp .ne 46, 3) := by decide +kernel
theorem dX11_torn_44 : decode cX11_torn 44 = .ok (.iload_n 2, 1) := by decide +kernel
theorem dX11_torn_45 : decode cX11_torn 45 = .ok (.iconst (-1), 1) := by decide +kernel
theorem dX11_torn_46 : decode cX11_torn 46 = .ok (.if_icmp .eq 14, 3) := by decide +kernel
theorem dX11_torn_49 : decode cX11_torn 49 = .ok (.aload_n 0, 1) := by decide +kernel
theorem dX11_torn_50 : decode cX11_torn 50 = .ok (.getfield 114, 3) := by decide +kernel
theorem dX11_torn_53 : decode cX11_torn 53 = .ok (.iload 7, 2) := by decide +kernel
theorem dX11_torn_55 : decode cX11_torn 55 = .ok (.iaload, 1) := by decide +kernel
theorem dX11_torn_56 : decode cX11_torn 56 = .ok (.iload_n 2, 1) := by decide +kernel
theorem dX11_torn_57 : decode cX11_torn 57 = .ok (.if_icmp .ne 30, 3) := by decide +kernel
theorem dX11_torn_60 : decode cX11_torn 60 = .ok (.aload_n 0, 1) := by decide +kernel
theorem dX11_torn_61 : decode cX11_torn 61 = .ok (.getfield 117, 3) := by decide +kernel
theorem dX11_torn_64 : decode cX11_torn 64 = .ok (.iload 7, 2) := by decide +kernel
theorem dX11_torn_66 : decode cX11_torn 66 = .ok (.iaload, 1) := by decide +kernel
theorem dX11_torn_67 : decode cX11_torn 67 = .ok (.iload_n 3, 1) := by decide +kernel
theorem dX11_torn_68 : decode cX11_torn 68 = .ok (.if_icmp .gt 19, 3) := by decide +kernel
theorem dX11_torn_71 : decode cX11_torn 71 = .ok (.aload_n 0, 1) := by decide +kernel
theorem dX11_torn_72 : decode cX11_torn 72 = .ok (.getfield 120, 3) := by decide +kernel
theorem dX11_torn_75 : decode cX11_torn 75 = .ok (.iload 7, 2) := by decide +kernel
theorem dX11_torn_77 : decode cX11_torn 77 = .ok (.iaload, 1) := by decide +kernel
theorem dX11_torn_78 : decode cX11_torn 78 = .ok (.iload 4, 2) := by decide +kernel
theorem dX11_torn_80 : decode cX11_torn 80 = .ok (.if_icmp .gt 7, 3) := by decide +kernel
theorem dX11_torn_83 : decode cX11_torn 83 = .ok (.iconst 1, 1) := by decide +kernel
theorem dX11_torn_84 : decode cX11_torn 84 = .ok (.goto 4, 3) := by decide +kernel
theorem dX11_torn_87 : decode cX11_torn 87 = .ok (.iconst 0, 1) := by decide +kernel
theorem dX11_torn_88 : decode cX11_torn 88 = .ok (.istore 8, 2) := by decide +kernel
theorem dX11_torn_90 : decode cX11_torn 90 = .ok (.iload 6, 2) := by decide +kernel
theorem dX11_torn_92 : decode cX11_torn 92 = .ok (.iload 8, 2) := by decide +kernel
theorem dX11_torn_94 : decode cX11_torn 94 = .ok (.ifCond .eq 30, 3) := by decide +kernel
theorem dX11_torn_97 : decode cX11_torn 97 = .ok (.aload_n 0, 1) := by decide +kernel
theorem dX11_torn_98 : decode cX11_torn 98 = .ok (.getfield 123, 3) := by decide +kernel
theorem dX11_torn_101 : decode cX11_torn 101 = .ok (.iload 7, 2) := by decide +kernel
theorem dX11_torn_103 : decode cX11_torn 103 = .ok (.iaload, 1) := by decide +kernel
theorem dX11_torn_104 : decode cX11_torn 104 = .ok (.iload 5, 2) := by decide +kernel
theorem dX11_torn_106 : decode cX11_torn 106 = .ok (.ifCond .eq 13, 3) := by decide +kernel
theorem dX11_torn_109 : decode cX11_torn 109 = .ok (.aload_n 0, 1) := by decide +kernel
theorem dX11_torn_110 : decode cX11_torn 110 = .ok (.getfield 126, 3) := by decide +kernel
theorem dX11_torn_113 : decode cX11_torn 113 = .ok (.iload 7, 2) := by decide +kernel
theorem dX11_torn_115 : decode cX11_torn 115 = .ok (.iaload, 1) := by decide +kernel
theorem dX11_torn_116 : decode cX11_torn 116 = .ok (.goto 4, 3) := by decide +kernel
theorem dX11_torn_119 : decode cX11_torn 119 = .ok (.iconst 1, 1) := by decide +kernel
theorem dX11_torn_120 : decode cX11_torn 120 = .ok (.imul, 1) := by decide +kernel
theorem dX11_torn_121 : decode cX11_torn 121 = .ok (.goto 4, 3) := by decide +kernel
theorem dX11_torn_124 : decode cX11_torn 124 = .ok (.iconst 0, 1) := by decide +kernel
theorem dX11_torn_125 : decode cX11_torn 125 = .ok (.iadd, 1) := by decide +kernel
theorem dX11_torn_126 : decode cX11_torn 126 = .ok (.istore 6, 2) := by decide +kernel
theorem dX11_torn_128 : decode cX11_torn 128 = .ok (.iinc 7 1, 3) := by decide +kernel
theorem dX11_torn_131 : decode cX11_torn 131 = .ok (.goto (-125), 3) := by decide +kernel
theorem dX11_torn_134 : decode cX11_torn 134 = .ok (.iload 6, 2) := by decide +kernel
theorem dX11_torn_136 : decode cX11_torn 136 = .ok (.ireturn, 1) := by decide +kernel
theorem dX11_look_0 : decode cX11_look 0 = .ok (.aload_n 0, 1) := by decide +kernel
theorem dX11_look_1 : decode cX11_look 1 = .ok (.getfield 181, 3) := by decide +kernel
theorem dX11_look_4 : decode cX11_look 4 = .ok (.iconst 0, 1) := by decide +kernel
theorem dX11_look_5 : decode cX11_look 5 = .ok (.aload_n 0, 1) := by decide +kernel
theorem dX11_look_6 : decode cX11_look 6 = .ok (.iload_n 1, 1) := by decide +kernel
theorem dX11_look_7 : decode cX11_look 7 = .ok (.iload_n 3, 1) := by decide +kernel
theorem dX11_look_8 : decode cX11_look 8 = .ok (.iload 4, 2) := by decide +kernel
theorem dX11_look_10 : decode cX11_look 10 = .ok (.iconst 0, 1) := by decide +kernel
theorem dX11_look_11 : decode cX11_look 11 = .ok (.invokevirtual 306, 3) := by decide +kernel
theorem dX11_look_14 : decode cX11_look 14 = .ok (.iastore, 1) := by decide +kernel
theorem dX11_look_15 : decode cX11_look 15 = .ok (.aload_n 0, 1) := by decide +kernel
theorem dX11_look_16 : decode cX11_look 16 = .ok (.getfield 181, 3) := by decide +kernel
theorem dX11_look_19 : decode cX11_look 19 = .ok (.iconst 1, 1) := by decide +kernel
theorem dX11_look_20 : decode cX11_look 20 = .ok (.aload_n 0, 1) := by decide +kernel
theorem dX11_look_21 : decode cX11_look 21 = .ok (.iload_n 1, 1) := by decide +kernel
theorem dX11_look_22 : decode cX11_look 22 = .ok (.iload_n 3, 1) := by decide +kernel
theorem dX11_look_23 : decode cX11_look 23 = .ok (.iload 4, 2) := by decide +kernel
theorem dX11_look_25 : decode cX11_look 25 = .ok (.iconst 1, 1) := by decide +kernel
theorem dX11_look_26 : decode cX11_look 26 = .ok (.invokevirtual 306, 3) := by decide +kernel
theorem dX11_look_29 : decode cX11_look 29 = .ok (.iastore, 1) := by decide +kernel
theorem dX11_look_30 : decode cX11_look 30 = .ok (.aload_n 0, 1) := by decide +kernel
theorem dX11_look_31 : decode cX11_look 31 = .ok (.getfield 181, 3) := by decide +kernel
theorem dX11_look_34 : decode cX11_look 34 = .ok (.iconst 2, 1) := by decide +kernel
theorem dX11_look_35 : decode cX11_look 35 = .ok (.aload_n 0, 1) := by decide +kernel
theorem dX11_look_36 : decode cX11_look 36 = .ok (.getfield 90, 3) := by decide +kernel
theorem dX11_look_39 : decode cX11_look 39 = .ok (.iload_n 2, 1) := by decide +kernel
theorem dX11_look_40 : decode cX11_look 40 = .ok (.iaload, 1) := by decide +kernel
theorem dX11_look_41 : decode cX11_look 41 = .ok (.iastore, 1) := by decide +kernel
theorem dX11_look_42 : decode cX11_look 42 = .ok (.aload_n 0, 1) := by decide +kernel
theorem dX11_look_43 : decode cX11_look 43 = .ok (.getfield 181, 3) := by decide +kernel
theorem dX11_look_46 : decode cX11_look 46 = .ok (.iconst 3, 1) := by decide +kernel
theorem dX11_look_47 : decode cX11_look 47 = .ok (.aload_n 0, 1) := by decide +kernel
theorem dX11_look_48 : decode cX11_look 48 = .ok (.getfield 96, 3) := by decide +kernel
theorem dX11_look_51 : decode cX11_look 51 = .ok (.iload_n 2, 1) := by decide +kernel
theorem dX11_look_52 : decode cX11_look 52 = .ok (.iaload, 1) := by decide +kernel
theorem dX11_look_53 : decode cX11_look 53 = .ok (.iastore, 1) := by decide +kernel
theorem dX11_look_54 : decode cX11_look 54 = .ok (.aload_n 0, 1) := by decide +kernel
theorem dX11_look_55 : decode cX11_look 55 = .ok (.getfield 181, 3) := by decide +kernel
theorem dX11_look_58 : decode cX11_look 58 = .ok (.iconst 4, 1) := by decide +kernel
theorem dX11_look_59 : decode cX11_look 59 = .ok (.aload_n 0, 1) := by decide +kernel
theorem dX11_look_60 : decode cX11_look 60 = .ok (.getfield 99, 3) := by decide +kernel
theorem dX11_look_63 : decode cX11_look 63 = .ok (.iload_n 2, 1) := by decide +kernel
theorem dX11_look_64 : decode cX11_look 64 = .ok (.iaload, 1) := by decide +kernel
theorem dX11_look_65 : decode cX11_look 65 = .ok (.aload_n 0, 1) := by decide +kernel
theorem dX11_look_66 : decode cX11_look 66 = .ok (.iload_n 2, 1) := by decide +kernel
theorem dX11_look_67 : decode cX11_look 67 = .ok (.iconst (-1), 1) := by decide +kernel
theorem dX11_look_68 : decode cX11_look 68 = .ok (.iload_n 3, 1) := by decide +kernel
theorem dX11_look_69 : decode cX11_look 69 = .ok (.iload 4, 2) := by decide +kernel
theorem dX11_look_71 : decode cX11_look 71 = .ok (.iconst 0, 1) := by decide +kernel
theorem dX11_look_72 : decode cX11_look 72 = .ok (.invokevirtual 309, 3) := by decide +kernel
theorem dX11_look_75 : decode cX11_look 75 = .ok (.isub, 1) := by decide +kernel
theorem dX11_look_76 : decode cX11_look 76 = .ok (.iastore, 1) := by decide +kernel
theorem dX11_look_77 : decode cX11_look 77 = .ok (.aload_n 0, 1) := by decide +kernel
theorem dX11_look_78 : decode cX11_look 78 = .ok (.getfield 181, 3) := by decide +kernel
theorem dX11_look_81 : decode cX11_look 81 = .ok (.iconst 5, 1) := by decide +kernel
theorem dX11_look_82 : decode cX11_look 82 = .ok (.aload_n 0, 1) := by decide +kernel
theorem dX11_look_83 : decode cX11_look 83 = .ok (.iconst (-1), 1) := by decide +kernel
theorem dX11_look_84 : decode cX11_look 84 = .ok (.iload_n 1, 1) := by decide +kernel
theorem dX11_look_85 : decode cX11_look 85 = .ok (.iload_n 3, 1) := by decide +kernel
theorem dX11_look_86 : decode cX11_look 86 = .ok (.iload 4, 2) := by decide +kernel
theorem dX11_look_88 : decode cX11_look 88 = .ok (.iconst 0, 1) := by decide +kernel
theorem dX11_look_89 : decode cX11_look 89 = .ok (.invokevirtual 309, 3) := by decide +kernel
theorem dX11_look_92 : decode cX11_look 92 = .ok (.iastore, 1) := by decide +kernel
theorem dX11_look_93 : decode cX11_look 93 = .ok (.aload_n 0, 1) := by decide +kernel
theorem dX11_look_94 : decode cX11_look 94 = .ok (.getfield 181, 3) := by decide +kernel
theorem dX11_look_97 : decode cX11_look 97 = .ok (.bipush 6, 2) := by decide +kernel
theorem dX11_look_99 : decode cX11_look 99 = .ok (.iload_n 3, 1) := by decide +kernel
theorem dX11_look_100 : decode cX11_look 100 = .ok (.iastore, 1) := by decide +kernel
theorem dX11_look_101 : decode cX11_look 101 = .ok (.aload_n 0, 1) := by decide +kernel
theorem dX11_look_102 : decode cX11_look 102 = .ok (.getfield 181, 3) := by decide +kernel
theorem dX11_look_105 : decode cX11_look 105 = .ok (.bipush 7, 2) := by decide +kernel
theorem dX11_look_107 : decode cX11_look 107 = .ok (.aload_n 0, 1) := by decide +kernel
theorem dX11_look_108 : decode cX11_look 108 = .ok (.getfield 42, 3) := by decide +kernel
theorem dX11_look_111 : decode cX11_look 111 = .ok (.iload_n 1, 1) := by decide +kernel
theorem dX11_look_112 : decode cX11_look 112 = .ok (.iaload, 1) := by decide +kernel
theorem dX11_look_113 : decode cX11_look 113 = .ok (.aload_n 0, 1) := by decide +kernel
theorem dX11_look_114 : decode cX11_look 114 = .ok (.getfield 93, 3) := by decide +kernel
theorem dX11_look_117 : decode cX11_look 117 = .ok (.iload_n 2, 1) := by decide +kernel
theorem dX11_look_118 : decode cX11_look 118 = .ok (.iaload, 1) := by decide +kernel
theorem dX11_look_119 : decode cX11_look 119 = .ok (.if_icmp .ne 7, 3) := by decide +kernel
theorem dX11_look_122 : decode cX11_look 122 = .ok (.iconst 1, 1) := by decide +kernel
theorem dX11_look_123 : decode cX11_look 123 = .ok (.goto 4, 3) := by decide +kernel
theorem dX11_look_126 : decode cX11_look 126 = .ok (.iconst 0, 1) := by decide +kernel
theorem dX11_look_127 : decode cX11_look 127 = .ok (.iastore, 1) := by decide +kernel
theorem dX11_look_128 : decode cX11_look 128 = .ok (.aload_n 0, 1) := by decide +kernel
theorem dX11_look_129 : decode cX11_look 129 = .ok (.getfield 181, 3) := by decide +kernel
theorem dX11_look_132 : decode cX11_look 132 = .ok (.bipush 8, 2) := by decide +kernel
theorem dX11_look_134 : decode cX11_look 134 = .ok (.aload_n 0, 1) := by decide +kernel
theorem dX11_look_135 : decode cX11_look 135 = .ok (.getfield 66, 3) := by decide +kernel
theorem dX11_look_138 : decode cX11_look 138 = .ok (.iload_n 3, 1) := by decide +kernel
theorem dX11_look_139 : decode cX11_look 139 = .ok (.baload, 1) := by decide +kernel
theorem dX11_look_140 : decode cX11_look 140 = .ok (.ifCond .eq 7, 3) := by decide +kernel
theorem dX11_look_143 : decode cX11_look 143 = .ok (.iconst 1, 1) := by decide +kernel
theorem dX11_look_144 : decode cX11_look 144 = .ok (.goto 4, 3) := by decide +kernel
theorem dX11_look_147 : decode cX11_look 147 = .ok (.iconst 0, 1) := by decide +kernel
theorem dX11_look_148 : decode cX11_look 148 = .ok (.iastore, 1) := by decide +kernel
theorem dX11_look_149 : decode cX11_look 149 = .ok (.aload_n 0, 1) := by decide +kernel
theorem dX11_look_150 : decode cX11_look 150 = .ok (.getfield 181, 3) := by decide +kernel
theorem dX11_look_153 : decode cX11_look 153 = .ok (.bipush 9, 2) := by decide +kernel
theorem dX11_look_155 : decode cX11_look 155 = .ok (.iconst 0, 1) := by decide +kernel
theorem dX11_look_156 : decode cX11_look 156 = .ok (.iastore, 1) := by decide +kernel
theorem dX11_look_157 : decode cX11_look 157 = .ok (.aload_n 0, 1) := by decide +kernel
theorem dX11_look_158 : decode cX11_look 158 = .ok (.iload_n 1, 1) := by decide +kernel
theorem dX11_look_159 : decode cX11_look 159 = .ok (.iload_n 3, 1) := by decide +kernel
theorem dX11_look_160 : decode cX11_look 160 = .ok (.invokevirtual 279, 3) := by decide +kernel
theorem dX11_look_163 : decode cX11_look 163 = .ok (.ifCond .eq 35, 3) := by decide +kernel
theorem dX11_look_166 : decode cX11_look 166 = .ok (.aload_n 0, 1) := by decide +kernel
theorem dX11_look_167 : decode cX11_look 167 = .ok (.iload_n 1, 1) := by decide +kernel
theorem dX11_look_168 : decode cX11_look 168 = .ok (.iload_n 3, 1) := by decide +kernel
theorem dX11_look_169 : decode cX11_look 169 = .ok (.iload 4, 2) := by decide +kernel
theorem dX11_look_171 : decode cX11_look 171 = .ok (.invokevirtual 287, 3) := by decide +kernel
theorem dX11_look_174 : decode cX11_look 174 = .ok (.aload_n 0, 1) := by decide +kernel
theorem dX11_look_175 : decode cX11_look 175 = .ok (.getfield 181, 3) := by decide +kernel
theorem dX11_look_178 : decode cX11_look 178 = .ok (.bipush 9, 2) := by decide +kernel
theorem dX11_look_180 : decode cX11_look 180 = .ok (.aload_n 0, 1) := by decide +kernel
theorem dX11_look_181 : decode cX11_look 181 = .ok (.getfield 32, 3) := by decide +kernel
theorem dX11_look_184 : decode cX11_look 184 = .ok (.aload_n 0, 1) := by decide +kernel
theorem dX11_look_185 : decode cX11_look 185 = .ok (.invokevirtual 290, 3) := by decide +kernel
theorem dX11_look_188 : decode cX11_look 188 = .ok (.baload, 1) := by decide +kernel
theorem dX11_look_189 : decode cX11_look 189 = .ok (.ifCond .eq 7, 3) := by decide +kernel
theorem dX11_look_192 : decode cX11_look 192 = .ok (.iconst 1, 1) := by decide +kernel
theorem dX11_look_193 : decode cX11_look 193 = .ok (.goto 4, 3) := by decide +kernel
theorem dX11_look_196 : decode cX11_look 196 = .ok (.iconst 0, 1) := by decide +kernel
theorem dX11_look_197 : decode cX11_look 197 = .ok (.iastore, 1) := by decide +kernel
theorem dX11_look_198 : decode cX11_look 198 = .ok (.return_, 1) := by decide +kernel
theorem dX11_lineOf_0 : decode cX11_lineOf 0 = .ok (.iconst 0, 1) := by decide +kernel
theorem dX11_lineOf_1 : decode cX11_lineOf 1 = .ok (.istore_n 2, 1) := by decide +kernel
theorem dX11_lineOf_2 : decode cX11_lineOf 2 = .ok (.iload_n 2, 1) := by decide +kernel
theorem dX11_lineOf_3 : decode cX11_lineOf 3 = .ok (.aload_n 0, 1) := by decide +kernel
theorem dX11_lineOf_4 : decode cX11_lineOf 4 = .ok (.getfield 129, 3) := by decide +kernel
theorem dX11_lineOf_7 : decode cX11_lineOf 7 = .ok (.iconst 0, 1) := by decide +kernel
theorem dX11_lineOf_8 : decode cX11_lineOf 8 = .ok (.iaload, 1) := by decide +kernel
theorem dX11_lineOf_9 : decode cX11_lineOf 9 = .ok (.if_icmp .ge 176, 3) := by decide +kernel
theorem dX11_lineOf_12 : decode cX11_lineOf 12 = .ok (.aload_n 0, 1) := by decide +kernel
theorem dX11_lineOf_13 : decode cX11_lineOf 13 = .ok (.getfield 132, 3) := by decide +kernel
theorem dX11_lineOf_16 : decode cX11_lineOf 16 = .ok (.iload_n 2, 1) := by decide +kernel
theorem dX11_lineOf_17 : decode cX11_lineOf 17 = .ok (.iaload, 1) := by decide +kernel
theorem dX11_lineOf_18 : decode cX11_lineOf 18 = .ok (.iload_n 1, 1) := by decide +kernel
theorem dX11_lineOf_19 : decode cX11_lineOf 19 = .ok (.if_icmp .ne 7, 3) := by decide +kernel
theorem dX11_lineOf_22 : decode cX11_lineOf 22 = .ok (.iconst 1, 1) := by decide +kernel
theorem dX11_lineOf_23 : decode cX11_lineOf 23 = .ok (.goto 4, 3) := by decide +kernel
theorem dX11_lineOf_26 : decode cX11_lineOf 26 = .ok (.iconst 0, 1) := by decide +kernel
theorem dX11_lineOf_27 : decode cX11_lineOf 27 = .ok (.istore_n 3, 1) := by decide +kernel
theorem dX11_lineOf_28 : decode cX11_lineOf 28 = .ok (.iconst 4, 1) := by decide +kernel
theorem dX11_lineOf_29 : decode cX11_lineOf 29 = .ok (.iload_n 2, 1) := by decide +kernel
theorem dX11_lineOf_30 : decode cX11_lineOf 30 = .ok (.imul, 1) := by decide +kernel
theorem dX11_lineOf_31 : decode cX11_lineOf 31 = .ok (.istore 4, 2) := by decide +kernel
theorem dX11_lineOf_33 : decode cX11_lineOf 33 = .ok (.iload 4, 2) := by decide +kernel
theorem dX11_lineOf_35 : decode cX11_lineOf 35 = .ok (.iconst 4, 1) := by decide +kernel
theorem dX11_lineOf_36 : decode cX11_lineOf 36 = .ok (.iload_n 2, 1) := by decide +kernel
theorem dX11_lineOf_37 : decode cX11_lineOf 37 = .ok (.imul, 1) := by decide +kernel
theorem dX11_lineOf_38 : decode cX11_lineOf 38 = .ok (.aload_n 0, 1) := by decide +kernel
theorem dX11_lineOf_39 : decode cX11_lineOf 39 = .ok (.getfield 138, 3) := by decide +kernel
theorem dX11_lineOf_42 : decode cX11_lineOf 42 = .ok (.iload_n 2, 1) := by decide +kernel
theorem dX11_lineOf_43 : decode cX11_lineOf 43 = .ok (.iaload, 1) := by decide +kernel
theorem dX11_lineOf_44 : decode cX11_lineOf 44 = .ok (.iadd, 1) := by decide +kernel
theorem dX11_lineOf_45 : decode cX11_lineOf 45 = .ok (.if_icmp .ge 128, 3) := by decide +kernel
theorem dX11_lineOf_48 : decode cX11_lineOf 48 = .ok (.iload_n 3, 1) := by decide +kernel
theorem dX11_lineOf_49 : decode cX11_lineOf 49 = .ok (.ifCond .eq 124, 3) := by decide +kernel
theorem dX11_lineOf_52 : decode cX11_lineOf 52 = .ok (.aload_n 0, 1) := by decide +kernel
theorem dX11_lineOf_53 : decode cX11_lineOf 53 = .ok (.getfield 181, 3) := by decide +kernel
theorem dX11_lineOf_56 : decode cX11_lineOf 56 = .ok (.aload_n 0, 1) := by decide +kernel
theorem dX11_lineOf_57 : decode cX11_lineOf 57 = .ok (.getfield 141, 3) := by decide +kernel
theorem dX11_lineOf_60 : decode cX11_lineOf 60 = .ok (.iload 4, 2) := by decide +kernel
theorem dX11_lineOf_62 : decode cX11_lineOf 62 = .ok (.iaload, 1) := by decide +kernel
theorem dX11_lineOf_63 : decode cX11_lineOf 63 = .ok (.iaload, 1) := by decide +kernel
theorem dX11_lineOf_64 : decode cX11_lineOf 64 = .ok (.istore 5, 2) := by decide +kernel
theorem dX11_lineOf_66 : decode cX11_lineOf 66 = .ok (.aload_n 0, 1) := by decide +kernel
theorem dX11_lineOf_67 : decode cX11_lineOf 67 = .ok (.getfield 144, 3) := by decide +kernel
theorem dX11_lineOf_70 : decode cX11_lineOf 70 = .ok (.iload 4, 2) := by decide +kernel
theorem dX11_lineOf_72 : decode cX11_lineOf 72 = .ok (.iaload, 1) := by decide +kernel
theorem dX11_lineOf_73 : decode cX11_lineOf 73 = .ok (.bipush 60, 2) := by decide +kernel
theorem dX11_lineOf_75 : decode cX11_lineOf 75 = .ok (.if_icmp .ne 23, 3) := by decide +kernel
theorem dX11_lineOf_78 : decode cX11_lineOf 78 = .ok (.iload 5, 2) := by decide +kernel
theorem dX11_lineOf_80 : decode cX11_lineOf 80 = .ok (.aload_n 0, 1) := by decide +kernel
theorem dX11_lineOf_81 : decode cX11_lineOf 81 = .ok (.getfield 147, 3) := by decide +kernel
theorem dX11_lineOf_84 : decode cX11_lineOf 84 = .ok (.iload 4, 2) := by decide +kernel
theorem dX11_lineOf_86 : decode cX11_lineOf 86 = .ok (.iaload, 1) := by decide +kernel
theorem dX11_lineOf_87 : decode cX11_lineOf 87 = .ok (.if_icmp .ge 7, 3) := by decide +kernel
theorem dX11_lineOf_90 : decode cX11_lineOf 90 = .ok (.iconst 1, 1) := by decide +kernel
theorem dX11_lineOf_91 : decode cX11_lineOf 91 = .ok (.goto 56, 3) := by decide +kernel
theorem dX11_lineOf_94 : decode cX11_lineOf 94 = .ok (.iconst 0, 1) := by decide +kernel
theorem dX11_lineOf_95 : decode cX11_lineOf 95 = .ok (.goto 52, 3) := by decide +kernel
theorem dX11_lineOf_98 : decode cX11_lineOf 98 = .ok (.aload_n 0, 1) := by decide +kernel
theorem dX11_lineOf_99 : decode cX11_lineOf 99 = .ok (.getfield 144, 3) := by decide +kernel
theorem dX11_lineOf_102 : decode cX11_lineOf 102 = .ok (.iload 4, 2) := by decide +kernel
theorem dX11_lineOf_104 : decode cX11_lineOf 104 = .ok (.iaload, 1) := by decide +kernel
theorem dX11_lineOf_105 : decode cX11_lineOf 105 = .ok (.bipush 62, 2) := by decide +kernel
theorem dX11_lineOf_107 : decode cX11_lineOf 107 = .ok (.if_icmp .ne 23, 3) := by decide +kernel
theorem dX11_lineOf_110 : decode cX11_lineOf 110 = .ok (.iload 5, 2) := by decide +kernel
theorem dX11_lineOf_112 : decode cX11_lineOf 112 = .ok (.aload_n 0, 1) := by decide +kernel
theorem dX11_lineOf_113 : decode cX11_lineOf 113 = .ok (.getfield 147, 3) := by decide +kernel
theorem dX11_lineOf_116 : decode cX11_lineOf 116 = .ok (.iload 4, 2) := by decide +kernel
theorem dX11_lineOf_118 : decode cX11_lineOf 118 = .ok (.iaload, 1) := by decide +kernel
theorem dX11_lineOf_119 : decode cX11_lineOf 119 = .ok (.if_icmp .le 7, 3) := by decide +kernel
theorem dX11_lineOf_122 : decode cX11_lineOf 122 = .ok (.iconst 1, 1) := by decide +kernel
theorem dX11_lineOf_123 : decode cX11_lineOf 123 = .ok (.goto 24, 3) := by decide +kernel
theorem dX11_lineOf_126 : decode cX11_lineOf 126 = .ok (.iconst 0, 1) := by decide +kernel
theorem dX11_lineOf_127 : decode cX11_lineOf 127 = .ok (.goto 20, 3) := by decide +kernel
theorem dX11_lineOf_130 : decode cX11_lineOf 130 = .ok (.iload 5, 2) := by decide +kernel
theorem dX11_lineOf_132 : decode cX11_lineOf 132 = .ok (.aload_n 0, 1) := by decide +kernel
theorem dX11_lineOf_133 : decode cX11_lineOf 133 = .ok (.getfield 147, 3) := by decide +kernel
theorem dX11_lineOf_136 : decode cX11_lineOf 136 = .ok (.iload 4, 2) := by decide +kernel
theorem dX11_lineOf_138 : decode cX11_lineOf 138 = .ok (.iaload, 1) := by decide +kernel
theorem dX11_lineOf_139 : decode cX11_lineOf 139 = .ok (.if_icmp .ne 7, 3) := by decide +kernel
theorem dX11_lineOf_142 : decode cX11_lineOf 142 = .ok (.iconst 1, 1) := by decide +kernel
theorem dX11_lineOf_143 : decode cX11_lineOf 143 = .ok (.goto 4, 3) := by decide +kernel
theorem dX11_lineOf_146 : decode cX11_lineOf 146 = .ok (.iconst 0, 1) := by decide +kernel
theorem dX11_lineOf_147 : decode cX11_lineOf 147 = .ok (.istore 6, 2) := by decide +kernel
theorem dX11_lineOf_149 : decode cX11_lineOf 149 = .ok (.iload 6, 2) := by decide +kernel
theorem dX11_lineOf_151 : decode cX11_lineOf 151 = .ok (.aload_n 0, 1) := by decide +kernel
theorem dX11_lineOf_152 : decode cX11_lineOf 152 = .ok (.getfield 150, 3) := by decide +kernel
theorem dX11_lineOf_155 : decode cX11_lineOf 155 = .ok (.iload 4, 2) := by decide +kernel
theorem dX11_lineOf_157 : decode cX11_lineOf 157 = .ok (.baload, 1) := by decide +kernel
theorem dX11_lineOf_158 : decode cX11_lineOf 158 = .ok (.if_icmp .eq 7, 3) := by decide +kernel
theorem dX11_lineOf_161 : decode cX11_lineOf 161 = .ok (.iconst 1, 1) := by decide +kernel
theorem dX11_lineOf_162 : decode cX11_lineOf 162 = .ok (.goto 4, 3) := by decide +kernel
theorem dX11_lineOf_165 : decode cX11_lineOf 165 = .ok (.iconst 0, 1) := by decide +kernel
theorem dX11_lineOf_166 : decode cX11_lineOf 166 = .ok (.istore_n 3, 1) := by decide +kernel
theorem dX11_lineOf_167 : decode cX11_lineOf 167 = .ok (.iinc 4 1, 3) := by decide +kernel
theorem dX11_lineOf_170 : decode cX11_lineOf 170 = .ok (.goto (-137), 3) := by decide +kernel
theorem dX11_lineOf_173 : decode cX11_lineOf 173 = .ok (.iload_n 3, 1) := by decide +kernel
theorem dX11_lineOf_174 : decode cX11_lineOf 174 = .ok (.ifCond .eq 5, 3) := by decide +kernel
theorem dX11_lineOf_177 : decode cX11_lineOf 177 = .ok (.iload_n 2, 1) := by decide +kernel
theorem dX11_lineOf_178 : decode cX11_lineOf 178 = .ok (.ireturn, 1) := by decide +kernel
theorem dX11_lineOf_179 : decode cX11_lineOf 179 = .ok (.iinc 2 1, 3) := by decide +kernel
theorem dX11_lineOf_182 : decode cX11_lineOf 182 = .ok (.goto (-180), 3) := by decide +kernel
theorem dX11_lineOf_185 : decode cX11_lineOf 185 = .ok (.iconst (-1), 1) := by decide +kernel
theorem dX11_lineOf_186 : decode cX11_lineOf 186 = .ok (.ireturn, 1) := by decide +kernel
theorem dX11_numberOf_0 : decode cX11_numberOf 0 = .ok (.aload_n 0, 1) := by decide +kernel
theorem dX11_numberOf_1 : decode cX11_numberOf 1 = .ok (.iload_n 1, 1) := by decide +kernel
theorem dX11_numberOf_2 : decode cX11_numberOf 2 = .ok (.invokevirtual 313, 3) := by decide +kernel
theorem dX11_numberOf_5 : decode cX11_numberOf 5 = .ok (.istore_n 3, 1) := by decide +kernel
theorem dX11_numberOf_6 : decode cX11_numberOf 6 = .ok (.iload_n 3, 1) := by decide +kernel
theorem dX11_numberOf_7 : decode cX11_numberOf 7 = .ok (.iconst (-1), 1) := by decide +kernel
theorem dX11_numberOf_8 : decode cX11_numberOf 8 = .ok (.if_icmp .ne 7, 3) := by decide +kernel
theorem dX11_numberOf_11 : decode cX11_numberOf 11 = .ok (.iload_n 2, 1) := by decide +kernel
theorem dX11_numberOf_12 : decode cX11_numberOf 12 = .ok (.goto 9, 3) := by decide +kernel
theorem dX11_numberOf_15 : decode cX11_numberOf 15 = .ok (.aload_n 0, 1) := by decide +kernel
theorem dX11_numberOf_16 : decode cX11_numberOf 16 = .ok (.getfield 135, 3) := by decide +kernel
theorem dX11_numberOf_19 : decode cX11_numberOf 19 = .ok (.iload_n 3, 1) := by decide +kernel
theorem dX11_numberOf_20 : decode cX11_numberOf 20 = .ok (.iaload, 1) := by decide +kernel
theorem dX11_numberOf_21 : decode cX11_numberOf 21 = .ok (.ireturn, 1) := by decide +kernel
theorem dX11_tellAct_0 : decode cX11_tellAct 0 = .ok (.aload_n 0, 1) := by decide +kernel
theorem dX11_tellAct_1 : decode cX11_tellAct 1 = .ok (.getfield 105, 3) := by decide +kernel
theorem dX11_tellAct_4 : decode cX11_tellAct 4 = .ok (.iconst 0, 1) := by decide +kernel
theorem dX11_tellAct_5 : decode cX11_tellAct 5 = .ok (.iaload, 1) := by decide +kernel
theorem dX11_tellAct_6 : decode cX11_tellAct 6 = .ok (.istore 7, 2) := by decide +kernel
theorem dX11_tellAct_8 : decode cX11_tellAct 8 = .ok (.aload_n 0, 1) := by decide +kernel
theorem dX11_tellAct_9 : decode cX11_tellAct 9 = .ok (.getfield 105, 3) := by decide +kernel
theorem dX11_tellAct_12 : decode cX11_tellAct 12 = .ok (.iconst 0, 1) := by decide +kernel
theorem dX11_tellAct_13 : decode cX11_tellAct 13 = .ok (.dup2, 1) := by decide +kernel
theorem dX11_tellAct_14 : decode cX11_tellAct 14 = .ok (.iaload, 1) := by decide +kernel
theorem dX11_tellAct_15 : decode cX11_tellAct 15 = .ok (.iconst 1, 1) := by decide +kernel
theorem dX11_tellAct_16 : decode cX11_tellAct 16 = .ok (.iadd, 1) := by decide +kernel
theorem dX11_tellAct_17 : decode cX11_tellAct 17 = .ok (.iastore, 1) := by decide +kernel
theorem dX11_tellAct_18 : decode cX11_tellAct 18 = .ok (.aload_n 0, 1) := by decide +kernel
theorem dX11_tellAct_19 : decode cX11_tellAct 19 = .ok (.getfield 108, 3) := by decide +kernel
theorem dX11_tellAct_22 : decode cX11_tellAct 22 = .ok (.iload 7, 2) := by decide +kernel
theorem dX11_tellAct_24 : decode cX11_tellAct 24 = .ok (.iload_n 1, 1) := by decide +kernel
theorem dX11_tellAct_25 : decode cX11_tellAct 25 = .ok (.iastore, 1) := by decide +kernel
theorem dX11_tellAct_26 : decode cX11_tellAct 26 = .ok (.aload_n 0, 1) := by decide +kernel
theorem dX11_tellAct_27 : decode cX11_tellAct 27 = .ok (.getfield 111, 3) := by decide +kernel
theorem dX11_tellAct_30 : decode cX11_tellAct 30 = .ok (.iload 7, 2) := by decide +kernel
theorem dX11_tellAct_32 : decode cX11_tellAct 32 = .ok (.iload_n 2, 1) := by decide +kernel
theorem dX11_tellAct_33 : decode cX11_tellAct 33 = .ok (.iastore, 1) := by decide +kernel
theorem dX11_tellAct_34 : decode cX11_tellAct 34 = .ok (.aload_n 0, 1) := by decide +kernel
theorem dX11_tellAct_35 : decode cX11_tellAct 35 = .ok (.getfield 114, 3) := by decide +kernel
theorem dX11_tellAct_38 : decode cX11_tellAct 38 = .ok (.iload 7, 2) := by decide +kernel
theorem dX11_tellAct_40 : decode cX11_tellAct 40 = .ok (.iload_n 3, 1) := by decide +kernel
theorem dX11_tellAct_41 : decode cX11_tellAct 41 = .ok (.iastore, 1) := by decide +kernel
theorem dX11_tellAct_42 : decode cX11_tellAct 42 = .ok (.aload_n 0, 1) := by decide +kernel
theorem dX11_tellAct_43 : decode cX11_tellAct 43 = .ok (.getfield 117, 3) := by decide +kernel
theorem dX11_tellAct_46 : decode cX11_tellAct 46 = .ok (.iload 7, 2) := by decide +kernel
theorem dX11_tellAct_48 : decode cX11_tellAct 48 = .ok (.iload 4, 2) := by decide +kernel
theorem dX11_tellAct_50 : decode cX11_tellAct 50 = .ok (.iastore, 1) := by decide +kernel
theorem dX11_tellAct_51 : decode cX11_tellAct 51 = .ok (.aload_n 0, 1) := by decide +kernel
theorem dX11_tellAct_52 : decode cX11_tellAct 52 = .ok (.getfield 120, 3) := by decide +kernel
theorem dX11_tellAct_55 : decode cX11_tellAct 55 = .ok (.iload 7, 2) := by decide +kernel
theorem dX11_tellAct_57 : decode cX11_tellAct 57 = .ok (.aload_n 0, 1) := by decide +kernel
theorem dX11_tellAct_58 : decode cX11_tellAct 58 = .ok (.getfield 23, 3) := by decide +kernel
theorem dX11_tellAct_61 : decode cX11_tellAct 61 = .ok (.iconst 0, 1) := by decide +kernel
theorem dX11_tellAct_62 : decode cX11_tellAct 62 = .ok (.iaload, 1) := by decide +kernel
theorem dX11_tellAct_63 : decode cX11_tellAct 63 = .ok (.iastore, 1) := by decide +kernel
theorem dX11_tellAct_64 : decode cX11_tellAct 64 = .ok (.aload_n 0, 1) := by decide +kernel
theorem dX11_tellAct_65 : decode cX11_tellAct 65 = .ok (.getfield 123, 3) := by decide +kernel
theorem dX11_tellAct_68 : decode cX11_tellAct 68 = .ok (.iload 7, 2) := by decide +kernel
theorem dX11_tellAct_70 : decode cX11_tellAct 70 = .ok (.iload 5, 2) := by decide +kernel
theorem dX11_tellAct_72 : decode cX11_tellAct 72 = .ok (.iastore, 1) := by decide +kernel
theorem dX11_tellAct_73 : decode cX11_tellAct 73 = .ok (.aload_n 0, 1) := by decide +kernel
theorem dX11_tellAct_74 : decode cX11_tellAct 74 = .ok (.getfield 126, 3) := by decide +kernel
theorem dX11_tellAct_77 : decode cX11_tellAct 77 = .ok (.iload 7, 2) := by decide +kernel
theorem dX11_tellAct_79 : decode cX11_tellAct 79 = .ok (.iload 6, 2) := by decide +kernel
theorem dX11_tellAct_81 : decode cX11_tellAct 81 = .ok (.iastore, 1) := by decide +kernel
theorem dX11_tellAct_82 : decode cX11_tellAct 82 = .ok (.iload 7, 2) := by decide +kernel
theorem dX11_tellAct_84 : decode cX11_tellAct 84 = .ok (.ireturn, 1) := by decide +kernel
theorem dX11_lend_0 : decode cX11_lend 0 = .ok (.aload_n 0, 1) := by decide +kernel
theorem dX11_lend_1 : decode cX11_lend 1 = .ok (.iconst 0, 1) := by decide +kernel
theorem dX11_lend_2 : decode cX11_lend 2 = .ok (.putfield 220, 3) := by decide +kernel
theorem dX11_lend_5 : decode cX11_lend 5 = .ok (.aload_n 0, 1) := by decide +kernel
theorem dX11_lend_6 : decode cX11_lend 6 = .ok (.getfield 105, 3) := by decide +kernel
theorem dX11_lend_9 : decode cX11_lend 9 = .ok (.iconst 0, 1) := by decide +kernel
theorem dX11_lend_10 : decode cX11_lend 10 = .ok (.iaload, 1) := by decide +kernel
theorem dX11_lend_11 : decode cX11_lend 11 = .ok (.sipush 150, 3) := by decide +kernel
theorem dX11_lend_14 : decode cX11_lend 14 = .ok (.if_icmp .eq 40, 3) := by decide +kernel
theorem dX11_lend_17 : decode cX11_lend 17 = .ok (.aload_n 0, 1) := by decide +kernel
theorem dX11_lend_18 : decode cX11_lend 18 = .ok (.iload_n 1, 1) := by decide +kernel
theorem dX11_lend_19 : decode cX11_lend 19 = .ok (.invokevirtual 317, 3) := by decide +kernel
theorem dX11_lend_22 : decode cX11_lend 22 = .ok (.ifCond .eq 32, 3) := by decide +kernel
theorem dX11_lend_25 : decode cX11_lend 25 = .ok (.aload_n 0, 1) := by decide +kernel
theorem dX11_lend_26 : decode cX11_lend 26 = .ok (.iload_n 2, 1) := by decide +kernel
theorem dX11_lend_27 : decode cX11_lend 27 = .ok (.invokevirtual 243, 3) := by decide +kernel
theorem dX11_lend_30 : decode cX11_lend 30 = .ok (.ifCond .eq 24, 3) := by decide +kernel
theorem dX11_lend_33 : decode cX11_lend 33 = .ok (.aload_n 0, 1) := by decide +kernel
theorem dX11_lend_34 : decode cX11_lend 34 = .ok (.iload_n 1, 1) := by decide +kernel
theorem dX11_lend_35 : decode cX11_lend 35 = .ok (.aload_n 0, 1) := by decide +kernel
theorem dX11_lend_36 : decode cX11_lend 36 = .ok (.getfield 23, 3) := by decide +kernel
theorem dX11_lend_39 : decode cX11_lend 39 = .ok (.iconst 0, 1) := by decide +kernel
theorem dX11_lend_40 : decode cX11_lend 40 = .ok (.iaload, 1) := by decide +kernel
theorem dX11_lend_41 : decode cX11_lend 41 = .ok (.aload_n 0, 1) := by decide +kernel
theorem dX11_lend_42 : decode cX11_lend 42 = .ok (.getfield 23, 3) := by decide +kernel
theorem dX11_lend_45 : decode cX11_lend 45 = .ok (.iconst 0, 1) := by decide +kernel
theorem dX11_lend_46 : decode cX11_lend 46 = .ok (.iaload, 1) := by decide +kernel
theorem dX11_lend_47 : decode cX11_lend 47 = .ok (.invokevirtual 297, 3) := by decide +kernel
theorem dX11_lend_50 : decode cX11_lend 50 = .ok (.iconst (-1), 1) := by decide +kernel
theorem dX11_lend_51 : decode cX11_lend 51 = .ok (.if_icmp .eq 5, 3) := by decide +kernel
theorem dX11_lend_54 : decode cX11_lend 54 = .ok (.iconst (-1), 1) := by decide +kernel
theorem dX11_lend_55 : decode cX11_lend 55 = .ok (.ireturn, 1) := by decide +kernel
theorem dX11_lend_56 : decode cX11_lend 56 = .ok (.aload_n 0, 1) := by decide +kernel
theorem dX11_lend_57 : decode cX11_lend 57 = .ok (.iload_n 2, 1) := by decide +kernel
theorem dX11_lend_58 : decode cX11_lend 58 = .ok (.iload_n 1, 1) := by decide +kernel
theorem dX11_lend_59 : decode cX11_lend 59 = .ok (.aload_n 0, 1) := by decide +kernel
theorem dX11_lend_60 : decode cX11_lend 60 = .ok (.getfield 23, 3) := by decide +kernel
theorem dX11_lend_63 : decode cX11_lend 63 = .ok (.iconst 0, 1) := by decide +kernel
theorem dX11_lend_64 : decode cX11_lend 64 = .ok (.iaload, 1) := by decide +kernel
theorem dX11_lend_65 : decode cX11_lend 65 = .ok (.aload_n 0, 1) := by decide +kernel
theorem dX11_lend_66 : decode cX11_lend 66 = .ok (.getfield 23, 3) := by decide +kernel
theorem dX11_lend_69 : decode cX11_lend 69 = .ok (.iconst 0, 1) := by decide +kernel
theorem dX11_lend_70 : decode cX11_lend 70 = .ok (.iaload, 1) := by decide +kernel
theorem dX11_lend_71 : decode cX11_lend 71 = .ok (.invokevirtual 320, 3) := by decide +kernel
theorem dX11_lend_74 : decode cX11_lend 74 = .ok (.aload_n 0, 1) := by decide +kernel
theorem dX11_lend_75 : decode cX11_lend 75 = .ok (.iconst 0, 1) := by decide +kernel
theorem dX11_lend_76 : decode cX11_lend 76 = .ok (.invokevirtual 313, 3) := by decide +kernel
theorem dX11_lend_79 : decode cX11_lend 79 = .ok (.iconst (-1), 1) := by decide +kernel
theorem dX11_lend_80 : decode cX11_lend 80 = .ok (.if_icmp .eq 5, 3) := by decide +kernel
theorem dX11_lend_83 : decode cX11_lend 83 = .ok (.iconst (-1), 1) := by decide +kernel
theorem dX11_lend_84 : decode cX11_lend 84 = .ok (.ireturn, 1) := by decide +kernel
theorem dX11_lend_85 : decode cX11_lend 85 = .ok (.aload_n 0, 1) := by decide +kernel
theorem dX11_lend_86 : decode cX11_lend 86 = .ok (.iload_n 1, 1) := by decide +kernel
theorem dX11_lend_87 : decode cX11_lend 87 = .ok (.iconst 0, 1) := by decide +kernel
theorem dX11_lend_88 : decode cX11_lend 88 = .ok (.iload_n 2, 1) := by decide +kernel
theorem dX11_lend_89 : decode cX11_lend 89 = .ok (.aload_n 0, 1) := by decide +kernel
theorem dX11_lend_90 : decode cX11_lend 90 = .ok (.getfield 23, 3) := by decide +kernel
theorem dX11_lend_93 : decode cX11_lend 93 = .ok (.iconst 0, 1) := by decide +kernel
theorem dX11_lend_94 : decode cX11_lend 94 = .ok (.iaload, 1) := by decide +kernel
theorem dX11_lend_95 : decode cX11_lend 95 = .ok (.aload_n 0, 1) := by decide +kernel
theorem dX11_lend_96 : decode cX11_lend 96 = .ok (.iconst 1, 1) := by decide +kernel
theorem dX11_lend_97 : decode cX11_lend 97 = .ok (.iconst 4, 1) := by decide +kernel
theorem dX11_lend_98 : decode cX11_lend 98 = .ok (.invokevirtual 324, 3) := by decide +kernel
theorem dX11_lend_101 : decode cX11_lend 101 = .ok (.iconst 0, 1) := by decide +kernel
theorem dX11_lend_102 : decode cX11_lend 102 = .ok (.invokevirtual 328, 3) := by decide +kernel
theorem dX11_lend_105 : decode cX11_lend 105 = .ok (.ireturn, 1) := by decide +kernel
theorem dX11_pass_0 : decode cX11_pass 0 = .ok (.aload_n 0, 1) := by decide +kernel
theorem dX11_pass_1 : decode cX11_pass 1 = .ok (.iconst 0, 1) := by decide +kernel
theorem dX11_pass_2 : decode cX11_pass 2 = .ok (.putfield 220, 3) := by decide +kernel
theorem dX11_pass_5 : decode cX11_pass 5 = .ok (.aload_n 0, 1) := by decide +kernel
theorem dX11_pass_6 : decode cX11_pass 6 = .ok (.getfield 105, 3) := by decide +kernel
theorem dX11_pass_9 : decode cX11_pass 9 = .ok (.iconst 0, 1) := by decide +kernel
theorem dX11_pass_10 : decode cX11_pass 10 = .ok (.iaload, 1) := by decide +kernel
theorem dX11_pass_11 : decode cX11_pass 11 = .ok (.sipush 150, 3) := by decide +kernel
theorem dX11_pass_14 : decode cX11_pass 14 = .ok (.if_icmp .eq 33, 3) := by decide +kernel
theorem dX11_pass_17 : decode cX11_pass 17 = .ok (.aload_n 0, 1) := by decide +kernel
theorem dX11_pass_18 : decode cX11_pass 18 = .ok (.iload_n 1, 1) := by decide +kernel
theorem dX11_pass_19 : decode cX11_pass 19 = .ok (.invokevirtual 317, 3) := by decide +kernel
theorem dX11_pass_22 : decode cX11_pass 22 = .ok (.ifCond .eq 25, 3) := by decide +kernel
theorem dX11_pass_25 : decode cX11_pass 25 = .ok (.aload_n 0, 1) := by decide +kernel
theorem dX11_pass_26 : decode cX11_pass 26 = .ok (.iload_n 2, 1) := by decide +kernel
theorem dX11_pass_27 : decode cX11_pass 27 = .ok (.invokevirtual 243, 3) := by decide +kernel
theorem dX11_pass_30 : decode cX11_pass 30 = .ok (.ifCond .eq 17, 3) := by decide +kernel
theorem dX11_pass_33 : decode cX11_pass 33 = .ok (.iload_n 3, 1) := by decide +kernel
theorem dX11_pass_34 : decode cX11_pass 34 = .ok (.iconst 0, 1) := by decide +kernel
theorem dX11_pass_35 : decode cX11_pass 35 = .ok (.aload_n 0, 1) := by decide +kernel
theorem dX11_pass_36 : decode cX11_pass 36 = .ok (.getfield 23, 3) := by decide +kernel
theorem dX11_pass_39 : decode cX11_pass 39 = .ok (.iconst 0, 1) := by decide +kernel
theorem dX11_pass_40 : decode cX11_pass 40 = .ok (.iaload, 1) := by decide +kernel
theorem dX11_pass_41 : decode cX11_pass 41 = .ok (.invokestatic 232, 3) := by decide +kernel
theorem dX11_pass_44 : decode cX11_pass 44 = .ok (.ifCond .ne 5, 3) := by decide +kernel
theorem dX11_pass_47 : decode cX11_pass 47 = .ok (.iconst (-1), 1) := by decide +kernel
theorem dX11_pass_48 : decode cX11_pass 48 = .ok (.ireturn, 1) := by decide +kernel
theorem dX11_pass_49 : decode cX11_pass 49 = .ok (.aload_n 0, 1) := by decide +kernel
theorem dX11_pass_50 : decode cX11_pass 50 = .ok (.iload_n 1, 1) := by decide +kernel
theorem dX11_pass_51 : decode cX11_pass 51 = .ok (.iload_n 3, 1) := by decide +kernel
theorem dX11_pass_52 : decode cX11_pass 52 = .ok (.aload_n 0, 1) := by decide +kernel
theorem dX11_pass_53 : decode cX11_pass 53 = .ok (.getfield 23, 3) := by decide +kernel
theorem dX11_pass_56 : decode cX11_pass 56 = .ok (.iconst 0, 1) := by decide +kernel
theorem dX11_pass_57 : decode cX11_pass 57 = .ok (.iaload, 1) := by decide +kernel
theorem dX11_pass_58 : decode cX11_pass 58 = .ok (.invokevirtual 297, 3) := by decide +kernel
theorem dX11_pass_61 : decode cX11_pass 61 = .ok (.istore 4, 2) := by decide +kernel
theorem dX11_pass_63 : decode cX11_pass 63 = .ok (.iload 4, 2) := by decide +kernel
theorem dX11_pass_65 : decode cX11_pass 65 = .ok (.iconst (-1), 1) := by decide +kernel
theorem dX11_pass_66 : decode cX11_pass 66 = .ok (.if_icmp .eq 9, 3) := by decide +kernel
theorem dX11_pass_69 : decode cX11_pass 69 = .ok (.iload 4, 2) := by decide +kernel
theorem dX11_pass_71 : decode cX11_pass 71 = .ok (.iload_n 2, 1) := by decide +kernel
theorem dX11_pass_72 : decode cX11_pass 72 = .ok (.if_icmp .ne 5, 3) := by decide +kernel
theorem dX11_pass_75 : decode cX11_pass 75 = .ok (.iconst (-1), 1) := by decide +kernel
theorem dX11_pass_76 : decode cX11_pass 76 = .ok (.ireturn, 1) := by decide +kernel
theorem dX11_pass_77 : decode cX11_pass 77 = .ok (.aload_n 0, 1) := by decide +kernel
theorem dX11_pass_78 : decode cX11_pass 78 = .ok (.iload_n 1, 1) := by decide +kernel
theorem dX11_pass_79 : decode cX11_pass 79 = .ok (.iconst 1, 1) := by decide +kernel
theorem dX11_pass_80 : decode cX11_pass 80 = .ok (.iload_n 2, 1) := by decide +kernel
theorem dX11_pass_81 : decode cX11_pass 81 = .ok (.iload_n 3, 1) := by decide +kernel
theorem dX11_pass_82 : decode cX11_pass 82 = .ok (.iconst 0, 1) := by decide +kernel
theorem dX11_pass_83 : decode cX11_pass 83 = .ok (.iconst 0, 1) := by decide +kernel
theorem dX11_pass_84 : decode cX11_pass 84 = .ok (.invokevirtual 328, 3) := by decide +kernel
theorem dX11_pass_87 : decode cX11_pass 87 = .ok (.ireturn, 1) := by decide +kernel
theorem dX11_back_0 : decode cX11_back 0 = .ok (.aload_n 0, 1) := by decide +kernel
theorem dX11_back_1 : decode cX11_back 1 = .ok (.iconst 0, 1) := by decide +kernel
theorem dX11_back_2 : decode cX11_back 2 = .ok (.putfield 220, 3) := by decide +kernel
theorem dX11_back_5 : decode cX11_back 5 = .ok (.aload_n 0, 1) := by decide +kernel
theorem dX11_back_6 : decode cX11_back 6 = .ok (.getfield 105, 3) := by decide +kernel
theorem dX11_back_9 : decode cX11_back 9 = .ok (.iconst 0, 1) := by decide +kernel
theorem dX11_back_10 : decode cX11_back 10 = .ok (.iaload, 1) := by decide +kernel
theorem dX11_back_11 : decode cX11_back 11 = .ok (.sipush 150, 3) := by decide +kernel
theorem dX11_back_14 : decode cX11_back 14 = .ok (.if_icmp .eq 32, 3) := by decide +kernel
theorem dX11_back_17 : decode cX11_back 17 = .ok (.aload_n 0, 1) := by decide +kernel
theorem dX11_back_18 : decode cX11_back 18 = .ok (.iload_n 1, 1) := by decide +kernel
theorem dX11_back_19 : decode cX11_back 19 = .ok (.invokevirtual 317, 3) := by decide +kernel
theorem dX11_back_22 : decode cX11_back 22 = .ok (.ifCond .eq 24, 3) := by decide +kernel
theorem dX11_back_25 : decode cX11_back 25 = .ok (.aload_n 0, 1) := by decide +kernel
theorem dX11_back_26 : decode cX11_back 26 = .ok (.iload_n 1, 1) := by decide +kernel
theorem dX11_back_27 : decode cX11_back 27 = .ok (.aload_n 0, 1) := by decide +kernel
theorem dX11_back_28 : decode cX11_back 28 = .ok (.getfield 23, 3) := by decide +kernel
theorem dX11_back_31 : decode cX11_back 31 = .ok (.iconst 0, 1) := by decide +kernel
theorem dX11_back_32 : decode cX11_back 32 = .ok (.iaload, 1) := by decide +kernel
theorem dX11_back_33 : decode cX11_back 33 = .ok (.aload_n 0, 1) := by decide +kernel
theorem dX11_back_34 : decode cX11_back 34 = .ok (.getfield 23, 3) := by decide +kernel
theorem dX11_back_37 : decode cX11_back 37 = .ok (.iconst 0, 1) := by decide +kernel
theorem dX11_back_38 : decode cX11_back 38 = .ok (.iaload, 1) := by decide +kernel
theorem dX11_back_39 : decode cX11_back 39 = .ok (.invokevirtual 297, 3) := by decide +kernel
theorem dX11_back_42 : decode cX11_back 42 = .ok (.iconst (-1), 1) := by decide +kernel
theorem dX11_back_43 : decode cX11_back 43 = .ok (.if_icmp .ne 5, 3) := by decide +kernel
theorem dX11_back_46 : decode cX11_back 46 = .ok (.iconst (-1), 1) := by decide +kernel
theorem dX11_back_47 : decode cX11_back 47 = .ok (.ireturn, 1) := by decide +kernel
theorem dX11_back_48 : decode cX11_back 48 = .ok (.aload_n 0, 1) := by decide +kernel
theorem dX11_back_49 : decode cX11_back 49 = .ok (.iload_n 1, 1) := by decide +kernel
theorem dX11_back_50 : decode cX11_back 50 = .ok (.iconst 2, 1) := by decide +kernel
theorem dX11_back_51 : decode cX11_back 51 = .ok (.iconst (-1), 1) := by decide +kernel
theorem dX11_back_52 : decode cX11_back 52 = .ok (.aload_n 0, 1) := by decide +kernel
theorem dX11_back_53 : decode cX11_back 53 = .ok (.getfield 23, 3) := by decide +kernel
theorem dX11_back_56 : decode cX11_back 56 = .ok (.iconst 0, 1) := by decide +kernel
theorem dX11_back_57 : decode cX11_back 57 = .ok (.iaload, 1) := by decide +kernel
theorem dX11_back_58 : decode cX11_back 58 = .ok (.iconst 0, 1) := by decide +kernel
theorem dX11_back_59 : decode cX11_back 59 = .ok (.iconst 0, 1) := by decide +kernel
theorem dX11_back_60 : decode cX11_back 60 = .ok (.invokevirtual 328, 3) := by decide +kernel
theorem dX11_back_63 : decode cX11_back 63 = .ok (.ireturn, 1) := by decide +kernel
theorem dX11_tear_0 : decode cX11_tear 0 = .ok (.aload_n 0, 1) := by decide +kernel
theorem dX11_tear_1 : decode cX11_tear 1 = .ok (.iconst 0, 1) := by decide +kernel
theorem dX11_tear_2 : decode cX11_tear 2 = .ok (.putfield 220, 3) := by decide +kernel
theorem dX11_tear_5 : decode cX11_tear 5 = .ok (.aload_n 0, 1) := by decide +kernel
theorem dX11_tear_6 : decode cX11_tear 6 = .ok (.getfield 105, 3) := by decide +kernel
theorem dX11_tear_9 : decode cX11_tear 9 = .ok (.iconst 0, 1) := by decide +kernel
theorem dX11_tear_10 : decode cX11_tear 10 = .ok (.iaload, 1) := by decide +kernel
theorem dX11_tear_11 : decode cX11_tear 11 = .ok (.sipush 150, 3) := by decide +kernel
theorem dX11_tear_14 : decode cX11_tear 14 = .ok (.if_icmp .eq 30, 3) := by decide +kernel
theorem dX11_tear_17 : decode cX11_tear 17 = .ok (.aload_n 0, 1) := by decide +kernel
theorem dX11_tear_18 : decode cX11_tear 18 = .ok (.iload_n 1, 1) := by decide +kernel
theorem dX11_tear_19 : decode cX11_tear 19 = .ok (.invokevirtual 317, 3) := by decide +kernel
theorem dX11_tear_22 : decode cX11_tear 22 = .ok (.ifCond .eq 22, 3) := by decide +kernel
theorem dX11_tear_25 : decode cX11_tear 25 = .ok (.iload_n 3, 1) := by decide +kernel
theorem dX11_tear_26 : decode cX11_tear 26 = .ok (.iconst 0, 1) := by decide +kernel
theorem dX11_tear_27 : decode cX11_tear 27 = .ok (.aload_n 0, 1) := by decide +kernel
theorem dX11_tear_28 : decode cX11_tear 28 = .ok (.getfield 23, 3) := by decide +kernel
theorem dX11_tear_31 : decode cX11_tear 31 = .ok (.iconst 0, 1) := by decide +kernel
theorem dX11_tear_32 : decode cX11_tear 32 = .ok (.iaload, 1) := by decide +kernel
theorem dX11_tear_33 : decode cX11_tear 33 = .ok (.invokestatic 232, 3) := by decide +kernel
theorem dX11_tear_36 : decode cX11_tear 36 = .ok (.ifCond .eq 8, 3) := by decide +kernel
theorem dX11_tear_39 : decode cX11_tear 39 = .ok (.iload_n 2, 1) := by decide +kernel
theorem dX11_tear_40 : decode cX11_tear 40 = .ok (.iconst 1, 1) := by decide +kernel
theorem dX11_tear_41 : decode cX11_tear 41 = .ok (.if_icmp .ge 5, 3) := by decide +kernel
theorem dX11_tear_44 : decode cX11_tear 44 = .ok (.iconst (-1), 1) := by decide +kernel
theorem dX11_tear_45 : decode cX11_tear 45 = .ok (.ireturn, 1) := by decide +kernel
theorem dX11_tear_46 : decode cX11_tear 46 = .ok (.aload_n 0, 1) := by decide +kernel
theorem dX11_tear_47 : decode cX11_tear 47 = .ok (.iload_n 1, 1) := by decide +kernel
theorem dX11_tear_48 : decode cX11_tear 48 = .ok (.iload_n 3, 1) := by decide +kernel
theorem dX11_tear_49 : decode cX11_tear 49 = .ok (.aload_n 0, 1) := by decide +kernel
theorem dX11_tear_50 : decode cX11_tear 50 = .ok (.getfield 23, 3) := by decide +kernel
theorem dX11_tear_53 : decode cX11_tear 53 = .ok (.iconst 0, 1) := by decide +kernel
theorem dX11_tear_54 : decode cX11_tear 54 = .ok (.iaload, 1) := by decide +kernel
theorem dX11_tear_55 : decode cX11_tear 55 = .ok (.invokevirtual 297, 3) := by decide +kernel
theorem dX11_tear_58 : decode cX11_tear 58 = .ok (.istore 4, 2) := by decide +kernel
theorem dX11_tear_60 : decode cX11_tear 60 = .ok (.iload 4, 2) := by decide +kernel
theorem dX11_tear_62 : decode cX11_tear 62 = .ok (.iconst (-1), 1) := by decide +kernel
theorem dX11_tear_63 : decode cX11_tear 63 = .ok (.if_icmp .eq 29, 3) := by decide +kernel
theorem dX11_tear_66 : decode cX11_tear 66 = .ok (.iload_n 2, 1) := by decide +kernel
theorem dX11_tear_67 : decode cX11_tear 67 = .ok (.aload_n 0, 1) := by decide +kernel
theorem dX11_tear_68 : decode cX11_tear 68 = .ok (.getfield 99, 3) := by decide +kernel
theorem dX11_tear_71 : decode cX11_tear 71 = .ok (.iload_n 1, 1) := by decide +kernel
theorem dX11_tear_72 : decode cX11_tear 72 = .ok (.iaload, 1) := by decide +kernel
theorem dX11_tear_73 : decode cX11_tear 73 = .ok (.aload_n 0, 1) := by decide +kernel
theorem dX11_tear_74 : decode cX11_tear 74 = .ok (.iload_n 1, 1) := by decide +kernel
theorem dX11_tear_75 : decode cX11_tear 75 = .ok (.iconst (-1), 1) := by decide +kernel
theorem dX11_tear_76 : decode cX11_tear 76 = .ok (.bipush 100, 2) := by decide +kernel
theorem dX11_tear_78 : decode cX11_tear 78 = .ok (.aload_n 0, 1) := by decide +kernel
theorem dX11_tear_79 : decode cX11_tear 79 = .ok (.getfield 23, 3) := by decide +kernel
theorem dX11_tear_82 : decode cX11_tear 82 = .ok (.iconst 0, 1) := by decide +kernel
theorem dX11_tear_83 : decode cX11_tear 83 = .ok (.iaload, 1) := by decide +kernel
theorem dX11_tear_84 : decode cX11_tear 84 = .ok (.iconst 0, 1) := by decide +kernel
theorem dX11_tear_85 : decode cX11_tear 85 = .ok (.invokevirtual 309, 3) := by decide +kernel
theorem dX11_tear_88 : decode cX11_tear 88 = .ok (.isub, 1) := by decide +kernel
theorem dX11_tear_89 : decode cX11_tear 89 = .ok (.if_icmp .le 5, 3) := by decide +kernel
theorem dX11_tear_92 : decode cX11_tear 92 = .ok (.iconst (-1), 1) := by decide +kernel
theorem dX11_tear_93 : decode cX11_tear 93 = .ok (.ireturn, 1) := by decide +kernel
theorem dX11_tear_94 : decode cX11_tear 94 = .ok (.aload_n 0, 1) := by decide +kernel
theorem dX11_tear_95 : decode cX11_tear 95 = .ok (.iload 4, 2) := by decide +kernel
theorem dX11_tear_97 : decode cX11_tear 97 = .ok (.iload_n 1, 1) := by decide +kernel
theorem dX11_tear_98 : decode cX11_tear 98 = .ok (.iload_n 3, 1) := by decide +kernel
theorem dX11_tear_99 : decode cX11_tear 99 = .ok (.aload_n 0, 1) := by decide +kernel
theorem dX11_tear_100 : decode cX11_tear 100 = .ok (.getfield 23, 3) := by decide +kernel
theorem dX11_tear_103 : decode cX11_tear 103 = .ok (.iconst 0, 1) := by decide +kernel
theorem dX11_tear_104 : decode cX11_tear 104 = .ok (.iaload, 1) := by decide +kernel
theorem dX11_tear_105 : decode cX11_tear 105 = .ok (.invokevirtual 320, 3) := by decide +kernel
theorem dX11_tear_108 : decode cX11_tear 108 = .ok (.aload_n 0, 1) := by decide +kernel
theorem dX11_tear_109 : decode cX11_tear 109 = .ok (.iload_n 1, 1) := by decide +kernel
theorem dX11_tear_110 : decode cX11_tear 110 = .ok (.iconst 3, 1) := by decide +kernel
theorem dX11_tear_111 : decode cX11_tear 111 = .ok (.iload 4, 2) := by decide +kernel
theorem dX11_tear_113 : decode cX11_tear 113 = .ok (.iload_n 3, 1) := by decide +kernel
theorem dX11_tear_114 : decode cX11_tear 114 = .ok (.iload_n 2, 1) := by decide +kernel
theorem dX11_tear_115 : decode cX11_tear 115 = .ok (.aload_n 0, 1) := by decide +kernel
theorem dX11_tear_116 : decode cX11_tear 116 = .ok (.iconst 2, 1) := by decide +kernel
theorem dX11_tear_117 : decode cX11_tear 117 = .ok (.iconst 0, 1) := by decide +kernel
theorem dX11_tear_118 : decode cX11_tear 118 = .ok (.invokevirtual 324, 3) := by decide +kernel
theorem dX11_tear_121 : decode cX11_tear 121 = .ok (.invokevirtual 328, 3) := by decide +kernel
theorem dX11_tear_124 : decode cX11_tear 124 = .ok (.ireturn, 1) := by decide +kernel
theorem dX11_act_0 : decode cX11_act 0 = .ok (.aload_n 0, 1) := by decide +kernel
theorem dX11_act_1 : decode cX11_act 1 = .ok (.iconst 0, 1) := by decide +kernel
theorem dX11_act_2 : decode cX11_act 2 = .ok (.putfield 220, 3) := by decide +kernel
theorem dX11_act_5 : decode cX11_act 5 = .ok (.iload_n 1, 1) := by decide +kernel
theorem dX11_act_6 : decode cX11_act 6 = .ok (.iconst 0, 1) := by decide +kernel
theorem dX11_act_7 : decode cX11_act 7 = .ok (.aload_n 0, 1) := by decide +kernel
theorem dX11_act_8 : decode cX11_act 8 = .ok (.getfield 105, 3) := by decide +kernel
theorem dX11_act_11 : decode cX11_act 11 = .ok (.iconst 0, 1) := by decide +kernel
theorem dX11_act_12 : decode cX11_act 12 = .ok (.iaload, 1) := by decide +kernel
theorem dX11_act_13 : decode cX11_act 13 = .ok (.iconst 1, 1) := by decide +kernel
theorem dX11_act_14 : decode cX11_act 14 = .ok (.isub, 1) := by decide +kernel
theorem dX11_act_15 : decode cX11_act 15 = .ok (.invokestatic 232, 3) := by decide +kernel
theorem dX11_act_18 : decode cX11_act 18 = .ok (.ifCond .ne 6, 3) := by decide +kernel
theorem dX11_act_21 : decode cX11_act 21 = .ok (.bipush (-2), 2) := by decide +kernel
theorem dX11_act_23 : decode cX11_act 23 = .ok (.ireturn, 1) := by decide +kernel
theorem dX11_act_24 : decode cX11_act 24 = .ok (.iload_n 2, 1) := by decide +kernel
theorem dX11_act_25 : decode cX11_act 25 = .ok (.tableswitch 92 0 6 #[43, 50, 57, 64, 71, 78, 85], 43) := by decide +kernel
theorem dX11_act_68 : decode cX11_act 68 = .ok (.aload_n 0, 1) := by decide +kernel
theorem dX11_act_69 : decode cX11_act 69 = .ok (.getfield 108, 3) := by decide +kernel
theorem dX11_act_72 : decode cX11_act 72 = .ok (.iload_n 1, 1) := by decide +kernel
theorem dX11_act_73 : decode cX11_act 73 = .ok (.iaload, 1) := by decide +kernel
theorem dX11_act_74 : decode cX11_act 74 = .ok (.ireturn, 1) := by decide +kernel
theorem dX11_act_75 : decode cX11_act 75 = .ok (.aload_n 0, 1) := by decide +kernel
theorem dX11_act_76 : decode cX11_act 76 = .ok (.getfield 111, 3) := by decide +kernel
theorem dX11_act_79 : decode cX11_act 79 = .ok (.iload_n 1, 1) := by decide +kernel
theorem dX11_act_80 : decode cX11_act 80 = .ok (.iaload, 1) := by decide +kernel
theorem dX11_act_81 : decode cX11_act 81 = .ok (.ireturn, 1) := by decide +kernel
theorem dX11_act_82 : decode cX11_act 82 = .ok (.aload_n 0, 1) := by decide +kernel
theorem dX11_act_83 : decode cX11_act 83 = .ok (.getfield 114, 3) := by decide +kernel
theorem dX11_act_86 : decode cX11_act 86 = .ok (.iload_n 1, 1) := by decide +kernel
theorem dX11_act_87 : decode cX11_act 87 = .ok (.iaload, 1) := by decide +kernel
theorem dX11_act_88 : decode cX11_act 88 = .ok (.ireturn, 1) := by decide +kernel
theorem dX11_act_89 : decode cX11_act 89 = .ok (.aload_n 0, 1) := by decide +kernel
theorem dX11_act_90 : decode cX11_act 90 = .ok (.getfield 117, 3) := by decide +kernel
theorem dX11_act_93 : decode cX11_act 93 = .ok (.iload_n 1, 1) := by decide +kernel
theorem dX11_act_94 : decode cX11_act 94 = .ok (.iaload, 1) := by decide +kernel
theorem dX11_act_95 : decode cX11_act 95 = .ok (.ireturn, 1) := by decide +kernel
theorem dX11_act_96 : decode cX11_act 96 = .ok (.aload_n 0, 1) := by decide +kernel
theorem dX11_act_97 : decode cX11_act 97 = .ok (.getfield 120, 3) := by decide +kernel
theorem dX11_act_100 : decode cX11_act 100 = .ok (.iload_n 1, 1) := by decide +kernel
theorem dX11_act_101 : decode cX11_act 101 = .ok (.iaload, 1) := by decide +kernel
theorem dX11_act_102 : decode cX11_act 102 = .ok (.ireturn, 1) := by decide +kernel
theorem dX11_act_103 : decode cX11_act 103 = .ok (.aload_n 0, 1) := by decide +kernel
theorem dX11_act_104 : decode cX11_act 104 = .ok (.getfield 123, 3) := by decide +kernel
theorem dX11_act_107 : decode cX11_act 107 = .ok (.iload_n 1, 1) := by decide +kernel
theorem dX11_act_108 : decode cX11_act 108 = .ok (.iaload, 1) := by decide +kernel
theorem dX11_act_109 : decode cX11_act 109 = .ok (.ireturn, 1) := by decide +kernel
theorem dX11_act_110 : decode cX11_act 110 = .ok (.aload_n 0, 1) := by decide +kernel
theorem dX11_act_111 : decode cX11_act 111 = .ok (.getfield 126, 3) := by decide +kernel
theorem dX11_act_114 : decode cX11_act 114 = .ok (.iload_n 1, 1) := by decide +kernel
theorem dX11_act_115 : decode cX11_act 115 = .ok (.iaload, 1) := by decide +kernel
theorem dX11_act_116 : decode cX11_act 116 = .ok (.ireturn, 1) := by decide +kernel
theorem dX11_act_117 : decode cX11_act 117 = .ok (.bipush (-2), 2) := by decide +kernel
theorem dX11_act_119 : decode cX11_act 119 = .ok (.ireturn, 1) := by decide +kernel
theorem dX11_who_0 : decode cX11_who 0 = .ok (.aload_n 0, 1) := by decide +kernel
theorem dX11_who_1 : decode cX11_who 1 = .ok (.iconst 0, 1) := by decide +kernel
theorem dX11_who_2 : decode cX11_who 2 = .ok (.putfield 220, 3) := by decide +kernel
theorem dX11_who_5 : decode cX11_who 5 = .ok (.aload_n 0, 1) := by decide +kernel
theorem dX11_who_6 : decode cX11_who 6 = .ok (.iload_n 1, 1) := by decide +kernel
theorem dX11_who_7 : decode cX11_who 7 = .ok (.invokevirtual 317, 3) := by decide +kernel
theorem dX11_who_10 : decode cX11_who 10 = .ok (.ifCond .eq 23, 3) := by decide +kernel
theorem dX11_who_13 : decode cX11_who 13 = .ok (.iload_n 2, 1) := by decide +kernel
theorem dX11_who_14 : decode cX11_who 14 = .ok (.invokestatic 240, 3) := by decide +kernel
theorem dX11_who_17 : decode cX11_who 17 = .ok (.ifCond .eq 16, 3) := by decide +kernel
theorem dX11_who_20 : decode cX11_who 20 = .ok (.aload_n 0, 1) := by decide +kernel
theorem dX11_who_21 : decode cX11_who 21 = .ok (.iload_n 1, 1) := by decide +kernel
theorem dX11_who_22 : decode cX11_who 22 = .ok (.iload_n 2, 1) := by decide +kernel
theorem dX11_who_23 : decode cX11_who 23 = .ok (.aload_n 0, 1) := by decide +kernel
theorem dX11_who_24 : decode cX11_who 24 = .ok (.invokevirtual 283, 3) := by decide +kernel
theorem dX11_who_27 : decode cX11_who 27 = .ok (.invokevirtual 297, 3) := by decide +kernel
theorem dX11_who_30 : decode cX11_who 30 = .ok (.goto 5, 3) := by decide +kernel
theorem dX11_who_33 : decode cX11_who 33 = .ok (.bipush (-2), 2) := by decide +kernel
theorem dX11_who_35 : decode cX11_who 35 = .ok (.ireturn, 1) := by decide +kernel
theorem dX11_gives_0 : decode cX11_gives 0 = .ok (.aload_n 0, 1) := by decide +kernel
theorem dX11_gives_1 : decode cX11_gives 1 = .ok (.getfield 108, 3) := by decide +kernel
theorem dX11_gives_4 : decode cX11_gives 4 = .ok (.iload_n 1, 1) := by decide +kernel
theorem dX11_gives_5 : decode cX11_gives 5 = .ok (.iaload, 1) := by decide +kernel
theorem dX11_gives_6 : decode cX11_gives 6 = .ok (.iload_n 2, 1) := by decide +kernel
theorem dX11_gives_7 : decode cX11_gives 7 = .ok (.if_icmp .ne 30, 3) := by decide +kernel
theorem dX11_gives_10 : decode cX11_gives 10 = .ok (.aload_n 0, 1) := by decide +kernel
theorem dX11_gives_11 : decode cX11_gives 11 = .ok (.getfield 111, 3) := by decide +kernel
theorem dX11_gives_14 : decode cX11_gives 14 = .ok (.iload_n 1, 1) := by decide +kernel
theorem dX11_gives_15 : decode cX11_gives 15 = .ok (.iaload, 1) := by decide +kernel
theorem dX11_gives_16 : decode cX11_gives 16 = .ok (.iconst 1, 1) := by decide +kernel
theorem dX11_gives_17 : decode cX11_gives 17 = .ok (.if_icmp .gt 20, 3) := by decide +kernel
theorem dX11_gives_20 : decode cX11_gives 20 = .ok (.aload_n 0, 1) := by decide +kernel
theorem dX11_gives_21 : decode cX11_gives 21 = .ok (.getfield 120, 3) := by decide +kernel
theorem dX11_gives_24 : decode cX11_gives 24 = .ok (.iload_n 1, 1) := by decide +kernel
theorem dX11_gives_25 : decode cX11_gives 25 = .ok (.iaload, 1) := by decide +kernel
theorem dX11_gives_26 : decode cX11_gives 26 = .ok (.aload_n 0, 1) := by decide +kernel
theorem dX11_gives_27 : decode cX11_gives 27 = .ok (.invokevirtual 283, 3) := by decide +kernel
theorem dX11_gives_30 : decode cX11_gives 30 = .ok (.if_icmp .gt 7, 3) := by decide +kernel
theorem dX11_gives_33 : decode cX11_gives 33 = .ok (.iconst 1, 1) := by decide +kernel
theorem dX11_gives_34 : decode cX11_gives 34 = .ok (.goto 4, 3) := by decide +kernel
theorem dX11_gives_37 : decode cX11_gives 37 = .ok (.iconst 0, 1) := by decide +kernel
theorem dX11_gives_38 : decode cX11_gives 38 = .ok (.ireturn, 1) := by decide +kernel
theorem dX11_had_0 : decode cX11_had 0 = .ok (.aload_n 0, 1) := by decide +kernel
theorem dX11_had_1 : decode cX11_had 1 = .ok (.iconst 0, 1) := by decide +kernel
theorem dX11_had_2 : decode cX11_had 2 = .ok (.putfield 220, 3) := by decide +kernel
theorem dX11_had_5 : decode cX11_had 5 = .ok (.aload_n 0, 1) := by decide +kernel
theorem dX11_had_6 : decode cX11_had 6 = .ok (.iload_n 1, 1) := by decide +kernel
theorem dX11_had_7 : decode cX11_had 7 = .ok (.invokevirtual 317, 3) := by decide +kernel
theorem dX11_had_10 : decode cX11_had 10 = .ok (.ifCond .ne 5, 3) := by decide +kernel
theorem dX11_had_13 : decode cX11_had 13 = .ok (.iconst (-1), 1) := by decide +kernel
theorem dX11_had_14 : decode cX11_had 14 = .ok (.ireturn, 1) := by decide +kernel
theorem dX11_had_15 : decode cX11_had 15 = .ok (.iconst 0, 1) := by decide +kernel
theorem dX11_had_16 : decode cX11_had 16 = .ok (.istore_n 3, 1) := by decide +kernel
theorem dX11_had_17 : decode cX11_had 17 = .ok (.iload_n 3, 1) := by decide +kernel
theorem dX11_had_18 : decode cX11_had 18 = .ok (.aload_n 0, 1) := by decide +kernel
theorem dX11_had_19 : decode cX11_had 19 = .ok (.getfield 105, 3) := by decide +kernel
theorem dX11_had_22 : decode cX11_had 22 = .ok (.iconst 0, 1) := by decide +kernel
theorem dX11_had_23 : decode cX11_had 23 = .ok (.iaload, 1) := by decide +kernel
theorem dX11_had_24 : decode cX11_had 24 = .ok (.if_icmp .ge 115, 3) := by decide +kernel
theorem dX11_had_27 : decode cX11_had 27 = .ok (.aload_n 0, 1) := by decide +kernel
theorem dX11_had_28 : decode cX11_had 28 = .ok (.iload_n 3, 1) := by decide +kernel
theorem dX11_had_29 : decode cX11_had 29 = .ok (.iload_n 1, 1) := by decide +kernel
theorem dX11_had_30 : decode cX11_had 30 = .ok (.invokevirtual 332, 3) := by decide +kernel
theorem dX11_had_33 : decode cX11_had 33 = .ok (.ifCond .ne 6, 3) := by decide +kernel
theorem dX11_had_36 : decode cX11_had 36 = .ok (.goto 97, 3) := by decide +kernel
theorem dX11_had_39 : decode cX11_had 39 = .ok (.iconst 0, 1) := by decide +kernel
theorem dX11_had_40 : decode cX11_had 40 = .ok (.istore 4, 2) := by decide +kernel
theorem dX11_had_42 : decode cX11_had 42 = .ok (.iconst 0, 1) := by decide +kernel
theorem dX11_had_43 : decode cX11_had 43 = .ok (.istore 5, 2) := by decide +kernel
theorem dX11_had_45 : decode cX11_had 45 = .ok (.iload 5, 2) := by decide +kernel
theorem dX11_had_47 : decode cX11_had 47 = .ok (.aload_n 0, 1) := by decide +kernel
theorem dX11_had_48 : decode cX11_had 48 = .ok (.getfield 105, 3) := by decide +kernel
theorem dX11_had_51 : decode cX11_had 51 = .ok (.iconst 0, 1) := by decide +kernel
theorem dX11_had_52 : decode cX11_had 52 = .ok (.iaload, 1) := by decide +kernel
theorem dX11_had_53 : decode cX11_had 53 = .ok (.if_icmp .ge 67, 3) := by decide +kernel
theorem dX11_had_56 : decode cX11_had 56 = .ok (.iload 4, 2) := by decide +kernel
theorem dX11_had_58 : decode cX11_had 58 = .ok (.aload_n 0, 1) := by decide +kernel
theorem dX11_had_59 : decode cX11_had 59 = .ok (.iload 5, 2) := by decide +kernel
theorem dX11_had_61 : decode cX11_had 61 = .ok (.iload_n 1, 1) := by decide +kernel
theorem dX11_had_62 : decode cX11_had 62 = .ok (.invokevirtual 332, 3) := by decide +kernel
theorem dX11_had_65 : decode cX11_had 65 = .ok (.ifCond .eq 45, 3) := by decide +kernel
theorem dX11_had_68 : decode cX11_had 68 = .ok (.aload_n 0, 1) := by decide +kernel
theorem dX11_had_69 : decode cX11_had 69 = .ok (.getfield 117, 3) := by decide +kernel
theorem dX11_had_72 : decode cX11_had 72 = .ok (.iload 5, 2) := by decide +kernel
theorem dX11_had_74 : decode cX11_had 74 = .ok (.iaload, 1) := by decide +kernel
theorem dX11_had_75 : decode cX11_had 75 = .ok (.aload_n 0, 1) := by decide +kernel
theorem dX11_had_76 : decode cX11_had 76 = .ok (.getfield 117, 3) := by decide +kernel
theorem dX11_had_79 : decode cX11_had 79 = .ok (.iload_n 3, 1) := by decide +kernel
theorem dX11_had_80 : decode cX11_had 80 = .ok (.iaload, 1) := by decide +kernel
theorem dX11_had_81 : decode cX11_had 81 = .ok (.if_icmp .lt 25, 3) := by decide +kernel
theorem dX11_had_84 : decode cX11_had 84 = .ok (.aload_n 0, 1) := by decide +kernel
theorem dX11_had_85 : decode cX11_had 85 = .ok (.getfield 117, 3) := by decide +kernel
theorem dX11_had_88 : decode cX11_had 88 = .ok (.iload 5, 2) := by decide +kernel
theorem dX11_had_90 : decode cX11_had 90 = .ok (.iaload, 1) := by decide +kernel
theorem dX11_had_91 : decode cX11_had 91 = .ok (.aload_n 0, 1) := by decide +kernel
theorem dX11_had_92 : decode cX11_had 92 = .ok (.getfield 117, 3) := by decide +kernel
theorem dX11_had_95 : decode cX11_had 95 = .ok (.iload_n 3, 1) := by decide +kernel
theorem dX11_had_96 : decode cX11_had 96 = .ok (.iaload, 1) := by decide +kernel
theorem dX11_had_97 : decode cX11_had 97 = .ok (.if_icmp .ne 13, 3) := by decide +kernel
theorem dX11_had_100 : decode cX11_had 100 = .ok (.iload 5, 2) := by decide +kernel
theorem dX11_had_102 : decode cX11_had 102 = .ok (.iload_n 3, 1) := by decide +kernel
theorem dX11_had_103 : decode cX11_had 103 = .ok (.if_icmp .ge 7, 3) := by decide +kernel
theorem dX11_had_106 : decode cX11_had 106 = .ok (.iconst 1, 1) := by decide +kernel
theorem dX11_had_107 : decode cX11_had 107 = .ok (.goto 4, 3) := by decide +kernel
theorem dX11_had_110 : decode cX11_had 110 = .ok (.iconst 0, 1) := by decide +kernel
theorem dX11_had_111 : decode cX11_had 111 = .ok (.iadd, 1) := by decide +kernel
theorem dX11_had_112 : decode cX11_had 112 = .ok (.istore 4, 2) := by decide +kernel
theorem dX11_had_114 : decode cX11_had 114 = .ok (.iinc 5 1, 3) := by decide +kernel
theorem dX11_had_117 : decode cX11_had 117 = .ok (.goto (-72), 3) := by decide +kernel
theorem dX11_had_120 : decode cX11_had 120 = .ok (.iload 4, 2) := by decide +kernel
theorem dX11_had_122 : decode cX11_had 122 = .ok (.iload_n 2, 1) := by decide +kernel
theorem dX11_had_123 : decode cX11_had 123 = .ok (.if_icmp .ne 10, 3) := by decide +kernel
theorem dX11_had_126 : decode cX11_had 126 = .ok (.aload_n 0, 1) := by decide +kernel
theorem dX11_had_127 : decode cX11_had 127 = .ok (.getfield 114, 3) := by decide +kernel
theorem dX11_had_130 : decode cX11_had 130 = .ok (.iload_n 3, 1) := by decide +kernel
theorem dX11_had_131 : decode cX11_had 131 = .ok (.iaload, 1) := by decide +kernel
theorem dX11_had_132 : decode cX11_had 132 = .ok (.ireturn, 1) := by decide +kernel
theorem dX11_had_133 : decode cX11_had 133 = .ok (.iinc 3 1, 3) := by decide +kernel
theorem dX11_had_136 : decode cX11_had 136 = .ok (.goto (-119), 3) := by decide +kernel
theorem dX11_had_139 : decode cX11_had 139 = .ok (.iconst (-1), 1) := by decide +kernel
theorem dX11_had_140 : decode cX11_had 140 = .ok (.ireturn, 1) := by decide +kernel
theorem dX11_due_0 : decode cX11_due 0 = .ok (.aload_n 0, 1) := by decide +kernel
theorem dX11_due_1 : decode cX11_due 1 = .ok (.iconst 0, 1) := by decide +kernel
theorem dX11_due_2 : decode cX11_due 2 = .ok (.putfield 220, 3) := by decide +kernel
theorem dX11_due_5 : decode cX11_due 5 = .ok (.aload_n 0, 1) := by decide +kernel
theorem dX11_due_6 : decode cX11_due 6 = .ok (.iload_n 1, 1) := by decide +kernel
theorem dX11_due_7 : decode cX11_due 7 = .ok (.invokevirtual 317, 3) := by decide +kernel
theorem dX11_due_10 : decode cX11_due 10 = .ok (.ifCond .eq 23, 3) := by decide +kernel
theorem dX11_due_13 : decode cX11_due 13 = .ok (.iload_n 2, 1) := by decide +kernel
theorem dX11_due_14 : decode cX11_due 14 = .ok (.invokestatic 240, 3) := by decide +kernel
theorem dX11_due_17 : decode cX11_due 17 = .ok (.ifCond .eq 16, 3) := by decide +kernel
theorem dX11_due_20 : decode cX11_due 20 = .ok (.aload_n 0, 1) := by decide +kernel
theorem dX11_due_21 : decode cX11_due 21 = .ok (.iload_n 1, 1) := by decide +kernel
theorem dX11_due_22 : decode cX11_due 22 = .ok (.iload_n 2, 1) := by decide +kernel
theorem dX11_due_23 : decode cX11_due 23 = .ok (.aload_n 0, 1) := by decide +kernel
theorem dX11_due_24 : decode cX11_due 24 = .ok (.invokevirtual 283, 3) := by decide +kernel
theorem dX11_due_27 : decode cX11_due 27 = .ok (.invokevirtual 300, 3) := by decide +kernel
theorem dX11_due_30 : decode cX11_due 30 = .ok (.goto 4, 3) := by decide +kernel
theorem dX11_due_33 : decode cX11_due 33 = .ok (.iconst (-1), 1) := by decide +kernel
theorem dX11_due_34 : decode cX11_due 34 = .ok (.ireturn, 1) := by decide +kernel
theorem dX11_owes_0 : decode cX11_owes 0 = .ok (.aload_n 0, 1) := by decide +kernel
theorem dX11_owes_1 : decode cX11_owes 1 = .ok (.iconst 0, 1) := by decide +kernel
theorem dX11_owes_2 : decode cX11_owes 2 = .ok (.putfield 220, 3) := by decide +kernel
theorem dX11_owes_5 : decode cX11_owes 5 = .ok (.aload_n 0, 1) := by decide +kernel
theorem dX11_owes_6 : decode cX11_owes 6 = .ok (.iload_n 1, 1) := by decide +kernel
theorem dX11_owes_7 : decode cX11_owes 7 = .ok (.invokevirtual 243, 3) := by decide +kernel
theorem dX11_owes_10 : decode cX11_owes 10 = .ok (.ifCond .eq 10, 3) := by decide +kernel
theorem dX11_owes_13 : decode cX11_owes 13 = .ok (.iload_n 2, 1) := by decide +kernel
theorem dX11_owes_14 : decode cX11_owes 14 = .ok (.invokestatic 240, 3) := by decide +kernel
theorem dX11_owes_17 : decode cX11_owes 17 = .ok (.ifCond .ne 5, 3) := by decide +kernel
theorem dX11_owes_20 : decode cX11_owes 20 = .ok (.iconst (-1), 1) := by decide +kernel
theorem dX11_owes_21 : decode cX11_owes 21 = .ok (.ireturn, 1) := by decide +kernel
theorem dX11_owes_22 : decode cX11_owes 22 = .ok (.aload_n 0, 1) := by decide +kernel
theorem dX11_owes_23 : decode cX11_owes 23 = .ok (.invokevirtual 283, 3) := by decide +kernel
theorem dX11_owes_26 : decode cX11_owes 26 = .ok (.istore 4, 2) := by decide +kernel
theorem dX11_owes_28 : decode cX11_owes 28 = .ok (.iload_n 3, 1) := by decide +kernel
theorem dX11_owes_29 : decode cX11_owes 29 = .ok (.tableswitch 73 0 3 #[31, 41, 51, 62], 31) := by decide +kernel
theorem dX11_owes_60 : decode cX11_owes 60 = .ok (.aload_n 0, 1) := by decide +kernel
theorem dX11_owes_61 : decode cX11_owes 61 = .ok (.iload_n 1, 1) := by decide +kernel
theorem dX11_owes_62 : decode cX11_owes 62 = .ok (.iload_n 2, 1) := by decide +kernel
theorem dX11_owes_63 : decode cX11_owes 63 = .ok (.iload 4, 2) := by decide +kernel
theorem dX11_owes_65 : decode cX11_owes 65 = .ok (.iconst 0, 1) := by decide +kernel
theorem dX11_owes_66 : decode cX11_owes 66 = .ok (.invokevirtual 306, 3) := by decide +kernel
theorem dX11_owes_69 : decode cX11_owes 69 = .ok (.ireturn, 1) := by decide +kernel
theorem dX11_owes_70 : decode cX11_owes 70 = .ok (.aload_n 0, 1) := by decide +kernel
theorem dX11_owes_71 : decode cX11_owes 71 = .ok (.iload_n 1, 1) := by decide +kernel
theorem dX11_owes_72 : decode cX11_owes 72 = .ok (.iload_n 2, 1) := by decide +kernel
theorem dX11_owes_73 : decode cX11_owes 73 = .ok (.iload 4, 2) := by decide +kernel
theorem dX11_owes_75 : decode cX11_owes 75 = .ok (.iconst 1, 1) := by decide +kernel
theorem dX11_owes_76 : decode cX11_owes 76 = .ok (.invokevirtual 306, 3) := by decide +kernel
theorem dX11_owes_79 : decode cX11_owes 79 = .ok (.ireturn, 1) := by decide +kernel
theorem dX11_owes_80 : decode cX11_owes 80 = .ok (.aload_n 0, 1) := by decide +kernel
theorem dX11_owes_81 : decode cX11_owes 81 = .ok (.iconst (-1), 1) := by decide +kernel
theorem dX11_owes_82 : decode cX11_owes 82 = .ok (.iload_n 1, 1) := by decide +kernel
theorem dX11_owes_83 : decode cX11_owes 83 = .ok (.iload_n 2, 1) := by decide +kernel
theorem dX11_owes_84 : decode cX11_owes 84 = .ok (.iload 4, 2) := by decide +kernel
theorem dX11_owes_86 : decode cX11_owes 86 = .ok (.iconst 0, 1) := by decide +kernel
theorem dX11_owes_87 : decode cX11_owes 87 = .ok (.invokevirtual 309, 3) := by decide +kernel
theorem dX11_owes_90 : decode cX11_owes 90 = .ok (.ireturn, 1) := by decide +kernel
theorem dX11_owes_91 : decode cX11_owes 91 = .ok (.aload_n 0, 1) := by decide +kernel
theorem dX11_owes_92 : decode cX11_owes 92 = .ok (.iconst (-1), 1) := by decide +kernel
theorem dX11_owes_93 : decode cX11_owes 93 = .ok (.iload_n 1, 1) := by decide +kernel
theorem dX11_owes_94 : decode cX11_owes 94 = .ok (.iload_n 2, 1) := by decide +kernel
theorem dX11_owes_95 : decode cX11_owes 95 = .ok (.iload 4, 2) := by decide +kernel
theorem dX11_owes_97 : decode cX11_owes 97 = .ok (.iconst 1, 1) := by decide +kernel
theorem dX11_owes_98 : decode cX11_owes 98 = .ok (.invokevirtual 309, 3) := by decide +kernel
theorem dX11_owes_101 : decode cX11_owes 101 = .ok (.ireturn, 1) := by decide +kernel
theorem dX11_owes_102 : decode cX11_owes 102 = .ok (.iconst (-1), 1) := by decide +kernel
theorem dX11_owes_103 : decode cX11_owes 103 = .ok (.ireturn, 1) := by decide +kernel
theorem dX11_feed_0 : decode cX11_feed 0 = .ok (.aload_n 0, 1) := by decide +kernel
theorem dX11_feed_1 : decode cX11_feed 1 = .ok (.iconst 0, 1) := by decide +kernel
theorem dX11_feed_2 : decode cX11_feed 2 = .ok (.putfield 220, 3) := by decide +kernel
theorem dX11_feed_5 : decode cX11_feed 5 = .ok (.aload_n 0, 1) := by decide +kernel
theorem dX11_feed_6 : decode cX11_feed 6 = .ok (.getfield 13, 3) := by decide +kernel
theorem dX11_feed_9 : decode cX11_feed 9 = .ok (.iconst 0, 1) := by decide +kernel
theorem dX11_feed_10 : decode cX11_feed 10 = .ok (.iaload, 1) := by decide +kernel
theorem dX11_feed_11 : decode cX11_feed 11 = .ok (.bipush 20, 2) := by decide +kernel
theorem dX11_feed_13 : decode cX11_feed 13 = .ok (.iadd, 1) := by decide +kernel
theorem dX11_feed_14 : decode cX11_feed 14 = .ok (.sipush 500, 3) := by decide +kernel
theorem dX11_feed_17 : decode cX11_feed 17 = .ok (.if_icmp .le 5, 3) := by decide +kernel
theorem dX11_feed_20 : decode cX11_feed 20 = .ok (.iconst (-1), 1) := by decide +kernel
theorem dX11_feed_21 : decode cX11_feed 21 = .ok (.ireturn, 1) := by decide +kernel
theorem dX11_feed_22 : decode cX11_feed 22 = .ok (.aload_n 0, 1) := by decide +kernel
theorem dX11_feed_23 : decode cX11_feed 23 = .ok (.iload_n 1, 1) := by decide +kernel
theorem dX11_feed_24 : decode cX11_feed 24 = .ok (.invokevirtual 335, 3) := by decide +kernel
theorem dX11_feed_27 : decode cX11_feed 27 = .ok (.aload_n 0, 1) := by decide +kernel
theorem dX11_feed_28 : decode cX11_feed 28 = .ok (.iload_n 2, 1) := by decide +kernel
theorem dX11_feed_29 : decode cX11_feed 29 = .ok (.invokevirtual 335, 3) := by decide +kernel
theorem dX11_feed_32 : decode cX11_feed 32 = .ok (.aload_n 0, 1) := by decide +kernel
theorem dX11_feed_33 : decode cX11_feed 33 = .ok (.iload_n 3, 1) := by decide +kernel
theorem dX11_feed_34 : decode cX11_feed 34 = .ok (.invokevirtual 335, 3) := by decide +kernel
theorem dX11_feed_37 : decode cX11_feed 37 = .ok (.aload_n 0, 1) := by decide +kernel
theorem dX11_feed_38 : decode cX11_feed 38 = .ok (.iload 4, 2) := by decide +kernel
theorem dX11_feed_40 : decode cX11_feed 40 = .ok (.invokevirtual 335, 3) := by decide +kernel
theorem dX11_feed_43 : decode cX11_feed 43 = .ok (.aload_n 0, 1) := by decide +kernel
theorem dX11_feed_44 : decode cX11_feed 44 = .ok (.iload 5, 2) := by decide +kernel
theorem dX11_feed_46 : decode cX11_feed 46 = .ok (.invokevirtual 335, 3) := by decide +kernel
theorem dX11_feed_49 : decode cX11_feed 49 = .ok (.aload_n 0, 1) := by decide +kernel
theorem dX11_feed_50 : decode cX11_feed 50 = .ok (.getfield 13, 3) := by decide +kernel
theorem dX11_feed_53 : decode cX11_feed 53 = .ok (.iconst 0, 1) := by decide +kernel
theorem dX11_feed_54 : decode cX11_feed 54 = .ok (.iaload, 1) := by decide +kernel
theorem dX11_feed_55 : decode cX11_feed 55 = .ok (.ireturn, 1) := by decide +kernel
theorem dX11_four_0 : decode cX11_four 0 = .ok (.bipush 24, 2) := by decide +kernel
theorem dX11_four_2 : decode cX11_four 2 = .ok (.istore_n 2, 1) := by decide +kernel
theorem dX11_four_3 : decode cX11_four 3 = .ok (.iload_n 2, 1) := by decide +kernel
theorem dX11_four_4 : decode cX11_four 4 = .ok (.ifCond .lt 34, 3) := by decide +kernel
theorem dX11_four_7 : decode cX11_four 7 = .ok (.aload_n 0, 1) := by decide +kernel
theorem dX11_four_8 : decode cX11_four 8 = .ok (.getfield 7, 3) := by decide +kernel
theorem dX11_four_11 : decode cX11_four 11 = .ok (.aload_n 0, 1) := by decide +kernel
theorem dX11_four_12 : decode cX11_four 12 = .ok (.getfield 13, 3) := by decide +kernel
theorem dX11_four_15 : decode cX11_four 15 = .ok (.iconst 0, 1) := by decide +kernel
theorem dX11_four_16 : decode cX11_four 16 = .ok (.iaload, 1) := by decide +kernel
theorem dX11_four_17 : decode cX11_four 17 = .ok (.iload_n 1, 1) := by decide +kernel
theorem dX11_four_18 : decode cX11_four 18 = .ok (.iload_n 2, 1) := by decide +kernel
theorem dX11_four_19 : decode cX11_four 19 = .ok (.ishr, 1) := by decide +kernel
theorem dX11_four_20 : decode cX11_four 20 = .ok (.i2b, 1) := by decide +kernel
theorem dX11_four_21 : decode cX11_four 21 = .ok (.bastore, 1) := by decide +kernel
theorem dX11_four_22 : decode cX11_four 22 = .ok (.aload_n 0, 1) := by decide +kernel
theorem dX11_four_23 : decode cX11_four 23 = .ok (.getfield 13, 3) := by decide +kernel
theorem dX11_four_26 : decode cX11_four 26 = .ok (.iconst 0, 1) := by decide +kernel
theorem dX11_four_27 : decode cX11_four 27 = .ok (.dup2, 1) := by decide +kernel
theorem dX11_four_28 : decode cX11_four 28 = .ok (.iaload, 1) := by decide +kernel
theorem dX11_four_29 : decode cX11_four 29 = .ok (.iconst 1, 1) := by decide +kernel
theorem dX11_four_30 : decode cX11_four 30 = .ok (.iadd, 1) := by decide +kernel
theorem dX11_four_31 : decode cX11_four 31 = .ok (.iastore, 1) := by decide +kernel
theorem dX11_four_32 : decode cX11_four 32 = .ok (.iinc 2 (-8), 3) := by decide +kernel
theorem dX11_four_35 : decode cX11_four 35 = .ok (.goto (-32), 3) := by decide +kernel
theorem dX11_four_38 : decode cX11_four 38 = .ok (.return_, 1) := by decide +kernel
theorem dX11_end_0 : decode cX11_end 0 = .ok (.aload_n 0, 1) := by decide +kernel
theorem dX11_end_1 : decode cX11_end 1 = .ok (.iconst 0, 1) := by decide +kernel
theorem dX11_end_2 : decode cX11_end 2 = .ok (.putfield 220, 3) := by decide +kernel
theorem dX11_end_5 : decode cX11_end 5 = .ok (.iload_n 1, 1) := by decide +kernel
theorem dX11_end_6 : decode cX11_end 6 = .ok (.iconst 0, 1) := by decide +kernel
theorem dX11_end_7 : decode cX11_end 7 = .ok (.aload_n 0, 1) := by decide +kernel
theorem dX11_end_8 : decode cX11_end 8 = .ok (.getfield 13, 3) := by decide +kernel
theorem dX11_end_11 : decode cX11_end 11 = .ok (.iconst 0, 1) := by decide +kernel
theorem dX11_end_12 : decode cX11_end 12 = .ok (.iaload, 1) := by decide +kernel
theorem dX11_end_13 : decode cX11_end 13 = .ok (.invokestatic 232, 3) := by decide +kernel
theorem dX11_end_16 : decode cX11_end 16 = .ok (.ifCond .ne 5, 3) := by decide +kernel
theorem dX11_end_19 : decode cX11_end 19 = .ok (.iconst (-1), 1) := by decide +kernel
theorem dX11_end_20 : decode cX11_end 20 = .ok (.ireturn, 1) := by decide +kernel
theorem dX11_end_21 : decode cX11_end 21 = .ok (.aload_n 0, 1) := by decide +kernel
theorem dX11_end_22 : decode cX11_end 22 = .ok (.getfield 13, 3) := by decide +kernel
theorem dX11_end_25 : decode cX11_end 25 = .ok (.iconst 0, 1) := by decide +kernel
theorem dX11_end_26 : decode cX11_end 26 = .ok (.iload_n 1, 1) := by decide +kernel
theorem dX11_end_27 : decode cX11_end 27 = .ok (.iastore, 1) := by decide +kernel
theorem dX11_end_28 : decode cX11_end 28 = .ok (.iload_n 1, 1) := by decide +kernel
theorem dX11_end_29 : decode cX11_end 29 = .ok (.ireturn, 1) := by decide +kernel
theorem dX11_see_0 : decode cX11_see 0 = .ok (.aload_n 0, 1) := by decide +kernel
theorem dX11_see_1 : decode cX11_see 1 = .ok (.getfield 338, 3) := by decide +kernel
theorem dX11_see_4 : decode cX11_see 4 = .ok (.aload_n 0, 1) := by decide +kernel
theorem dX11_see_5 : decode cX11_see 5 = .ok (.getfield 341, 3) := by decide +kernel
theorem dX11_see_8 : decode cX11_see 8 = .ok (.if_icmp .ge 19, 3) := by decide +kernel
theorem dX11_see_11 : decode cX11_see 11 = .ok (.aload_n 0, 1) := by decide +kernel
theorem dX11_see_12 : decode cX11_see 12 = .ok (.getfield 7, 3) := by decide +kernel
theorem dX11_see_15 : decode cX11_see 15 = .ok (.aload_n 0, 1) := by decide +kernel
theorem dX11_see_16 : decode cX11_see 16 = .ok (.getfield 338, 3) := by decide +kernel
theorem dX11_see_19 : decode cX11_see 19 = .ok (.baload, 1) := by decide +kernel
theorem dX11_see_20 : decode cX11_see 20 = .ok (.sipush 255, 3) := by decide +kernel
theorem dX11_see_23 : decode cX11_see 23 = .ok (.iand, 1) := by decide +kernel
theorem dX11_see_24 : decode cX11_see 24 = .ok (.goto 4, 3) := by decide +kernel
theorem dX11_see_27 : decode cX11_see 27 = .ok (.iconst (-1), 1) := by decide +kernel
theorem dX11_see_28 : decode cX11_see 28 = .ok (.ireturn, 1) := by decide +kernel
theorem dX11_token_0 : decode cX11_token 0 = .ok (.aload_n 0, 1) := by decide +kernel
theorem dX11_token_1 : decode cX11_token 1 = .ok (.invokevirtual 344, 3) := by decide +kernel
theorem dX11_token_4 : decode cX11_token 4 = .ok (.bipush 10, 2) := by decide +kernel
theorem dX11_token_6 : decode cX11_token 6 = .ok (.if_icmp .eq 12, 3) := by decide +kernel
theorem dX11_token_9 : decode cX11_token 9 = .ok (.aload_n 0, 1) := by decide +kernel
theorem dX11_token_10 : decode cX11_token 10 = .ok (.invokevirtual 344, 3) := by decide +kernel
theorem dX11_token_13 : decode cX11_token 13 = .ok (.bipush 32, 2) := by decide +kernel
theorem dX11_token_15 : decode cX11_token 15 = .ok (.if_icmp .ne 16, 3) := by decide +kernel
theorem dX11_token_18 : decode cX11_token 18 = .ok (.aload_n 0, 1) := by decide +kernel
theorem dX11_token_19 : decode cX11_token 19 = .ok (.dup, 1) := by decide +kernel
theorem dX11_token_20 : decode cX11_token 20 = .ok (.getfield 338, 3) := by decide +kernel
theorem dX11_token_23 : decode cX11_token 23 = .ok (.iconst 1, 1) := by decide +kernel
theorem dX11_token_24 : decode cX11_token 24 = .ok (.iadd, 1) := by decide +kernel
theorem dX11_token_25 : decode cX11_token 25 = .ok (.putfield 338, 3) := by decide +kernel
theorem dX11_token_28 : decode cX11_token 28 = .ok (.goto (-28), 3) := by decide +kernel
theorem dX11_token_31 : decode cX11_token 31 = .ok (.aload_n 0, 1) := by decide +kernel
theorem dX11_token_32 : decode cX11_token 32 = .ok (.aload_n 0, 1) := by decide +kernel
theorem dX11_token_33 : decode cX11_token 33 = .ok (.getfield 338, 3) := by decide +kernel
theorem dX11_token_36 : decode cX11_token 36 = .ok (.putfield 347, 3) := by decide +kernel
theorem dX11_token_39 : decode cX11_token 39 = .ok (.aload_n 0, 1) := by decide +kernel
theorem dX11_token_40 : decode cX11_token 40 = .ok (.invokevirtual 344, 3) := by decide +kernel
theorem dX11_token_43 : decode cX11_token 43 = .ok (.istore_n 1, 1) := by decide +kernel
theorem dX11_token_44 : decode cX11_token 44 = .ok (.aload_n 0, 1) := by decide +kernel
theorem dX11_token_45 : decode cX11_token 45 = .ok (.iload_n 1, 1) := by decide +kernel
theorem dX11_token_46 : decode cX11_token 46 = .ok (.putfield 350, 3) := by decide +kernel
theorem dX11_token_49 : decode cX11_token 49 = .ok (.aload_n 0, 1) := by decide +kernel
theorem dX11_token_50 : decode cX11_token 50 = .ok (.lconst 0, 1) := by decide +kernel
theorem dX11_token_51 : decode cX11_token 51 = .ok (.putfield 353, 3) := by decide +kernel
theorem dX11_token_54 : decode cX11_token 54 = .ok (.iconst 0, 1) := by decide +kernel
theorem dX11_token_55 : decode cX11_token 55 = .ok (.istore_n 2, 1) := by decide +kernel
theorem dX11_token_56 : decode cX11_token 56 = .ok (.iload_n 1, 1) := by decide +kernel
theorem dX11_token_57 : decode cX11_token 57 = .ok (.ifCond .ge 11, 3) := by decide +kernel
theorem dX11_token_60 : decode cX11_token 60 = .ok (.aload_n 0, 1) := by decide +kernel
theorem dX11_token_61 : decode cX11_token 61 = .ok (.iconst 0, 1) := by decide +kernel
theorem dX11_token_62 : decode cX11_token 62 = .ok (.putfield 357, 3) := by decide +kernel
theorem dX11_token_65 : decode cX11_token 65 = .ok (.goto 230, 3) := by decide +kernel
theorem dX11_token_68 : decode cX11_token 68 = .ok (.iload_n 1, 1) := by decide +kernel
theorem dX11_token_69 : decode cX11_token 69 = .ok (.bipush 97, 2) := by decide +kernel
theorem dX11_token_71 : decode cX11_token 71 = .ok (.bipush 122, 2) := by decide +kernel
theorem dX11_token_73 : decode cX11_token 73 = .ok (.invokestatic 232, 3) := by decide +kernel
theorem dX11_token_76 : decode cX11_token 76 = .ok (.ifCond .eq 76, 3) := by decide +kernel
theorem dX11_token_79 : decode cX11_token 79 = .ok (.aload_n 0, 1) := by decide +kernel
theorem dX11_token_80 : decode cX11_token 80 = .ok (.invokevirtual 344, 3) := by decide +kernel
theorem dX11_token_83 : decode cX11_token 83 = .ok (.bipush 97, 2) := by decide +kernel
theorem dX11_token_85 : decode cX11_token 85 = .ok (.bipush 122, 2) := by decide +kernel
theorem dX11_token_87 : decode cX11_token 87 = .ok (.invokestatic 232, 3) := by decide +kernel
theorem dX11_token_90 : decode cX11_token 90 = .ok (.ifCond .eq 36, 3) := by decide +kernel
theorem dX11_token_93 : decode cX11_token 93 = .ok (.aload_n 0, 1) := by decide +kernel
theorem dX11_token_94 : decode cX11_token 94 = .ok (.aload_n 0, 1) := by decide +kernel
theorem dX11_token_95 : decode cX11_token 95 = .ok (.getfield 353, 3) := by decide +kernel
theorem dX11_token_98 : decode cX11_token 98 = .ok (.bipush 8, 2) := by decide +kernel
theorem dX11_token_100 : decode cX11_token 100 = .ok (.lshl, 1) := by decide +kernel
theorem dX11_token_101 : decode cX11_token 101 = .ok (.aload_n 0, 1) := by decide +kernel
theorem dX11_token_102 : decode cX11_token 102 = .ok (.invokevirtual 344, 3) := by decide +kernel
theorem dX11_token_105 : decode cX11_token 105 = .ok (.i2l, 1) := by decide +kernel
theorem dX11_token_106 : decode cX11_token 106 = .ok (.lor, 1) := by decide +kernel
theorem dX11_token_107 : decode cX11_token 107 = .ok (.putfield 353, 3) := by decide +kernel
theorem dX11_token_110 : decode cX11_token 110 = .ok (.aload_n 0, 1) := by decide +kernel
theorem dX11_token_111 : decode cX11_token 111 = .ok (.dup, 1) := by decide +kernel
theorem dX11_token_112 : decode cX11_token 112 = .ok (.getfield 338, 3) := by decide +kernel
theorem dX11_token_115 : decode cX11_token 115 = .ok (.iconst 1, 1) := by decide +kernel
theorem dX11_token_116 : decode cX11_token 116 = .ok (.iadd, 1) := by decide +kernel
theorem dX11_token_117 : decode cX11_token 117 = .ok (.putfield 338, 3) := by decide +kernel
theorem dX11_token_120 : decode cX11_token 120 = .ok (.iinc 2 1, 3) := by decide +kernel
theorem dX11_token_123 : decode cX11_token 123 = .ok (.goto (-44), 3) := by decide +kernel
theorem dX11_token_126 : decode cX11_token 126 = .ok (.aload_n 0, 1) := by decide +kernel
theorem dX11_token_127 : decode cX11_token 127 = .ok (.iload_n 2, 1) := by decide +kernel
theorem dX11_token_128 : decode cX11_token 128 = .ok (.bipush 8, 2) := by decide +kernel
theorem dX11_token_130 : decode cX11_token 130 = .ok (.if_icmp .le 7, 3) := by decide +kernel
theorem dX11_token_133 : decode cX11_token 133 = .ok (.lconst 0, 1) := by decide +kernel
theorem dX11_token_134 : decode cX11_token 134 = .ok (.goto 7, 3) := by decide +kernel
theorem dX11_token_137 : decode cX11_token 137 = .ok (.aload_n 0, 1) := by decide +kernel
theorem dX11_token_138 : decode cX11_token 138 = .ok (.getfield 353, 3) := by decide +kernel
theorem dX11_token_141 : decode cX11_token 141 = .ok (.putfield 353, 3) := by decide +kernel
theorem dX11_token_144 : decode cX11_token 144 = .ok (.aload_n 0, 1) := by decide +kernel
theorem dX11_token_145 : decode cX11_token 145 = .ok (.iconst 2, 1) := by decide +kernel
theorem dX11_token_146 : decode cX11_token 146 = .ok (.putfield 357, 3) := by decide +kernel
theorem dX11_token_149 : decode cX11_token 149 = .ok (.goto 146, 3) := by decide +kernel
theorem dX11_token_152 : decode cX11_token 152 = .ok (.iload_n 1, 1) := by decide +kernel
theorem dX11_token_153 : decode cX11_token 153 = .ok (.bipush 48, 2) := by decide +kernel
theorem dX11_token_155 : decode cX11_token 155 = .ok (.bipush 57, 2) := by decide +kernel
theorem dX11_token_157 : decode cX11_token 157 = .ok (.invokestatic 232, 3) := by decide +kernel
theorem dX11_token_160 : decode cX11_token 160 = .ok (.ifCond .eq 86, 3) := by decide +kernel
theorem dX11_token_163 : decode cX11_token 163 = .ok (.aload_n 0, 1) := by decide +kernel
theorem dX11_token_164 : decode cX11_token 164 = .ok (.iconst 0, 1) := by decide +kernel
theorem dX11_token_165 : decode cX11_token 165 = .ok (.putfield 350, 3) := by decide +kernel
theorem dX11_token_168 : decode cX11_token 168 = .ok (.aload_n 0, 1) := by decide +kernel
theorem dX11_token_169 : decode cX11_token 169 = .ok (.invokevirtual 344, 3) := by decide +kernel
theorem dX11_token_172 : decode cX11_token 172 = .ok (.bipush 48, 2) := by decide +kernel
theorem dX11_token_174 : decode cX11_token 174 = .ok (.bipush 57, 2) := by decide +kernel
theorem dX11_token_176 : decode cX11_token 176 = .ok (.invokestatic 232, 3) := by decide +kernel
theorem dX11_token_179 : decode cX11_token 179 = .ok (.ifCond .eq 50, 3) := by decide +kernel
theorem dX11_token_182 : decode cX11_token 182 = .ok (.aload_n 0, 1) := by decide +kernel
theorem dX11_token_183 : decode cX11_token 183 = .ok (.iload_n 2, 1) := by decide +kernel
theorem dX11_token_184 : decode cX11_token 184 = .ok (.iconst 4, 1) := by decide +kernel
theorem dX11_token_185 : decode cX11_token 185 = .ok (.if_icmp .ge 21, 3) := by decide +kernel
theorem dX11_token_188 : decode cX11_token 188 = .ok (.bipush 10, 2) := by decide +kernel
theorem dX11_token_190 : decode cX11_token 190 = .ok (.aload_n 0, 1) := by decide +kernel
theorem dX11_token_191 : decode cX11_token 191 = .ok (.getfield 350, 3) := by decide +kernel
theorem dX11_token_194 : decode cX11_token 194 = .ok (.imul, 1) := by decide +kernel
theorem dX11_token_195 : decode cX11_token 195 = .ok (.aload_n 0, 1) := by decide +kernel
theorem dX11_token_196 : decode cX11_token 196 = .ok (.invokevirtual 344, 3) := by decide +kernel
theorem dX11_token_199 : decode cX11_token 199 = .ok (.iadd, 1) := by decide +kernel
theorem dX11_token_200 : decode cX11_token 200 = .ok (.bipush 48, 2) := by decide +kernel
theorem dX11_token_202 : decode cX11_token 202 = .ok (.isub, 1) := by decide +kernel
theorem dX11_token_203 : decode cX11_token 203 = .ok (.goto 7, 3) := by decide +kernel
theorem dX11_token_206 : decode cX11_token 206 = .ok (.aload_n 0, 1) := by decide +kernel
theorem dX11_token_207 : decode cX11_token 207 = .ok (.getfield 350, 3) := by decide +kernel
theorem dX11_token_210 : decode cX11_token 210 = .ok (.putfield 350, 3) := by decide +kernel
theorem dX11_token_213 : decode cX11_token 213 = .ok (.aload_n 0, 1) := by decide +kernel
theorem dX11_token_214 : decode cX11_token 214 = .ok (.dup, 1) := by decide +kernel
theorem dX11_token_215 : decode cX11_token 215 = .ok (.getfield 338, 3) := by decide +kernel
theorem dX11_token_218 : decode cX11_token 218 = .ok (.iconst 1, 1) := by decide +kernel
theorem dX11_token_219 : decode cX11_token 219 = .ok (.iadd, 1) := by decide +kernel
theorem dX11_token_220 : decode cX11_token 220 = .ok (.putfield 338, 3) := by decide +kernel
theorem dX11_token_223 : decode cX11_token 223 = .ok (.iinc 2 1, 3) := by decide +kernel
theorem dX11_token_226 : decode cX11_token 226 = .ok (.goto (-58), 3) := by decide +kernel
theorem dX11_token_229 : decode cX11_token 229 = .ok (.aload_n 0, 1) := by decide +kernel
theorem dX11_token_230 : decode cX11_token 230 = .ok (.iload_n 2, 1) := by decide +kernel
theorem dX11_token_231 : decode cX11_token 231 = .ok (.iconst 4, 1) := by decide +kernel
theorem dX11_token_232 : decode cX11_token 232 = .ok (.if_icmp .le 7, 3) := by decide +kernel
theorem dX11_token_235 : decode cX11_token 235 = .ok (.iconst 1, 1) := by decide +kernel
theorem dX11_token_236 : decode cX11_token 236 = .ok (.goto 4, 3) := by decide +kernel
theorem dX11_token_239 : decode cX11_token 239 = .ok (.iconst 3, 1) := by decide +kernel
theorem dX11_token_240 : decode cX11_token 240 = .ok (.putfield 357, 3) := by decide +kernel
theorem dX11_token_243 : decode cX11_token 243 = .ok (.goto 52, 3) := by decide +kernel
theorem dX11_token_246 : decode cX11_token 246 = .ok (.aload_n 0, 1) := by decide +kernel
theorem dX11_token_247 : decode cX11_token 247 = .ok (.dup, 1) := by decide +kernel
theorem dX11_token_248 : decode cX11_token 248 = .ok (.getfield 338, 3) := by decide +kernel
theorem dX11_token_251 : decode cX11_token 251 = .ok (.iconst 1, 1) := by decide +kernel
theorem dX11_token_252 : decode cX11_token 252 = .ok (.iadd, 1) := by decide +kernel
theorem dX11_token_253 : decode cX11_token 253 = .ok (.putfield 338, 3) := by decide +kernel
theorem dX11_token_256 : decode cX11_token 256 = .ok (.aload_n 0, 1) := by decide +kernel
theorem dX11_token_257 : decode cX11_token 257 = .ok (.iload_n 1, 1) := by decide +kernel
theorem dX11_token_258 : decode cX11_token 258 = .ok (.bipush 58, 2) := by decide +kernel
theorem dX11_token_260 : decode cX11_token 260 = .ok (.if_icmp .eq 27, 3) := by decide +kernel
theorem dX11_token_263 : decode cX11_token 263 = .ok (.iload_n 1, 1) := by decide +kernel
theorem dX11_token_264 : decode cX11_token 264 = .ok (.bipush 59, 2) := by decide +kernel
theorem dX11_token_266 : decode cX11_token 266 = .ok (.if_icmp .eq 21, 3) := by decide +kernel
theorem dX11_token_269 : decode cX11_token 269 = .ok (.iload_n 1, 1) := by decide +kernel
theorem dX11_token_270 : decode cX11_token 270 = .ok (.bipush 60, 2) := by decide +kernel
theorem dX11_token_272 : decode cX11_token 272 = .ok (.if_icmp .eq 15, 3) := by decide +kernel
theorem dX11_token_275 : decode cX11_token 275 = .ok (.iload_n 1, 1) := by decide +kernel
theorem dX11_token_276 : decode cX11_token 276 = .ok (.bipush 62, 2) := by decide +kernel
theorem dX11_token_278 : decode cX11_token 278 = .ok (.if_icmp .eq 9, 3) := by decide +kernel
theorem dX11_token_281 : decode cX11_token 281 = .ok (.iload_n 1, 1) := by decide +kernel
theorem dX11_token_282 : decode cX11_token 282 = .ok (.bipush 61, 2) := by decide +kernel
theorem dX11_token_284 : decode cX11_token 284 = .ok (.if_icmp .ne 7, 3) := by decide +kernel
theorem dX11_token_287 : decode cX11_token 287 = .ok (.iconst 4, 1) := by decide +kernel
theorem dX11_token_288 : decode cX11_token 288 = .ok (.goto 4, 3) := by decide +kernel
theorem dX11_token_291 : decode cX11_token 291 = .ok (.iconst 1, 1) := by decide +kernel
theorem dX11_token_292 : decode cX11_token 292 = .ok (.putfield 357, 3) := by decide +kernel
theorem dX11_token_295 : decode cX11_token 295 = .ok (.return_, 1) := by decide +kernel
theorem dX11_isWord_0 : decode cX11_isWord 0 = .ok (.aload_n 0, 1) := by decide +kernel
theorem dX11_isWord_1 : decode cX11_isWord 1 = .ok (.getfield 357, 3) := by decide +kernel
theorem dX11_isWord_4 : decode cX11_isWord 4 = .ok (.iconst 2, 1) := by decide +kernel
theorem dX11_isWord_5 : decode cX11_isWord 5 = .ok (.if_icmp .ne 16, 3) := by decide +kernel
theorem dX11_isWord_8 : decode cX11_isWord 8 = .ok (.aload_n 0, 1) := by decide +kernel
theorem dX11_isWord_9 : decode cX11_isWord 9 = .ok (.getfield 353, 3) := by decide +kernel
theorem dX11_isWord_12 : decode cX11_isWord 12 = .ok (.lload_n 1, 1) := by decide +kernel
theorem dX11_isWord_13 : decode cX11_isWord 13 = .ok (.lcmp, 1) := by decide +kernel
theorem dX11_isWord_14 : decode cX11_isWord 14 = .ok (.ifCond .ne 7, 3) := by decide +kernel
theorem dX11_isWord_17 : decode cX11_isWord 17 = .ok (.iconst 1, 1) := by decide +kernel
theorem dX11_isWord_18 : decode cX11_isWord 18 = .ok (.goto 4, 3) := by decide +kernel
theorem dX11_isWord_21 : decode cX11_isWord 21 = .ok (.iconst 0, 1) := by decide +kernel
theorem dX11_isWord_22 : decode cX11_isWord 22 = .ok (.ireturn, 1) := by decide +kernel
theorem dX11_wrong_0 : decode cX11_wrong 0 = .ok (.aload_n 0, 1) := by decide +kernel
theorem dX11_wrong_1 : decode cX11_wrong 1 = .ok (.aload_n 0, 1) := by decide +kernel
theorem dX11_wrong_2 : decode cX11_wrong 2 = .ok (.getfield 347, 3) := by decide +kernel
theorem dX11_wrong_5 : decode cX11_wrong 5 = .ok (.putfield 360, 3) := by decide +kernel
theorem dX11_wrong_8 : decode cX11_wrong 8 = .ok (.iconst 0, 1) := by decide +kernel
theorem dX11_wrong_9 : decode cX11_wrong 9 = .ok (.ireturn, 1) := by decide +kernel
theorem dX11_later_0 : decode cX11_later 0 = .ok (.aload_n 0, 1) := by decide +kernel
theorem dX11_later_1 : decode cX11_later 1 = .ok (.getfield 363, 3) := by decide +kernel
theorem dX11_later_4 : decode cX11_later 4 = .ok (.ifCond .ne 16, 3) := by decide +kernel
theorem dX11_later_7 : decode cX11_later 7 = .ok (.aload_n 0, 1) := by decide +kernel
theorem dX11_later_8 : decode cX11_later 8 = .ok (.iload_n 1, 1) := by decide +kernel
theorem dX11_later_9 : decode cX11_later 9 = .ok (.putfield 363, 3) := by decide +kernel
theorem dX11_later_12 : decode cX11_later 12 = .ok (.aload_n 0, 1) := by decide +kernel
theorem dX11_later_13 : decode cX11_later 13 = .ok (.aload_n 0, 1) := by decide +kernel
theorem dX11_later_14 : decode cX11_later 14 = .ok (.getfield 347, 3) := by decide +kernel
theorem dX11_later_17 : decode cX11_later 17 = .ok (.putfield 366, 3) := by decide +kernel
theorem dX11_later_20 : decode cX11_later 20 = .ok (.return_, 1) := by decide +kernel
theorem dX11_need_0 : decode cX11_need 0 = .ok (.aload_n 0, 1) := by decide +kernel
theorem dX11_need_1 : decode cX11_need 1 = .ok (.getfield 357, 3) := by decide +kernel
theorem dX11_need_4 : decode cX11_need 4 = .ok (.iconst 4, 1) := by decide +kernel
theorem dX11_need_5 : decode cX11_need 5 = .ok (.if_icmp .ne 11, 3) := by decide +kernel
theorem dX11_need_8 : decode cX11_need 8 = .ok (.aload_n 0, 1) := by decide +kernel
theorem dX11_need_9 : decode cX11_need 9 = .ok (.getfield 350, 3) := by decide +kernel
theorem dX11_need_12 : decode cX11_need 12 = .ok (.iload_n 1, 1) := by decide +kernel
theorem dX11_need_13 : decode cX11_need 13 = .ok (.if_icmp .eq 8, 3) := by decide +kernel
theorem dX11_need_16 : decode cX11_need 16 = .ok (.aload_n 0, 1) := by decide +kernel
theorem dX11_need_17 : decode cX11_need 17 = .ok (.invokevirtual 369, 3) := by decide +kernel
theorem dX11_need_20 : decode cX11_need 20 = .ok (.ireturn, 1) := by decide +kernel
theorem dX11_need_21 : decode cX11_need 21 = .ok (.aload_n 0, 1) := by decide +kernel
theorem dX11_need_22 : decode cX11_need 22 = .ok (.invokevirtual 373, 3) := by decide +kernel
theorem dX11_need_25 : decode cX11_need 25 = .ok (.iconst 1, 1) := by decide +kernel
theorem dX11_need_26 : decode cX11_need 26 = .ok (.ireturn, 1) := by decide +kernel
theorem dX11_whatIs_0 : decode cX11_whatIs 0 = .ok (.aload_n 0, 1) := by decide +kernel
theorem dX11_whatIs_1 : decode cX11_whatIs 1 = .ok (.ldc2_w 376, 3) := by decide +kernel
theorem dX11_whatIs_4 : decode cX11_whatIs 4 = .ok (.invokevirtual 378, 3) := by decide +kernel
theorem dX11_whatIs_7 : decode cX11_whatIs 7 = .ok (.ifCond .eq 7, 3) := by decide +kernel
theorem dX11_whatIs_10 : decode cX11_whatIs 10 = .ok (.iconst 0, 1) := by decide +kernel
theorem dX11_whatIs_11 : decode cX11_whatIs 11 = .ok (.goto 134, 3) := by decide +kernel
theorem dX11_whatIs_14 : decode cX11_whatIs 14 = .ok (.aload_n 0, 1) := by decide +kernel
theorem dX11_whatIs_15 : decode cX11_whatIs 15 = .ok (.ldc2_w 382, 3) := by decide +kernel
theorem dX11_whatIs_18 : decode cX11_whatIs 18 = .ok (.invokevirtual 378, 3) := by decide +kernel
theorem dX11_whatIs_21 : decode cX11_whatIs 21 = .ok (.ifCond .eq 7, 3) := by decide +kernel
theorem dX11_whatIs_24 : decode cX11_whatIs 24 = .ok (.iconst 1, 1) := by decide +kernel
theorem dX11_whatIs_25 : decode cX11_whatIs 25 = .ok (.goto 120, 3) := by decide +kernel
theorem dX11_whatIs_28 : decode cX11_whatIs 28 = .ok (.aload_n 0, 1) := by decide +kernel
theorem dX11_whatIs_29 : decode cX11_whatIs 29 = .ok (.ldc2_w 384, 3) := by decide +kernel
theorem dX11_whatIs_32 : decode cX11_whatIs 32 = .ok (.invokevirtual 378, 3) := by decide +kernel
theorem dX11_whatIs_35 : decode cX11_whatIs 35 = .ok (.ifCond .eq 7, 3) := by decide +kernel
theorem dX11_whatIs_38 : decode cX11_whatIs 38 = .ok (.iconst 2, 1) := by decide +kernel
theorem dX11_whatIs_39 : decode cX11_whatIs 39 = .ok (.goto 106, 3) := by decide +kernel
theorem dX11_whatIs_42 : decode cX11_whatIs 42 = .ok (.aload_n 0, 1) := by decide +kernel
theorem dX11_whatIs_43 : decode cX11_whatIs 43 = .ok (.ldc2_w 386, 3) := by decide +kernel
theorem dX11_whatIs_46 : decode cX11_whatIs 46 = .ok (.invokevirtual 378, 3) := by decide +kernel
theorem dX11_whatIs_49 : decode cX11_whatIs 49 = .ok (.ifCond .eq 7, 3) := by decide +kernel
theorem dX11_whatIs_52 : decode cX11_whatIs 52 = .ok (.iconst 3, 1) := by decide +kernel
theorem dX11_whatIs_53 : decode cX11_whatIs 53 = .ok (.goto 92, 3) := by decide +kernel
theorem dX11_whatIs_56 : decode cX11_whatIs 56 = .ok (.aload_n 0, 1) := by decide +kernel
theorem dX11_whatIs_57 : decode cX11_whatIs 57 = .ok (.ldc2_w 388, 3) := by decide +kernel
theorem dX11_whatIs_60 : decode cX11_whatIs 60 = .ok (.invokevirtual 378, 3) := by decide +kernel
theorem dX11_whatIs_63 : decode cX11_whatIs 63 = .ok (.ifCond .eq 7, 3) := by decide +kernel
theorem dX11_whatIs_66 : decode cX11_whatIs 66 = .ok (.iconst 4, 1) := by decide +kernel
theorem dX11_whatIs_67 : decode cX11_whatIs 67 = .ok (.goto 78, 3) := by decide +kernel
theorem dX11_whatIs_70 : decode cX11_whatIs 70 = .ok (.aload_n 0, 1) := by decide +kernel
theorem dX11_whatIs_71 : decode cX11_whatIs 71 = .ok (.ldc2_w 390, 3) := by decide +kernel
theorem dX11_whatIs_74 : decode cX11_whatIs 74 = .ok (.invokevirtual 378, 3) := by decide +kernel
theorem dX11_whatIs_77 : decode cX11_whatIs 77 = .ok (.ifCond .eq 7, 3) := by decide +kernel
theorem dX11_whatIs_80 : decode cX11_whatIs 80 = .ok (.iconst 5, 1) := by decide +kernel
theorem dX11_whatIs_81 : decode cX11_whatIs 81 = .ok (.goto 64, 3) := by decide +kernel
theorem dX11_whatIs_84 : decode cX11_whatIs 84 = .ok (.aload_n 0, 1) := by decide +kernel
theorem dX11_whatIs_85 : decode cX11_whatIs 85 = .ok (.ldc2_w 392, 3) := by decide +kernel
theorem dX11_whatIs_88 : decode cX11_whatIs 88 = .ok (.invokevirtual 378, 3) := by decide +kernel
theorem dX11_whatIs_91 : decode cX11_whatIs 91 = .ok (.ifCond .eq 8, 3) := by decide +kernel
theorem dX11_whatIs_94 : decode cX11_whatIs 94 = .ok (.bipush 6, 2) := by decide +kernel
theorem dX11_whatIs_96 : decode cX11_whatIs 96 = .ok (.goto 49, 3) := by decide +kernel
theorem dX11_whatIs_99 : decode cX11_whatIs 99 = .ok (.aload_n 0, 1) := by decide +kernel
theorem dX11_whatIs_100 : decode cX11_whatIs 100 = .ok (.ldc2_w 394, 3) := by decide +kernel
theorem dX11_whatIs_103 : decode cX11_whatIs 103 = .ok (.invokevirtual 378, 3) := by decide +kernel
theorem dX11_whatIs_106 : decode cX11_whatIs 106 = .ok (.ifCond .eq 8, 3) := by decide +kernel
theorem dX11_whatIs_109 : decode cX11_whatIs 109 = .ok (.bipush 7, 2) := by decide +kernel
theorem dX11_whatIs_111 : decode cX11_whatIs 111 = .ok (.goto 34, 3) := by decide +kernel
theorem dX11_whatIs_114 : decode cX11_whatIs 114 = .ok (.aload_n 0, 1) := by decide +kernel
theorem dX11_whatIs_115 : decode cX11_whatIs 115 = .ok (.ldc2_w 396, 3) := by decide +kernel
theorem dX11_whatIs_118 : decode cX11_whatIs 118 = .ok (.invokevirtual 378, 3) := by decide +kernel
theorem dX11_whatIs_121 : decode cX11_whatIs 121 = .ok (.ifCond .eq 8, 3) := by decide +kernel
theorem dX11_whatIs_124 : decode cX11_whatIs 124 = .ok (.bipush 8, 2) := by decide +kernel
theorem dX11_whatIs_126 : decode cX11_whatIs 126 = .ok (.goto 19, 3) := by decide +kernel
theorem dX11_whatIs_129 : decode cX11_whatIs 129 = .ok (.aload_n 0, 1) := by decide +kernel
theorem dX11_whatIs_130 : decode cX11_whatIs 130 = .ok (.ldc2_w 398, 3) := by decide +kernel
theorem dX11_whatIs_133 : decode cX11_whatIs 133 = .ok (.invokevirtual 378, 3) := by decide +kernel
theorem dX11_whatIs_136 : decode cX11_whatIs 136 = .ok (.ifCond .eq 8, 3) := by decide +kernel
theorem dX11_whatIs_139 : decode cX11_whatIs 139 = .ok (.bipush 9, 2) := by decide +kernel
theorem dX11_whatIs_141 : decode cX11_whatIs 141 = .ok (.goto 4, 3) := by decide +kernel
theorem dX11_whatIs_144 : decode cX11_whatIs 144 = .ok (.iconst (-1), 1) := by decide +kernel
theorem dX11_whatIs_145 : decode cX11_whatIs 145 = .ok (.ireturn, 1) := by decide +kernel
theorem dX11_oneTest_0 : decode cX11_oneTest 0 = .ok (.iload_n 2, 1) := by decide +kernel
theorem dX11_oneTest_1 : decode cX11_oneTest 1 = .ok (.iconst 4, 1) := by decide +kernel
theorem dX11_oneTest_2 : decode cX11_oneTest 2 = .ok (.if_icmp .ge 11, 3) := by decide +kernel
theorem dX11_oneTest_5 : decode cX11_oneTest 5 = .ok (.iconst 4, 1) := by decide +kernel
theorem dX11_oneTest_6 : decode cX11_oneTest 6 = .ok (.iload_n 1, 1) := by decide +kernel
theorem dX11_oneTest_7 : decode cX11_oneTest 7 = .ok (.imul, 1) := by decide +kernel
theorem dX11_oneTest_8 : decode cX11_oneTest 8 = .ok (.iload_n 2, 1) := by decide +kernel
theorem dX11_oneTest_9 : decode cX11_oneTest 9 = .ok (.iadd, 1) := by decide +kernel
theorem dX11_oneTest_10 : decode cX11_oneTest 10 = .ok (.goto 5, 3) := by decide +kernel
theorem dX11_oneTest_13 : decode cX11_oneTest 13 = .ok (.bipush 68, 2) := by decide +kernel
theorem dX11_oneTest_15 : decode cX11_oneTest 15 = .ok (.istore_n 3, 1) := by decide +kernel
theorem dX11_oneTest_16 : decode cX11_oneTest 16 = .ok (.iload_n 2, 1) := by decide +kernel
theorem dX11_oneTest_17 : decode cX11_oneTest 17 = .ok (.iconst 4, 1) := by decide +kernel
theorem dX11_oneTest_18 : decode cX11_oneTest 18 = .ok (.if_icmp .ne 8, 3) := by decide +kernel
theorem dX11_oneTest_21 : decode cX11_oneTest 21 = .ok (.aload_n 0, 1) := by decide +kernel
theorem dX11_oneTest_22 : decode cX11_oneTest 22 = .ok (.iconst 3, 1) := by decide +kernel
theorem dX11_oneTest_23 : decode cX11_oneTest 23 = .ok (.invokevirtual 400, 3) := by decide +kernel
theorem dX11_oneTest_26 : decode cX11_oneTest 26 = .ok (.aload_n 0, 1) := by decide +kernel
theorem dX11_oneTest_27 : decode cX11_oneTest 27 = .ok (.getfield 202, 3) := by decide +kernel
theorem dX11_oneTest_30 : decode cX11_oneTest 30 = .ok (.iload_n 3, 1) := by decide +kernel
theorem dX11_oneTest_31 : decode cX11_oneTest 31 = .ok (.aload_n 0, 1) := by decide +kernel
theorem dX11_oneTest_32 : decode cX11_oneTest 32 = .ok (.ldc2_w 403, 3) := by decide +kernel
theorem dX11_oneTest_35 : decode cX11_oneTest 35 = .ok (.invokevirtual 378, 3) := by decide +kernel
theorem dX11_oneTest_38 : decode cX11_oneTest 38 = .ok (.bastore, 1) := by decide +kernel
theorem dX11_oneTest_39 : decode cX11_oneTest 39 = .ok (.aload_n 0, 1) := by decide +kernel
theorem dX11_oneTest_40 : decode cX11_oneTest 40 = .ok (.getfield 202, 3) := by decide +kernel
theorem dX11_oneTest_43 : decode cX11_oneTest 43 = .ok (.iload_n 3, 1) := by decide +kernel
theorem dX11_oneTest_44 : decode cX11_oneTest 44 = .ok (.baload, 1) := by decide +kernel
theorem dX11_oneTest_45 : decode cX11_oneTest 45 = .ok (.ifCond .eq 7, 3) := by decide +kernel
theorem dX11_oneTest_48 : decode cX11_oneTest 48 = .ok (.aload_n 0, 1) := by decide +kernel
theorem dX11_oneTest_49 : decode cX11_oneTest 49 = .ok (.invokevirtual 373, 3) := by decide +kernel
theorem dX11_oneTest_52 : decode cX11_oneTest 52 = .ok (.aload_n 0, 1) := by decide +kernel
theorem dX11_oneTest_53 : decode cX11_oneTest 53 = .ok (.getfield 193, 3) := by decide +kernel
theorem dX11_oneTest_56 : decode cX11_oneTest 56 = .ok (.iload_n 3, 1) := by decide +kernel
theorem dX11_oneTest_57 : decode cX11_oneTest 57 = .ok (.aload_n 0, 1) := by decide +kernel
theorem dX11_oneTest_58 : decode cX11_oneTest 58 = .ok (.invokevirtual 405, 3) := by decide +kernel
theorem dX11_oneTest_61 : decode cX11_oneTest 61 = .ok (.iastore, 1) := by decide +kernel
theorem dX11_oneTest_62 : decode cX11_oneTest 62 = .ok (.aload_n 0, 1) := by decide +kernel
theorem dX11_oneTest_63 : decode cX11_oneTest 63 = .ok (.getfield 196, 3) := by decide +kernel
theorem dX11_oneTest_66 : decode cX11_oneTest 66 = .ok (.iload_n 3, 1) := by decide +kernel
theorem dX11_oneTest_67 : decode cX11_oneTest 67 = .ok (.bipush 61, 2) := by decide +kernel
theorem dX11_oneTest_69 : decode cX11_oneTest 69 = .ok (.iastore, 1) := by decide +kernel
theorem dX11_oneTest_70 : decode cX11_oneTest 70 = .ok (.aload_n 0, 1) := by decide +kernel
theorem dX11_oneTest_71 : decode cX11_oneTest 71 = .ok (.getfield 199, 3) := by decide +kernel
theorem dX11_oneTest_74 : decode cX11_oneTest 74 = .ok (.iload_n 3, 1) := by decide +kernel
theorem dX11_oneTest_75 : decode cX11_oneTest 75 = .ok (.iconst 1, 1) := by decide +kernel
theorem dX11_oneTest_76 : decode cX11_oneTest 76 = .ok (.iastore, 1) := by decide +kernel
theorem dX11_oneTest_77 : decode cX11_oneTest 77 = .ok (.aload_n 0, 1) := by decide +kernel
theorem dX11_oneTest_78 : decode cX11_oneTest 78 = .ok (.getfield 193, 3) := by decide +kernel
theorem dX11_oneTest_81 : decode cX11_oneTest 81 = .ok (.iload_n 3, 1) := by decide +kernel
theorem dX11_oneTest_82 : decode cX11_oneTest 82 = .ok (.iaload, 1) := by decide +kernel
theorem dX11_oneTest_83 : decode cX11_oneTest 83 = .ok (.iconst (-1), 1) := by decide +kernel
theorem dX11_oneTest_84 : decode cX11_oneTest 84 = .ok (.if_icmp .ne 8, 3) := by decide +kernel
theorem dX11_oneTest_87 : decode cX11_oneTest 87 = .ok (.aload_n 0, 1) := by decide +kernel
theorem dX11_oneTest_88 : decode cX11_oneTest 88 = .ok (.invokevirtual 369, 3) := by decide +kernel
theorem dX11_oneTest_91 : decode cX11_oneTest 91 = .ok (.ireturn, 1) := by decide +kernel
theorem dX11_oneTest_92 : decode cX11_oneTest 92 = .ok (.aload_n 0, 1) := by decide +kernel
theorem dX11_oneTest_93 : decode cX11_oneTest 93 = .ok (.invokevirtual 373, 3) := by decide +kernel
theorem dX11_oneTest_96 : decode cX11_oneTest 96 = .ok (.aload_n 0, 1) := by decide +kernel
theorem dX11_oneTest_97 : decode cX11_oneTest 97 = .ok (.getfield 193, 3) := by decide +kernel
theorem dX11_oneTest_100 : decode cX11_oneTest 100 = .ok (.iload_n 3, 1) := by decide +kernel
theorem dX11_oneTest_101 : decode cX11_oneTest 101 = .ok (.iaload, 1) := by decide +kernel
theorem dX11_oneTest_102 : decode cX11_oneTest 102 = .ok (.bipush 7, 2) := by decide +kernel
theorem dX11_oneTest_104 : decode cX11_oneTest 104 = .ok (.if_icmp .ge 84, 3) := by decide +kernel
theorem dX11_oneTest_107 : decode cX11_oneTest 107 = .ok (.aload_n 0, 1) := by decide +kernel
theorem dX11_oneTest_108 : decode cX11_oneTest 108 = .ok (.getfield 357, 3) := by decide +kernel
theorem dX11_oneTest_111 : decode cX11_oneTest 111 = .ok (.iconst 4, 1) := by decide +kernel
theorem dX11_oneTest_112 : decode cX11_oneTest 112 = .ok (.if_icmp .ne 30, 3) := by decide +kernel
theorem dX11_oneTest_115 : decode cX11_oneTest 115 = .ok (.aload_n 0, 1) := by decide +kernel
theorem dX11_oneTest_116 : decode cX11_oneTest 116 = .ok (.getfield 350, 3) := by decide +kernel
theorem dX11_oneTest_119 : decode cX11_oneTest 119 = .ok (.bipush 60, 2) := by decide +kernel
theorem dX11_oneTest_121 : decode cX11_oneTest 121 = .ok (.if_icmp .eq 26, 3) := by decide +kernel
theorem dX11_oneTest_124 : decode cX11_oneTest 124 = .ok (.aload_n 0, 1) := by decide +kernel
theorem dX11_oneTest_125 : decode cX11_oneTest 125 = .ok (.getfield 350, 3) := by decide +kernel
theorem dX11_oneTest_128 : decode cX11_oneTest 128 = .ok (.bipush 62, 2) := by decide +kernel
theorem dX11_oneTest_130 : decode cX11_oneTest 130 = .ok (.if_icmp .eq 17, 3) := by decide +kernel
theorem dX11_oneTest_133 : decode cX11_oneTest 133 = .ok (.aload_n 0, 1) := by decide +kernel
theorem dX11_oneTest_134 : decode cX11_oneTest 134 = .ok (.getfield 350, 3) := by decide +kernel
theorem dX11_oneTest_137 : decode cX11_oneTest 137 = .ok (.bipush 61, 2) := by decide +kernel
theorem dX11_oneTest_139 : decode cX11_oneTest 139 = .ok (.if_icmp .eq 8, 3) := by decide +kernel
theorem dX11_oneTest_142 : decode cX11_oneTest 142 = .ok (.aload_n 0, 1) := by decide +kernel
theorem dX11_oneTest_143 : decode cX11_oneTest 143 = .ok (.invokevirtual 369, 3) := by decide +kernel
theorem dX11_oneTest_146 : decode cX11_oneTest 146 = .ok (.ireturn, 1) := by decide +kernel
theorem dX11_oneTest_147 : decode cX11_oneTest 147 = .ok (.aload_n 0, 1) := by decide +kernel
