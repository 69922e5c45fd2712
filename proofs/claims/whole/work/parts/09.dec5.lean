theorem dX11_oneTest_148 : decode cX11_oneTest 148 = .ok (.getfield 196, 3) := by decide +kernel
theorem dX11_oneTest_151 : decode cX11_oneTest 151 = .ok (.iload_n 3, 1) := by decide +kernel
theorem dX11_oneTest_152 : decode cX11_oneTest 152 = .ok (.aload_n 0, 1) := by decide +kernel
theorem dX11_oneTest_153 : decode cX11_oneTest 153 = .ok (.getfield 350, 3) := by decide +kernel
theorem dX11_oneTest_156 : decode cX11_oneTest 156 = .ok (.iastore, 1) := by decide +kernel
theorem dX11_oneTest_157 : decode cX11_oneTest 157 = .ok (.aload_n 0, 1) := by decide +kernel
theorem dX11_oneTest_158 : decode cX11_oneTest 158 = .ok (.invokevirtual 373, 3) := by decide +kernel
theorem dX11_oneTest_161 : decode cX11_oneTest 161 = .ok (.aload_n 0, 1) := by decide +kernel
theorem dX11_oneTest_162 : decode cX11_oneTest 162 = .ok (.getfield 357, 3) := by decide +kernel
theorem dX11_oneTest_165 : decode cX11_oneTest 165 = .ok (.iconst 3, 1) := by decide +kernel
theorem dX11_oneTest_166 : decode cX11_oneTest 166 = .ok (.if_icmp .eq 8, 3) := by decide +kernel
theorem dX11_oneTest_169 : decode cX11_oneTest 169 = .ok (.aload_n 0, 1) := by decide +kernel
theorem dX11_oneTest_170 : decode cX11_oneTest 170 = .ok (.invokevirtual 369, 3) := by decide +kernel
theorem dX11_oneTest_173 : decode cX11_oneTest 173 = .ok (.ireturn, 1) := by decide +kernel
theorem dX11_oneTest_174 : decode cX11_oneTest 174 = .ok (.aload_n 0, 1) := by decide +kernel
theorem dX11_oneTest_175 : decode cX11_oneTest 175 = .ok (.getfield 199, 3) := by decide +kernel
theorem dX11_oneTest_178 : decode cX11_oneTest 178 = .ok (.iload_n 3, 1) := by decide +kernel
theorem dX11_oneTest_179 : decode cX11_oneTest 179 = .ok (.aload_n 0, 1) := by decide +kernel
theorem dX11_oneTest_180 : decode cX11_oneTest 180 = .ok (.getfield 350, 3) := by decide +kernel
theorem dX11_oneTest_183 : decode cX11_oneTest 183 = .ok (.iastore, 1) := by decide +kernel
theorem dX11_oneTest_184 : decode cX11_oneTest 184 = .ok (.aload_n 0, 1) := by decide +kernel
theorem dX11_oneTest_185 : decode cX11_oneTest 185 = .ok (.invokevirtual 373, 3) := by decide +kernel
theorem dX11_oneTest_188 : decode cX11_oneTest 188 = .ok (.iconst 1, 1) := by decide +kernel
theorem dX11_oneTest_189 : decode cX11_oneTest 189 = .ok (.ireturn, 1) := by decide +kernel
theorem dX11_oneLine_0 : decode cX11_oneLine 0 = .ok (.aload_n 0, 1) := by decide +kernel
theorem dX11_oneLine_1 : decode cX11_oneLine 1 = .ok (.getfield 408, 3) := by decide +kernel
theorem dX11_oneLine_4 : decode cX11_oneLine 4 = .ok (.bipush 16, 2) := by decide +kernel
theorem dX11_oneLine_6 : decode cX11_oneLine 6 = .ok (.if_icmp .ge 10, 3) := by decide +kernel
theorem dX11_oneLine_9 : decode cX11_oneLine 9 = .ok (.aload_n 0, 1) := by decide +kernel
theorem dX11_oneLine_10 : decode cX11_oneLine 10 = .ok (.getfield 408, 3) := by decide +kernel
theorem dX11_oneLine_13 : decode cX11_oneLine 13 = .ok (.goto 5, 3) := by decide +kernel
theorem dX11_oneLine_16 : decode cX11_oneLine 16 = .ok (.bipush 16, 2) := by decide +kernel
theorem dX11_oneLine_18 : decode cX11_oneLine 18 = .ok (.istore_n 1, 1) := by decide +kernel
theorem dX11_oneLine_19 : decode cX11_oneLine 19 = .ok (.aload_n 0, 1) := by decide +kernel
theorem dX11_oneLine_20 : decode cX11_oneLine 20 = .ok (.getfield 408, 3) := by decide +kernel
theorem dX11_oneLine_23 : decode cX11_oneLine 23 = .ok (.bipush 16, 2) := by decide +kernel
theorem dX11_oneLine_25 : decode cX11_oneLine 25 = .ok (.if_icmp .ne 8, 3) := by decide +kernel
theorem dX11_oneLine_28 : decode cX11_oneLine 28 = .ok (.aload_n 0, 1) := by decide +kernel
theorem dX11_oneLine_29 : decode cX11_oneLine 29 = .ok (.iconst 3, 1) := by decide +kernel
theorem dX11_oneLine_30 : decode cX11_oneLine 30 = .ok (.invokevirtual 400, 3) := by decide +kernel
theorem dX11_oneLine_33 : decode cX11_oneLine 33 = .ok (.iconst 0, 1) := by decide +kernel
theorem dX11_oneLine_34 : decode cX11_oneLine 34 = .ok (.istore_n 2, 1) := by decide +kernel
theorem dX11_oneLine_35 : decode cX11_oneLine 35 = .ok (.aload_n 0, 1) := by decide +kernel
theorem dX11_oneLine_36 : decode cX11_oneLine 36 = .ok (.ldc2_w 411, 3) := by decide +kernel
theorem dX11_oneLine_39 : decode cX11_oneLine 39 = .ok (.invokevirtual 378, 3) := by decide +kernel
theorem dX11_oneLine_42 : decode cX11_oneLine 42 = .ok (.ifCond .eq 49, 3) := by decide +kernel
theorem dX11_oneLine_45 : decode cX11_oneLine 45 = .ok (.iconst 1, 1) := by decide +kernel
theorem dX11_oneLine_46 : decode cX11_oneLine 46 = .ok (.istore_n 3, 1) := by decide +kernel
theorem dX11_oneLine_47 : decode cX11_oneLine 47 = .ok (.iload_n 3, 1) := by decide +kernel
theorem dX11_oneLine_48 : decode cX11_oneLine 48 = .ok (.ifCond .eq 32, 3) := by decide +kernel
theorem dX11_oneLine_51 : decode cX11_oneLine 51 = .ok (.aload_n 0, 1) := by decide +kernel
theorem dX11_oneLine_52 : decode cX11_oneLine 52 = .ok (.invokevirtual 373, 3) := by decide +kernel
theorem dX11_oneLine_55 : decode cX11_oneLine 55 = .ok (.aload_n 0, 1) := by decide +kernel
theorem dX11_oneLine_56 : decode cX11_oneLine 56 = .ok (.iload_n 1, 1) := by decide +kernel
theorem dX11_oneLine_57 : decode cX11_oneLine 57 = .ok (.iload_n 2, 1) := by decide +kernel
theorem dX11_oneLine_58 : decode cX11_oneLine 58 = .ok (.invokevirtual 413, 3) := by decide +kernel
theorem dX11_oneLine_61 : decode cX11_oneLine 61 = .ok (.ifCond .ne 5, 3) := by decide +kernel
theorem dX11_oneLine_64 : decode cX11_oneLine 64 = .ok (.iconst 0, 1) := by decide +kernel
theorem dX11_oneLine_65 : decode cX11_oneLine 65 = .ok (.ireturn, 1) := by decide +kernel
theorem dX11_oneLine_66 : decode cX11_oneLine 66 = .ok (.iinc 2 1, 3) := by decide +kernel
theorem dX11_oneLine_69 : decode cX11_oneLine 69 = .ok (.aload_n 0, 1) := by decide +kernel
theorem dX11_oneLine_70 : decode cX11_oneLine 70 = .ok (.ldc2_w 416, 3) := by decide +kernel
theorem dX11_oneLine_73 : decode cX11_oneLine 73 = .ok (.invokevirtual 378, 3) := by decide +kernel
theorem dX11_oneLine_76 : decode cX11_oneLine 76 = .ok (.istore_n 3, 1) := by decide +kernel
theorem dX11_oneLine_77 : decode cX11_oneLine 77 = .ok (.goto (-30), 3) := by decide +kernel
theorem dX11_oneLine_80 : decode cX11_oneLine 80 = .ok (.aload_n 0, 1) := by decide +kernel
theorem dX11_oneLine_81 : decode cX11_oneLine 81 = .ok (.bipush 58, 2) := by decide +kernel
theorem dX11_oneLine_83 : decode cX11_oneLine 83 = .ok (.invokevirtual 418, 3) := by decide +kernel
theorem dX11_oneLine_86 : decode cX11_oneLine 86 = .ok (.ifCond .ne 5, 3) := by decide +kernel
theorem dX11_oneLine_89 : decode cX11_oneLine 89 = .ok (.iconst 0, 1) := by decide +kernel
theorem dX11_oneLine_90 : decode cX11_oneLine 90 = .ok (.ireturn, 1) := by decide +kernel
theorem dX11_oneLine_91 : decode cX11_oneLine 91 = .ok (.aload_n 0, 1) := by decide +kernel
theorem dX11_oneLine_92 : decode cX11_oneLine 92 = .ok (.getfield 190, 3) := by decide +kernel
theorem dX11_oneLine_95 : decode cX11_oneLine 95 = .ok (.iload_n 1, 1) := by decide +kernel
theorem dX11_oneLine_96 : decode cX11_oneLine 96 = .ok (.iload_n 2, 1) := by decide +kernel
theorem dX11_oneLine_97 : decode cX11_oneLine 97 = .ok (.iconst 4, 1) := by decide +kernel
theorem dX11_oneLine_98 : decode cX11_oneLine 98 = .ok (.if_icmp .ge 7, 3) := by decide +kernel
theorem dX11_oneLine_101 : decode cX11_oneLine 101 = .ok (.iload_n 2, 1) := by decide +kernel
theorem dX11_oneLine_102 : decode cX11_oneLine 102 = .ok (.goto 4, 3) := by decide +kernel
theorem dX11_oneLine_105 : decode cX11_oneLine 105 = .ok (.iconst 4, 1) := by decide +kernel
theorem dX11_oneLine_106 : decode cX11_oneLine 106 = .ok (.iastore, 1) := by decide +kernel
theorem dX11_oneLine_107 : decode cX11_oneLine 107 = .ok (.aload_n 0, 1) := by decide +kernel
theorem dX11_oneLine_108 : decode cX11_oneLine 108 = .ok (.getfield 184, 3) := by decide +kernel
theorem dX11_oneLine_111 : decode cX11_oneLine 111 = .ok (.iload_n 1, 1) := by decide +kernel
theorem dX11_oneLine_112 : decode cX11_oneLine 112 = .ok (.aload_n 0, 1) := by decide +kernel
theorem dX11_oneLine_113 : decode cX11_oneLine 113 = .ok (.ldc2_w 421, 3) := by decide +kernel
theorem dX11_oneLine_116 : decode cX11_oneLine 116 = .ok (.invokevirtual 378, 3) := by decide +kernel
theorem dX11_oneLine_119 : decode cX11_oneLine 119 = .ok (.ifCond .eq 7, 3) := by decide +kernel
theorem dX11_oneLine_122 : decode cX11_oneLine 122 = .ok (.iconst 0, 1) := by decide +kernel
theorem dX11_oneLine_123 : decode cX11_oneLine 123 = .ok (.goto 32, 3) := by decide +kernel
theorem dX11_oneLine_126 : decode cX11_oneLine 126 = .ok (.aload_n 0, 1) := by decide +kernel
theorem dX11_oneLine_127 : decode cX11_oneLine 127 = .ok (.ldc2_w 423, 3) := by decide +kernel
theorem dX11_oneLine_130 : decode cX11_oneLine 130 = .ok (.invokevirtual 378, 3) := by decide +kernel
theorem dX11_oneLine_133 : decode cX11_oneLine 133 = .ok (.ifCond .eq 7, 3) := by decide +kernel
theorem dX11_oneLine_136 : decode cX11_oneLine 136 = .ok (.iconst 1, 1) := by decide +kernel
theorem dX11_oneLine_137 : decode cX11_oneLine 137 = .ok (.goto 18, 3) := by decide +kernel
theorem dX11_oneLine_140 : decode cX11_oneLine 140 = .ok (.aload_n 0, 1) := by decide +kernel
theorem dX11_oneLine_141 : decode cX11_oneLine 141 = .ok (.ldc2_w 425, 3) := by decide +kernel
theorem dX11_oneLine_144 : decode cX11_oneLine 144 = .ok (.invokevirtual 378, 3) := by decide +kernel
theorem dX11_oneLine_147 : decode cX11_oneLine 147 = .ok (.ifCond .eq 7, 3) := by decide +kernel
theorem dX11_oneLine_150 : decode cX11_oneLine 150 = .ok (.iconst 2, 1) := by decide +kernel
theorem dX11_oneLine_151 : decode cX11_oneLine 151 = .ok (.goto 4, 3) := by decide +kernel
theorem dX11_oneLine_154 : decode cX11_oneLine 154 = .ok (.iconst (-1), 1) := by decide +kernel
theorem dX11_oneLine_155 : decode cX11_oneLine 155 = .ok (.iastore, 1) := by decide +kernel
theorem dX11_oneLine_156 : decode cX11_oneLine 156 = .ok (.aload_n 0, 1) := by decide +kernel
theorem dX11_oneLine_157 : decode cX11_oneLine 157 = .ok (.getfield 187, 3) := by decide +kernel
theorem dX11_oneLine_160 : decode cX11_oneLine 160 = .ok (.iload_n 1, 1) := by decide +kernel
theorem dX11_oneLine_161 : decode cX11_oneLine 161 = .ok (.iconst 0, 1) := by decide +kernel
theorem dX11_oneLine_162 : decode cX11_oneLine 162 = .ok (.iastore, 1) := by decide +kernel
theorem dX11_oneLine_163 : decode cX11_oneLine 163 = .ok (.aload_n 0, 1) := by decide +kernel
theorem dX11_oneLine_164 : decode cX11_oneLine 164 = .ok (.getfield 184, 3) := by decide +kernel
theorem dX11_oneLine_167 : decode cX11_oneLine 167 = .ok (.iload_n 1, 1) := by decide +kernel
theorem dX11_oneLine_168 : decode cX11_oneLine 168 = .ok (.iaload, 1) := by decide +kernel
theorem dX11_oneLine_169 : decode cX11_oneLine 169 = .ok (.iconst (-1), 1) := by decide +kernel
theorem dX11_oneLine_170 : decode cX11_oneLine 170 = .ok (.if_icmp .ne 8, 3) := by decide +kernel
theorem dX11_oneLine_173 : decode cX11_oneLine 173 = .ok (.aload_n 0, 1) := by decide +kernel
theorem dX11_oneLine_174 : decode cX11_oneLine 174 = .ok (.invokevirtual 369, 3) := by decide +kernel
theorem dX11_oneLine_177 : decode cX11_oneLine 177 = .ok (.ireturn, 1) := by decide +kernel
theorem dX11_oneLine_178 : decode cX11_oneLine 178 = .ok (.aload_n 0, 1) := by decide +kernel
theorem dX11_oneLine_179 : decode cX11_oneLine 179 = .ok (.invokevirtual 373, 3) := by decide +kernel
theorem dX11_oneLine_182 : decode cX11_oneLine 182 = .ok (.aload_n 0, 1) := by decide +kernel
theorem dX11_oneLine_183 : decode cX11_oneLine 183 = .ok (.getfield 184, 3) := by decide +kernel
theorem dX11_oneLine_186 : decode cX11_oneLine 186 = .ok (.iload_n 1, 1) := by decide +kernel
theorem dX11_oneLine_187 : decode cX11_oneLine 187 = .ok (.iaload, 1) := by decide +kernel
theorem dX11_oneLine_188 : decode cX11_oneLine 188 = .ok (.ifCond .eq 58, 3) := by decide +kernel
theorem dX11_oneLine_191 : decode cX11_oneLine 191 = .ok (.aload_n 0, 1) := by decide +kernel
theorem dX11_oneLine_192 : decode cX11_oneLine 192 = .ok (.getfield 357, 3) := by decide +kernel
theorem dX11_oneLine_195 : decode cX11_oneLine 195 = .ok (.iconst 3, 1) := by decide +kernel
theorem dX11_oneLine_196 : decode cX11_oneLine 196 = .ok (.if_icmp .eq 8, 3) := by decide +kernel
theorem dX11_oneLine_199 : decode cX11_oneLine 199 = .ok (.aload_n 0, 1) := by decide +kernel
theorem dX11_oneLine_200 : decode cX11_oneLine 200 = .ok (.invokevirtual 369, 3) := by decide +kernel
theorem dX11_oneLine_203 : decode cX11_oneLine 203 = .ok (.ireturn, 1) := by decide +kernel
theorem dX11_oneLine_204 : decode cX11_oneLine 204 = .ok (.aload_n 0, 1) := by decide +kernel
theorem dX11_oneLine_205 : decode cX11_oneLine 205 = .ok (.getfield 187, 3) := by decide +kernel
theorem dX11_oneLine_208 : decode cX11_oneLine 208 = .ok (.iload_n 1, 1) := by decide +kernel
theorem dX11_oneLine_209 : decode cX11_oneLine 209 = .ok (.aload_n 0, 1) := by decide +kernel
theorem dX11_oneLine_210 : decode cX11_oneLine 210 = .ok (.getfield 350, 3) := by decide +kernel
theorem dX11_oneLine_213 : decode cX11_oneLine 213 = .ok (.iastore, 1) := by decide +kernel
theorem dX11_oneLine_214 : decode cX11_oneLine 214 = .ok (.aload_n 0, 1) := by decide +kernel
theorem dX11_oneLine_215 : decode cX11_oneLine 215 = .ok (.getfield 184, 3) := by decide +kernel
theorem dX11_oneLine_218 : decode cX11_oneLine 218 = .ok (.iload_n 1, 1) := by decide +kernel
theorem dX11_oneLine_219 : decode cX11_oneLine 219 = .ok (.iaload, 1) := by decide +kernel
theorem dX11_oneLine_220 : decode cX11_oneLine 220 = .ok (.iconst 1, 1) := by decide +kernel
theorem dX11_oneLine_221 : decode cX11_oneLine 221 = .ok (.if_icmp .ne 21, 3) := by decide +kernel
theorem dX11_oneLine_224 : decode cX11_oneLine 224 = .ok (.aload_n 0, 1) := by decide +kernel
theorem dX11_oneLine_225 : decode cX11_oneLine 225 = .ok (.getfield 350, 3) := by decide +kernel
theorem dX11_oneLine_228 : decode cX11_oneLine 228 = .ok (.iconst 1, 1) := by decide +kernel
theorem dX11_oneLine_229 : decode cX11_oneLine 229 = .ok (.bipush 99, 2) := by decide +kernel
theorem dX11_oneLine_231 : decode cX11_oneLine 231 = .ok (.invokestatic 232, 3) := by decide +kernel
theorem dX11_oneLine_234 : decode cX11_oneLine 234 = .ok (.ifCond .ne 8, 3) := by decide +kernel
theorem dX11_oneLine_237 : decode cX11_oneLine 237 = .ok (.aload_n 0, 1) := by decide +kernel
theorem dX11_oneLine_238 : decode cX11_oneLine 238 = .ok (.iconst 2, 1) := by decide +kernel
theorem dX11_oneLine_239 : decode cX11_oneLine 239 = .ok (.invokevirtual 400, 3) := by decide +kernel
theorem dX11_oneLine_242 : decode cX11_oneLine 242 = .ok (.aload_n 0, 1) := by decide +kernel
theorem dX11_oneLine_243 : decode cX11_oneLine 243 = .ok (.invokevirtual 373, 3) := by decide +kernel
theorem dX11_oneLine_246 : decode cX11_oneLine 246 = .ok (.aload_n 0, 1) := by decide +kernel
theorem dX11_oneLine_247 : decode cX11_oneLine 247 = .ok (.dup, 1) := by decide +kernel
theorem dX11_oneLine_248 : decode cX11_oneLine 248 = .ok (.getfield 408, 3) := by decide +kernel
theorem dX11_oneLine_251 : decode cX11_oneLine 251 = .ok (.iconst 1, 1) := by decide +kernel
theorem dX11_oneLine_252 : decode cX11_oneLine 252 = .ok (.iadd, 1) := by decide +kernel
theorem dX11_oneLine_253 : decode cX11_oneLine 253 = .ok (.putfield 408, 3) := by decide +kernel
theorem dX11_oneLine_256 : decode cX11_oneLine 256 = .ok (.aload_n 0, 1) := by decide +kernel
theorem dX11_oneLine_257 : decode cX11_oneLine 257 = .ok (.bipush 59, 2) := by decide +kernel
theorem dX11_oneLine_259 : decode cX11_oneLine 259 = .ok (.invokevirtual 418, 3) := by decide +kernel
theorem dX11_oneLine_262 : decode cX11_oneLine 262 = .ok (.ireturn, 1) := by decide +kernel
theorem dX11_rules_0 : decode cX11_rules 0 = .ok (.aload_n 0, 1) := by decide +kernel
theorem dX11_rules_1 : decode cX11_rules 1 = .ok (.iconst 0, 1) := by decide +kernel
theorem dX11_rules_2 : decode cX11_rules 2 = .ok (.putfield 220, 3) := by decide +kernel
theorem dX11_rules_5 : decode cX11_rules 5 = .ok (.aload_n 0, 1) := by decide +kernel
theorem dX11_rules_6 : decode cX11_rules 6 = .ok (.aload_n 0, 1) := by decide +kernel
theorem dX11_rules_7 : decode cX11_rules 7 = .ok (.getfield 13, 3) := by decide +kernel
theorem dX11_rules_10 : decode cX11_rules 10 = .ok (.iconst 0, 1) := by decide +kernel
theorem dX11_rules_11 : decode cX11_rules 11 = .ok (.iaload, 1) := by decide +kernel
theorem dX11_rules_12 : decode cX11_rules 12 = .ok (.putfield 341, 3) := by decide +kernel
theorem dX11_rules_15 : decode cX11_rules 15 = .ok (.aload_n 0, 1) := by decide +kernel
theorem dX11_rules_16 : decode cX11_rules 16 = .ok (.getfield 13, 3) := by decide +kernel
theorem dX11_rules_19 : decode cX11_rules 19 = .ok (.iconst 0, 1) := by decide +kernel
theorem dX11_rules_20 : decode cX11_rules 20 = .ok (.iconst 0, 1) := by decide +kernel
theorem dX11_rules_21 : decode cX11_rules 21 = .ok (.iastore, 1) := by decide +kernel
theorem dX11_rules_22 : decode cX11_rules 22 = .ok (.aload_n 0, 1) := by decide +kernel
theorem dX11_rules_23 : decode cX11_rules 23 = .ok (.getfield 17, 3) := by decide +kernel
theorem dX11_rules_26 : decode cX11_rules 26 = .ok (.iconst 0, 1) := by decide +kernel
theorem dX11_rules_27 : decode cX11_rules 27 = .ok (.iconst 0, 1) := by decide +kernel
theorem dX11_rules_28 : decode cX11_rules 28 = .ok (.iastore, 1) := by decide +kernel
theorem dX11_rules_29 : decode cX11_rules 29 = .ok (.aload_n 0, 1) := by decide +kernel
theorem dX11_rules_30 : decode cX11_rules 30 = .ok (.getfield 20, 3) := by decide +kernel
theorem dX11_rules_33 : decode cX11_rules 33 = .ok (.iconst 0, 1) := by decide +kernel
theorem dX11_rules_34 : decode cX11_rules 34 = .ok (.iconst (-1), 1) := by decide +kernel
theorem dX11_rules_35 : decode cX11_rules 35 = .ok (.iastore, 1) := by decide +kernel
theorem dX11_rules_36 : decode cX11_rules 36 = .ok (.aload_n 0, 1) := by decide +kernel
theorem dX11_rules_37 : decode cX11_rules 37 = .ok (.iconst 0, 1) := by decide +kernel
theorem dX11_rules_38 : decode cX11_rules 38 = .ok (.putfield 338, 3) := by decide +kernel
theorem dX11_rules_41 : decode cX11_rules 41 = .ok (.aload_n 0, 1) := by decide +kernel
theorem dX11_rules_42 : decode cX11_rules 42 = .ok (.iconst (-1), 1) := by decide +kernel
theorem dX11_rules_43 : decode cX11_rules 43 = .ok (.putfield 360, 3) := by decide +kernel
theorem dX11_rules_46 : decode cX11_rules 46 = .ok (.aload_n 0, 1) := by decide +kernel
theorem dX11_rules_47 : decode cX11_rules 47 = .ok (.iconst 0, 1) := by decide +kernel
theorem dX11_rules_48 : decode cX11_rules 48 = .ok (.putfield 363, 3) := by decide +kernel
theorem dX11_rules_51 : decode cX11_rules 51 = .ok (.aload_n 0, 1) := by decide +kernel
theorem dX11_rules_52 : decode cX11_rules 52 = .ok (.iconst 0, 1) := by decide +kernel
theorem dX11_rules_53 : decode cX11_rules 53 = .ok (.putfield 408, 3) := by decide +kernel
theorem dX11_rules_56 : decode cX11_rules 56 = .ok (.iconst 1, 1) := by decide +kernel
theorem dX11_rules_57 : decode cX11_rules 57 = .ok (.istore_n 1, 1) := by decide +kernel
theorem dX11_rules_58 : decode cX11_rules 58 = .ok (.aload_n 0, 1) := by decide +kernel
theorem dX11_rules_59 : decode cX11_rules 59 = .ok (.invokevirtual 373, 3) := by decide +kernel
theorem dX11_rules_62 : decode cX11_rules 62 = .ok (.iload_n 1, 1) := by decide +kernel
theorem dX11_rules_63 : decode cX11_rules 63 = .ok (.ifCond .eq 18, 3) := by decide +kernel
theorem dX11_rules_66 : decode cX11_rules 66 = .ok (.aload_n 0, 1) := by decide +kernel
theorem dX11_rules_67 : decode cX11_rules 67 = .ok (.getfield 357, 3) := by decide +kernel
theorem dX11_rules_70 : decode cX11_rules 70 = .ok (.ifCond .eq 11, 3) := by decide +kernel
theorem dX11_rules_73 : decode cX11_rules 73 = .ok (.aload_n 0, 1) := by decide +kernel
theorem dX11_rules_74 : decode cX11_rules 74 = .ok (.invokevirtual 427, 3) := by decide +kernel
theorem dX11_rules_77 : decode cX11_rules 77 = .ok (.istore_n 1, 1) := by decide +kernel
theorem dX11_rules_78 : decode cX11_rules 78 = .ok (.goto (-16), 3) := by decide +kernel
theorem dX11_rules_81 : decode cX11_rules 81 = .ok (.iload_n 1, 1) := by decide +kernel
theorem dX11_rules_82 : decode cX11_rules 82 = .ok (.ifCond .eq 10, 3) := by decide +kernel
theorem dX11_rules_85 : decode cX11_rules 85 = .ok (.aload_n 0, 1) := by decide +kernel
theorem dX11_rules_86 : decode cX11_rules 86 = .ok (.getfield 363, 3) := by decide +kernel
theorem dX11_rules_89 : decode cX11_rules 89 = .ok (.ifCond .le 44, 3) := by decide +kernel
theorem dX11_rules_92 : decode cX11_rules 92 = .ok (.aload_n 0, 1) := by decide +kernel
theorem dX11_rules_93 : decode cX11_rules 93 = .ok (.getfield 17, 3) := by decide +kernel
theorem dX11_rules_96 : decode cX11_rules 96 = .ok (.iconst 0, 1) := by decide +kernel
theorem dX11_rules_97 : decode cX11_rules 97 = .ok (.iload_n 1, 1) := by decide +kernel
theorem dX11_rules_98 : decode cX11_rules 98 = .ok (.ifCond .eq 10, 3) := by decide +kernel
theorem dX11_rules_101 : decode cX11_rules 101 = .ok (.aload_n 0, 1) := by decide +kernel
theorem dX11_rules_102 : decode cX11_rules 102 = .ok (.getfield 363, 3) := by decide +kernel
theorem dX11_rules_105 : decode cX11_rules 105 = .ok (.goto 4, 3) := by decide +kernel
theorem dX11_rules_108 : decode cX11_rules 108 = .ok (.iconst 1, 1) := by decide +kernel
theorem dX11_rules_109 : decode cX11_rules 109 = .ok (.iastore, 1) := by decide +kernel
theorem dX11_rules_110 : decode cX11_rules 110 = .ok (.aload_n 0, 1) := by decide +kernel
theorem dX11_rules_111 : decode cX11_rules 111 = .ok (.getfield 20, 3) := by decide +kernel
theorem dX11_rules_114 : decode cX11_rules 114 = .ok (.iconst 0, 1) := by decide +kernel
theorem dX11_rules_115 : decode cX11_rules 115 = .ok (.iload_n 1, 1) := by decide +kernel
theorem dX11_rules_116 : decode cX11_rules 116 = .ok (.ifCond .eq 10, 3) := by decide +kernel
theorem dX11_rules_119 : decode cX11_rules 119 = .ok (.aload_n 0, 1) := by decide +kernel
theorem dX11_rules_120 : decode cX11_rules 120 = .ok (.getfield 366, 3) := by decide +kernel
theorem dX11_rules_123 : decode cX11_rules 123 = .ok (.goto 7, 3) := by decide +kernel
theorem dX11_rules_126 : decode cX11_rules 126 = .ok (.aload_n 0, 1) := by decide +kernel
theorem dX11_rules_127 : decode cX11_rules 127 = .ok (.getfield 360, 3) := by decide +kernel
theorem dX11_rules_130 : decode cX11_rules 130 = .ok (.iastore, 1) := by decide +kernel
theorem dX11_rules_131 : decode cX11_rules 131 = .ok (.iconst (-1), 1) := by decide +kernel
theorem dX11_rules_132 : decode cX11_rules 132 = .ok (.ireturn, 1) := by decide +kernel
theorem dX11_rules_133 : decode cX11_rules 133 = .ok (.aload_n 0, 1) := by decide +kernel
theorem dX11_rules_134 : decode cX11_rules 134 = .ok (.getfield 129, 3) := by decide +kernel
theorem dX11_rules_137 : decode cX11_rules 137 = .ok (.iconst 0, 1) := by decide +kernel
theorem dX11_rules_138 : decode cX11_rules 138 = .ok (.aload_n 0, 1) := by decide +kernel
theorem dX11_rules_139 : decode cX11_rules 139 = .ok (.getfield 408, 3) := by decide +kernel
theorem dX11_rules_142 : decode cX11_rules 142 = .ok (.iastore, 1) := by decide +kernel
theorem dX11_rules_143 : decode cX11_rules 143 = .ok (.iconst 0, 1) := by decide +kernel
theorem dX11_rules_144 : decode cX11_rules 144 = .ok (.istore_n 2, 1) := by decide +kernel
theorem dX11_rules_145 : decode cX11_rules 145 = .ok (.iload_n 2, 1) := by decide +kernel
theorem dX11_rules_146 : decode cX11_rules 146 = .ok (.aload_n 0, 1) := by decide +kernel
theorem dX11_rules_147 : decode cX11_rules 147 = .ok (.getfield 408, 3) := by decide +kernel
theorem dX11_rules_150 : decode cX11_rules 150 = .ok (.if_icmp .ge 112, 3) := by decide +kernel
theorem dX11_rules_153 : decode cX11_rules 153 = .ok (.aload_n 0, 1) := by decide +kernel
theorem dX11_rules_154 : decode cX11_rules 154 = .ok (.getfield 132, 3) := by decide +kernel
theorem dX11_rules_157 : decode cX11_rules 157 = .ok (.iload_n 2, 1) := by decide +kernel
theorem dX11_rules_158 : decode cX11_rules 158 = .ok (.aload_n 0, 1) := by decide +kernel
theorem dX11_rules_159 : decode cX11_rules 159 = .ok (.getfield 184, 3) := by decide +kernel
theorem dX11_rules_162 : decode cX11_rules 162 = .ok (.iload_n 2, 1) := by decide +kernel
theorem dX11_rules_163 : decode cX11_rules 163 = .ok (.iaload, 1) := by decide +kernel
theorem dX11_rules_164 : decode cX11_rules 164 = .ok (.iastore, 1) := by decide +kernel
theorem dX11_rules_165 : decode cX11_rules 165 = .ok (.aload_n 0, 1) := by decide +kernel
theorem dX11_rules_166 : decode cX11_rules 166 = .ok (.getfield 135, 3) := by decide +kernel
theorem dX11_rules_169 : decode cX11_rules 169 = .ok (.iload_n 2, 1) := by decide +kernel
theorem dX11_rules_170 : decode cX11_rules 170 = .ok (.aload_n 0, 1) := by decide +kernel
theorem dX11_rules_171 : decode cX11_rules 171 = .ok (.getfield 187, 3) := by decide +kernel
theorem dX11_rules_174 : decode cX11_rules 174 = .ok (.iload_n 2, 1) := by decide +kernel
theorem dX11_rules_175 : decode cX11_rules 175 = .ok (.iaload, 1) := by decide +kernel
theorem dX11_rules_176 : decode cX11_rules 176 = .ok (.iastore, 1) := by decide +kernel
theorem dX11_rules_177 : decode cX11_rules 177 = .ok (.aload_n 0, 1) := by decide +kernel
theorem dX11_rules_178 : decode cX11_rules 178 = .ok (.getfield 138, 3) := by decide +kernel
theorem dX11_rules_181 : decode cX11_rules 181 = .ok (.iload_n 2, 1) := by decide +kernel
theorem dX11_rules_182 : decode cX11_rules 182 = .ok (.aload_n 0, 1) := by decide +kernel
theorem dX11_rules_183 : decode cX11_rules 183 = .ok (.getfield 190, 3) := by decide +kernel
theorem dX11_rules_186 : decode cX11_rules 186 = .ok (.iload_n 2, 1) := by decide +kernel
theorem dX11_rules_187 : decode cX11_rules 187 = .ok (.iaload, 1) := by decide +kernel
theorem dX11_rules_188 : decode cX11_rules 188 = .ok (.iastore, 1) := by decide +kernel
theorem dX11_rules_189 : decode cX11_rules 189 = .ok (.iconst 4, 1) := by decide +kernel
theorem dX11_rules_190 : decode cX11_rules 190 = .ok (.iload_n 2, 1) := by decide +kernel
theorem dX11_rules_191 : decode cX11_rules 191 = .ok (.imul, 1) := by decide +kernel
theorem dX11_rules_192 : decode cX11_rules 192 = .ok (.istore_n 3, 1) := by decide +kernel
theorem dX11_rules_193 : decode cX11_rules 193 = .ok (.iload_n 3, 1) := by decide +kernel
theorem dX11_rules_194 : decode cX11_rules 194 = .ok (.iconst 4, 1) := by decide +kernel
theorem dX11_rules_195 : decode cX11_rules 195 = .ok (.iload_n 2, 1) := by decide +kernel
theorem dX11_rules_196 : decode cX11_rules 196 = .ok (.imul, 1) := by decide +kernel
theorem dX11_rules_197 : decode cX11_rules 197 = .ok (.iconst 4, 1) := by decide +kernel
theorem dX11_rules_198 : decode cX11_rules 198 = .ok (.iadd, 1) := by decide +kernel
theorem dX11_rules_199 : decode cX11_rules 199 = .ok (.if_icmp .ge 57, 3) := by decide +kernel
theorem dX11_rules_202 : decode cX11_rules 202 = .ok (.aload_n 0, 1) := by decide +kernel
theorem dX11_rules_203 : decode cX11_rules 203 = .ok (.getfield 141, 3) := by decide +kernel
theorem dX11_rules_206 : decode cX11_rules 206 = .ok (.iload_n 3, 1) := by decide +kernel
theorem dX11_rules_207 : decode cX11_rules 207 = .ok (.aload_n 0, 1) := by decide +kernel
theorem dX11_rules_208 : decode cX11_rules 208 = .ok (.getfield 193, 3) := by decide +kernel
theorem dX11_rules_211 : decode cX11_rules 211 = .ok (.iload_n 3, 1) := by decide +kernel
theorem dX11_rules_212 : decode cX11_rules 212 = .ok (.iaload, 1) := by decide +kernel
theorem dX11_rules_213 : decode cX11_rules 213 = .ok (.iastore, 1) := by decide +kernel
theorem dX11_rules_214 : decode cX11_rules 214 = .ok (.aload_n 0, 1) := by decide +kernel
theorem dX11_rules_215 : decode cX11_rules 215 = .ok (.getfield 144, 3) := by decide +kernel
theorem dX11_rules_218 : decode cX11_rules 218 = .ok (.iload_n 3, 1) := by decide +kernel
theorem dX11_rules_219 : decode cX11_rules 219 = .ok (.aload_n 0, 1) := by decide +kernel
theorem dX11_rules_220 : decode cX11_rules 220 = .ok (.getfield 196, 3) := by decide +kernel
theorem dX11_rules_223 : decode cX11_rules 223 = .ok (.iload_n 3, 1) := by decide +kernel
theorem dX11_rules_224 : decode cX11_rules 224 = .ok (.iaload, 1) := by decide +kernel
theorem dX11_rules_225 : decode cX11_rules 225 = .ok (.iastore, 1) := by decide +kernel
theorem dX11_rules_226 : decode cX11_rules 226 = .ok (.aload_n 0, 1) := by decide +kernel
theorem dX11_rules_227 : decode cX11_rules 227 = .ok (.getfield 147, 3) := by decide +kernel
theorem dX11_rules_230 : decode cX11_rules 230 = .ok (.iload_n 3, 1) := by decide +kernel
theorem dX11_rules_231 : decode cX11_rules 231 = .ok (.aload_n 0, 1) := by decide +kernel
theorem dX11_rules_232 : decode cX11_rules 232 = .ok (.getfield 199, 3) := by decide +kernel
theorem dX11_rules_235 : decode cX11_rules 235 = .ok (.iload_n 3, 1) := by decide +kernel
theorem dX11_rules_236 : decode cX11_rules 236 = .ok (.iaload, 1) := by decide +kernel
theorem dX11_rules_237 : decode cX11_rules 237 = .ok (.iastore, 1) := by decide +kernel
theorem dX11_rules_238 : decode cX11_rules 238 = .ok (.aload_n 0, 1) := by decide +kernel
theorem dX11_rules_239 : decode cX11_rules 239 = .ok (.getfield 150, 3) := by decide +kernel
theorem dX11_rules_242 : decode cX11_rules 242 = .ok (.iload_n 3, 1) := by decide +kernel
theorem dX11_rules_243 : decode cX11_rules 243 = .ok (.aload_n 0, 1) := by decide +kernel
theorem dX11_rules_244 : decode cX11_rules 244 = .ok (.getfield 202, 3) := by decide +kernel
theorem dX11_rules_247 : decode cX11_rules 247 = .ok (.iload_n 3, 1) := by decide +kernel
theorem dX11_rules_248 : decode cX11_rules 248 = .ok (.baload, 1) := by decide +kernel
theorem dX11_rules_249 : decode cX11_rules 249 = .ok (.bastore, 1) := by decide +kernel
theorem dX11_rules_250 : decode cX11_rules 250 = .ok (.iinc 3 1, 3) := by decide +kernel
theorem dX11_rules_253 : decode cX11_rules 253 = .ok (.goto (-60), 3) := by decide +kernel
theorem dX11_rules_256 : decode cX11_rules 256 = .ok (.iinc 2 1, 3) := by decide +kernel
theorem dX11_rules_259 : decode cX11_rules 259 = .ok (.goto (-114), 3) := by decide +kernel
theorem dX11_rules_262 : decode cX11_rules 262 = .ok (.aload_n 0, 1) := by decide +kernel
theorem dX11_rules_263 : decode cX11_rules 263 = .ok (.getfield 408, 3) := by decide +kernel
theorem dX11_rules_266 : decode cX11_rules 266 = .ok (.ireturn, 1) := by decide +kernel
theorem dX11_fault_0 : decode cX11_fault 0 = .ok (.aload_n 0, 1) := by decide +kernel
theorem dX11_fault_1 : decode cX11_fault 1 = .ok (.iconst 0, 1) := by decide +kernel
theorem dX11_fault_2 : decode cX11_fault 2 = .ok (.putfield 220, 3) := by decide +kernel
theorem dX11_fault_5 : decode cX11_fault 5 = .ok (.iload_n 1, 1) := by decide +kernel
theorem dX11_fault_6 : decode cX11_fault 6 = .ok (.ifCond .ne 12, 3) := by decide +kernel
theorem dX11_fault_9 : decode cX11_fault 9 = .ok (.aload_n 0, 1) := by decide +kernel
theorem dX11_fault_10 : decode cX11_fault 10 = .ok (.getfield 17, 3) := by decide +kernel
theorem dX11_fault_13 : decode cX11_fault 13 = .ok (.iconst 0, 1) := by decide +kernel
theorem dX11_fault_14 : decode cX11_fault 14 = .ok (.iaload, 1) := by decide +kernel
theorem dX11_fault_15 : decode cX11_fault 15 = .ok (.goto 18, 3) := by decide +kernel
theorem dX11_fault_18 : decode cX11_fault 18 = .ok (.iload_n 1, 1) := by decide +kernel
theorem dX11_fault_19 : decode cX11_fault 19 = .ok (.iconst 1, 1) := by decide +kernel
theorem dX11_fault_20 : decode cX11_fault 20 = .ok (.if_icmp .ne 12, 3) := by decide +kernel
theorem dX11_fault_23 : decode cX11_fault 23 = .ok (.aload_n 0, 1) := by decide +kernel
theorem dX11_fault_24 : decode cX11_fault 24 = .ok (.getfield 20, 3) := by decide +kernel
theorem dX11_fault_27 : decode cX11_fault 27 = .ok (.iconst 0, 1) := by decide +kernel
theorem dX11_fault_28 : decode cX11_fault 28 = .ok (.iaload, 1) := by decide +kernel
theorem dX11_fault_29 : decode cX11_fault 29 = .ok (.goto 4, 3) := by decide +kernel
theorem dX11_fault_32 : decode cX11_fault 32 = .ok (.iconst (-1), 1) := by decide +kernel
theorem dX11_fault_33 : decode cX11_fault 33 = .ok (.ireturn, 1) := by decide +kernel
theorem dX11_rule_0 : decode cX11_rule 0 = .ok (.aload_n 0, 1) := by decide +kernel
theorem dX11_rule_1 : decode cX11_rule 1 = .ok (.iconst 0, 1) := by decide +kernel
theorem dX11_rule_2 : decode cX11_rule 2 = .ok (.putfield 220, 3) := by decide +kernel
theorem dX11_rule_5 : decode cX11_rule 5 = .ok (.aload_n 0, 1) := by decide +kernel
theorem dX11_rule_6 : decode cX11_rule 6 = .ok (.iload_n 1, 1) := by decide +kernel
theorem dX11_rule_7 : decode cX11_rule 7 = .ok (.iload_n 3, 1) := by decide +kernel
theorem dX11_rule_8 : decode cX11_rule 8 = .ok (.invokevirtual 279, 3) := by decide +kernel
theorem dX11_rule_11 : decode cX11_rule 11 = .ok (.ifCond .eq 21, 3) := by decide +kernel
theorem dX11_rule_14 : decode cX11_rule 14 = .ok (.aload_n 0, 1) := by decide +kernel
theorem dX11_rule_15 : decode cX11_rule 15 = .ok (.iload_n 2, 1) := by decide +kernel
theorem dX11_rule_16 : decode cX11_rule 16 = .ok (.invokevirtual 317, 3) := by decide +kernel
theorem dX11_rule_19 : decode cX11_rule 19 = .ok (.ifCond .eq 13, 3) := by decide +kernel
theorem dX11_rule_22 : decode cX11_rule 22 = .ok (.iload 4, 2) := by decide +kernel
theorem dX11_rule_24 : decode cX11_rule 24 = .ok (.iconst 0, 1) := by decide +kernel
theorem dX11_rule_25 : decode cX11_rule 25 = .ok (.iconst 2, 1) := by decide +kernel
theorem dX11_rule_26 : decode cX11_rule 26 = .ok (.invokestatic 232, 3) := by decide +kernel
theorem dX11_rule_29 : decode cX11_rule 29 = .ok (.ifCond .ne 6, 3) := by decide +kernel
theorem dX11_rule_32 : decode cX11_rule 32 = .ok (.bipush (-2), 2) := by decide +kernel
theorem dX11_rule_34 : decode cX11_rule 34 = .ok (.ireturn, 1) := by decide +kernel
theorem dX11_rule_35 : decode cX11_rule 35 = .ok (.aload_n 0, 1) := by decide +kernel
theorem dX11_rule_36 : decode cX11_rule 36 = .ok (.iload_n 1, 1) := by decide +kernel
theorem dX11_rule_37 : decode cX11_rule 37 = .ok (.iload_n 2, 1) := by decide +kernel
theorem dX11_rule_38 : decode cX11_rule 38 = .ok (.iload_n 3, 1) := by decide +kernel
theorem dX11_rule_39 : decode cX11_rule 39 = .ok (.aload_n 0, 1) := by decide +kernel
theorem dX11_rule_40 : decode cX11_rule 40 = .ok (.invokevirtual 283, 3) := by decide +kernel
theorem dX11_rule_43 : decode cX11_rule 43 = .ok (.invokevirtual 320, 3) := by decide +kernel
theorem dX11_rule_46 : decode cX11_rule 46 = .ok (.iload 4, 2) := by decide +kernel
theorem dX11_rule_48 : decode cX11_rule 48 = .ok (.ifCond .ne 11, 3) := by decide +kernel
theorem dX11_rule_51 : decode cX11_rule 51 = .ok (.aload_n 0, 1) := by decide +kernel
theorem dX11_rule_52 : decode cX11_rule 52 = .ok (.iconst 0, 1) := by decide +kernel
theorem dX11_rule_53 : decode cX11_rule 53 = .ok (.invokevirtual 313, 3) := by decide +kernel
theorem dX11_rule_56 : decode cX11_rule 56 = .ok (.goto 24, 3) := by decide +kernel
theorem dX11_rule_59 : decode cX11_rule 59 = .ok (.iload 4, 2) := by decide +kernel
theorem dX11_rule_61 : decode cX11_rule 61 = .ok (.iconst 1, 1) := by decide +kernel
theorem dX11_rule_62 : decode cX11_rule 62 = .ok (.if_icmp .ne 12, 3) := by decide +kernel
theorem dX11_rule_65 : decode cX11_rule 65 = .ok (.aload_n 0, 1) := by decide +kernel
theorem dX11_rule_66 : decode cX11_rule 66 = .ok (.iconst 1, 1) := by decide +kernel
theorem dX11_rule_67 : decode cX11_rule 67 = .ok (.iconst 4, 1) := by decide +kernel
theorem dX11_rule_68 : decode cX11_rule 68 = .ok (.invokevirtual 324, 3) := by decide +kernel
theorem dX11_rule_71 : decode cX11_rule 71 = .ok (.goto 9, 3) := by decide +kernel
theorem dX11_rule_74 : decode cX11_rule 74 = .ok (.aload_n 0, 1) := by decide +kernel
theorem dX11_rule_75 : decode cX11_rule 75 = .ok (.iconst 2, 1) := by decide +kernel
theorem dX11_rule_76 : decode cX11_rule 76 = .ok (.iconst 0, 1) := by decide +kernel
theorem dX11_rule_77 : decode cX11_rule 77 = .ok (.invokevirtual 324, 3) := by decide +kernel
theorem dX11_rule_80 : decode cX11_rule 80 = .ok (.ireturn, 1) := by decide +kernel
theorem dX11_findFar_0 : decode cX11_findFar 0 = .ok (.iconst 0, 1) := by decide +kernel
theorem dX11_findFar_1 : decode cX11_findFar 1 = .ok (.istore_n 1, 1) := by decide +kernel
theorem dX11_findFar_2 : decode cX11_findFar 2 = .ok (.iload_n 1, 1) := by decide +kernel
theorem dX11_findFar_3 : decode cX11_findFar 3 = .ok (.bipush 100, 2) := by decide +kernel
theorem dX11_findFar_5 : decode cX11_findFar 5 = .ok (.if_icmp .ge 51, 3) := by decide +kernel
theorem dX11_findFar_8 : decode cX11_findFar 8 = .ok (.aload_n 0, 1) := by decide +kernel
theorem dX11_findFar_9 : decode cX11_findFar 9 = .ok (.getfield 205, 3) := by decide +kernel
theorem dX11_findFar_12 : decode cX11_findFar 12 = .ok (.iload_n 1, 1) := by decide +kernel
theorem dX11_findFar_13 : decode cX11_findFar 13 = .ok (.iload_n 1, 1) := by decide +kernel
theorem dX11_findFar_14 : decode cX11_findFar 14 = .ok (.bipush 10, 2) := by decide +kernel
theorem dX11_findFar_16 : decode cX11_findFar 16 = .ok (.idiv, 1) := by decide +kernel
theorem dX11_findFar_17 : decode cX11_findFar 17 = .ok (.iload_n 1, 1) := by decide +kernel
theorem dX11_findFar_18 : decode cX11_findFar 18 = .ok (.bipush 10, 2) := by decide +kernel
theorem dX11_findFar_20 : decode cX11_findFar 20 = .ok (.irem, 1) := by decide +kernel
theorem dX11_findFar_21 : decode cX11_findFar 21 = .ok (.if_icmp .ne 7, 3) := by decide +kernel
theorem dX11_findFar_24 : decode cX11_findFar 24 = .ok (.iconst 0, 1) := by decide +kernel
theorem dX11_findFar_25 : decode cX11_findFar 25 = .ok (.goto 24, 3) := by decide +kernel
theorem dX11_findFar_28 : decode cX11_findFar 28 = .ok (.aload_n 0, 1) := by decide +kernel
theorem dX11_findFar_29 : decode cX11_findFar 29 = .ok (.getfield 36, 3) := by decide +kernel
theorem dX11_findFar_32 : decode cX11_findFar 32 = .ok (.iload_n 1, 1) := by decide +kernel
theorem dX11_findFar_33 : decode cX11_findFar 33 = .ok (.iaload, 1) := by decide +kernel
theorem dX11_findFar_34 : decode cX11_findFar 34 = .ok (.ifCond .le 12, 3) := by decide +kernel
theorem dX11_findFar_37 : decode cX11_findFar 37 = .ok (.aload_n 0, 1) := by decide +kernel
theorem dX11_findFar_38 : decode cX11_findFar 38 = .ok (.getfield 36, 3) := by decide +kernel
theorem dX11_findFar_41 : decode cX11_findFar 41 = .ok (.iload_n 1, 1) := by decide +kernel
theorem dX11_findFar_42 : decode cX11_findFar 42 = .ok (.iaload, 1) := by decide +kernel
theorem dX11_findFar_43 : decode cX11_findFar 43 = .ok (.goto 6, 3) := by decide +kernel
theorem dX11_findFar_46 : decode cX11_findFar 46 = .ok (.ldc_w 256, 3) := by decide +kernel
theorem dX11_findFar_49 : decode cX11_findFar 49 = .ok (.iastore, 1) := by decide +kernel
theorem dX11_findFar_50 : decode cX11_findFar 50 = .ok (.iinc 1 1, 3) := by decide +kernel
theorem dX11_findFar_53 : decode cX11_findFar 53 = .ok (.goto (-51), 3) := by decide +kernel
theorem dX11_findFar_56 : decode cX11_findFar 56 = .ok (.iconst 0, 1) := by decide +kernel
theorem dX11_findFar_57 : decode cX11_findFar 57 = .ok (.istore_n 1, 1) := by decide +kernel
theorem dX11_findFar_58 : decode cX11_findFar 58 = .ok (.iload_n 1, 1) := by decide +kernel
theorem dX11_findFar_59 : decode cX11_findFar 59 = .ok (.bipush 10, 2) := by decide +kernel
theorem dX11_findFar_61 : decode cX11_findFar 61 = .ok (.if_icmp .ge 78, 3) := by decide +kernel
theorem dX11_findFar_64 : decode cX11_findFar 64 = .ok (.iconst 0, 1) := by decide +kernel
theorem dX11_findFar_65 : decode cX11_findFar 65 = .ok (.istore_n 2, 1) := by decide +kernel
theorem dX11_findFar_66 : decode cX11_findFar 66 = .ok (.iload_n 2, 1) := by decide +kernel
theorem dX11_findFar_67 : decode cX11_findFar 67 = .ok (.bipush 100, 2) := by decide +kernel
theorem dX11_findFar_69 : decode cX11_findFar 69 = .ok (.if_icmp .ge 64, 3) := by decide +kernel
theorem dX11_findFar_72 : decode cX11_findFar 72 = .ok (.aload_n 0, 1) := by decide +kernel
theorem dX11_findFar_73 : decode cX11_findFar 73 = .ok (.getfield 205, 3) := by decide +kernel
theorem dX11_findFar_76 : decode cX11_findFar 76 = .ok (.iload_n 2, 1) := by decide +kernel
theorem dX11_findFar_77 : decode cX11_findFar 77 = .ok (.iload_n 2, 1) := by decide +kernel
theorem dX11_findFar_78 : decode cX11_findFar 78 = .ok (.bipush 10, 2) := by decide +kernel
theorem dX11_findFar_80 : decode cX11_findFar 80 = .ok (.irem, 1) := by decide +kernel
theorem dX11_findFar_81 : decode cX11_findFar 81 = .ok (.isub, 1) := by decide +kernel
theorem dX11_findFar_82 : decode cX11_findFar 82 = .ok (.iload_n 1, 1) := by decide +kernel
theorem dX11_findFar_83 : decode cX11_findFar 83 = .ok (.iadd, 1) := by decide +kernel
theorem dX11_findFar_84 : decode cX11_findFar 84 = .ok (.iaload, 1) := by decide +kernel
theorem dX11_findFar_85 : decode cX11_findFar 85 = .ok (.aload_n 0, 1) := by decide +kernel
theorem dX11_findFar_86 : decode cX11_findFar 86 = .ok (.getfield 205, 3) := by decide +kernel
theorem dX11_findFar_89 : decode cX11_findFar 89 = .ok (.bipush 10, 2) := by decide +kernel
theorem dX11_findFar_91 : decode cX11_findFar 91 = .ok (.iload_n 1, 1) := by decide +kernel
theorem dX11_findFar_92 : decode cX11_findFar 92 = .ok (.imul, 1) := by decide +kernel
theorem dX11_findFar_93 : decode cX11_findFar 93 = .ok (.iload_n 2, 1) := by decide +kernel
theorem dX11_findFar_94 : decode cX11_findFar 94 = .ok (.bipush 10, 2) := by decide +kernel
theorem dX11_findFar_96 : decode cX11_findFar 96 = .ok (.irem, 1) := by decide +kernel
theorem dX11_findFar_97 : decode cX11_findFar 97 = .ok (.iadd, 1) := by decide +kernel
theorem dX11_findFar_98 : decode cX11_findFar 98 = .ok (.iaload, 1) := by decide +kernel
theorem dX11_findFar_99 : decode cX11_findFar 99 = .ok (.iadd, 1) := by decide +kernel
theorem dX11_findFar_100 : decode cX11_findFar 100 = .ok (.istore_n 3, 1) := by decide +kernel
theorem dX11_findFar_101 : decode cX11_findFar 101 = .ok (.aload_n 0, 1) := by decide +kernel
theorem dX11_findFar_102 : decode cX11_findFar 102 = .ok (.getfield 205, 3) := by decide +kernel
theorem dX11_findFar_105 : decode cX11_findFar 105 = .ok (.iload_n 2, 1) := by decide +kernel
theorem dX11_findFar_106 : decode cX11_findFar 106 = .ok (.iload_n 3, 1) := by decide +kernel
theorem dX11_findFar_107 : decode cX11_findFar 107 = .ok (.aload_n 0, 1) := by decide +kernel
theorem dX11_findFar_108 : decode cX11_findFar 108 = .ok (.getfield 205, 3) := by decide +kernel
theorem dX11_findFar_111 : decode cX11_findFar 111 = .ok (.iload_n 2, 1) := by decide +kernel
theorem dX11_findFar_112 : decode cX11_findFar 112 = .ok (.iaload, 1) := by decide +kernel
theorem dX11_findFar_113 : decode cX11_findFar 113 = .ok (.if_icmp .ge 7, 3) := by decide +kernel
theorem dX11_findFar_116 : decode cX11_findFar 116 = .ok (.iload_n 3, 1) := by decide +kernel
theorem dX11_findFar_117 : decode cX11_findFar 117 = .ok (.goto 9, 3) := by decide +kernel
theorem dX11_findFar_120 : decode cX11_findFar 120 = .ok (.aload_n 0, 1) := by decide +kernel
theorem dX11_findFar_121 : decode cX11_findFar 121 = .ok (.getfield 205, 3) := by decide +kernel
theorem dX11_findFar_124 : decode cX11_findFar 124 = .ok (.iload_n 2, 1) := by decide +kernel
theorem dX11_findFar_125 : decode cX11_findFar 125 = .ok (.iaload, 1) := by decide +kernel
theorem dX11_findFar_126 : decode cX11_findFar 126 = .ok (.iastore, 1) := by decide +kernel
theorem dX11_findFar_127 : decode cX11_findFar 127 = .ok (.iinc 2 1, 3) := by decide +kernel
theorem dX11_findFar_130 : decode cX11_findFar 130 = .ok (.goto (-64), 3) := by decide +kernel
theorem dX11_findFar_133 : decode cX11_findFar 133 = .ok (.iinc 1 1, 3) := by decide +kernel
theorem dX11_findFar_136 : decode cX11_findFar 136 = .ok (.goto (-78), 3) := by decide +kernel
theorem dX11_findFar_139 : decode cX11_findFar 139 = .ok (.return_, 1) := by decide +kernel
theorem dX11_cheaper_0 : decode cX11_cheaper 0 = .ok (.iload_n 0, 1) := by decide +kernel
theorem dX11_cheaper_1 : decode cX11_cheaper 1 = .ok (.iload_n 1, 1) := by decide +kernel
theorem dX11_cheaper_2 : decode cX11_cheaper 2 = .ok (.if_icmp .ge 7, 3) := by decide +kernel
theorem dX11_cheaper_5 : decode cX11_cheaper 5 = .ok (.iload_n 0, 1) := by decide +kernel
theorem dX11_cheaper_6 : decode cX11_cheaper 6 = .ok (.goto 4, 3) := by decide +kernel
theorem dX11_cheaper_9 : decode cX11_cheaper 9 = .ok (.iload_n 1, 1) := by decide +kernel
theorem dX11_cheaper_10 : decode cX11_cheaper 10 = .ok (.ireturn, 1) := by decide +kernel
theorem dX11_findLeast_0 : decode cX11_findLeast 0 = .ok (.iconst 1, 1) := by decide +kernel
theorem dX11_findLeast_1 : decode cX11_findLeast 1 = .ok (.istore_n 1, 1) := by decide +kernel
theorem dX11_findLeast_2 : decode cX11_findLeast 2 = .ok (.iload_n 1, 1) := by decide +kernel
theorem dX11_findLeast_3 : decode cX11_findLeast 3 = .ok (.sipush 512, 3) := by decide +kernel
theorem dX11_findLeast_6 : decode cX11_findLeast 6 = .ok (.if_icmp .ge 150, 3) := by decide +kernel
theorem dX11_findLeast_9 : decode cX11_findLeast 9 = .ok (.iconst 1, 1) := by decide +kernel
theorem dX11_findLeast_10 : decode cX11_findLeast 10 = .ok (.istore_n 2, 1) := by decide +kernel
theorem dX11_findLeast_11 : decode cX11_findLeast 11 = .ok (.iload_n 2, 1) := by decide +kernel
theorem dX11_findLeast_12 : decode cX11_findLeast 12 = .ok (.bipush 10, 2) := by decide +kernel
theorem dX11_findLeast_14 : decode cX11_findLeast 14 = .ok (.if_icmp .ge 136, 3) := by decide +kernel
theorem dX11_findLeast_17 : decode cX11_findLeast 17 = .ok (.bipush 10, 2) := by decide +kernel
theorem dX11_findLeast_19 : decode cX11_findLeast 19 = .ok (.iload_n 1, 1) := by decide +kernel
theorem dX11_findLeast_20 : decode cX11_findLeast 20 = .ok (.imul, 1) := by decide +kernel
theorem dX11_findLeast_21 : decode cX11_findLeast 21 = .ok (.iload_n 2, 1) := by decide +kernel
theorem dX11_findLeast_22 : decode cX11_findLeast 22 = .ok (.iadd, 1) := by decide +kernel
theorem dX11_findLeast_23 : decode cX11_findLeast 23 = .ok (.istore_n 3, 1) := by decide +kernel
theorem dX11_findLeast_24 : decode cX11_findLeast 24 = .ok (.iconst 1, 1) := by decide +kernel
theorem dX11_findLeast_25 : decode cX11_findLeast 25 = .ok (.iload_n 2, 1) := by decide +kernel
theorem dX11_findLeast_26 : decode cX11_findLeast 26 = .ok (.iconst 1, 1) := by decide +kernel
theorem dX11_findLeast_27 : decode cX11_findLeast 27 = .ok (.isub, 1) := by decide +kernel
theorem dX11_findLeast_28 : decode cX11_findLeast 28 = .ok (.ishl, 1) := by decide +kernel
theorem dX11_findLeast_29 : decode cX11_findLeast 29 = .ok (.istore 4, 2) := by decide +kernel
theorem dX11_findLeast_31 : decode cX11_findLeast 31 = .ok (.aload_n 0, 1) := by decide +kernel
theorem dX11_findLeast_32 : decode cX11_findLeast 32 = .ok (.getfield 208, 3) := by decide +kernel
theorem dX11_findLeast_35 : decode cX11_findLeast 35 = .ok (.iload_n 3, 1) := by decide +kernel
theorem dX11_findLeast_36 : decode cX11_findLeast 36 = .ok (.iload_n 1, 1) := by decide +kernel
theorem dX11_findLeast_37 : decode cX11_findLeast 37 = .ok (.iload 4, 2) := by decide +kernel
theorem dX11_findLeast_39 : decode cX11_findLeast 39 = .ok (.if_icmp .ne 12, 3) := by decide +kernel
theorem dX11_findLeast_42 : decode cX11_findLeast 42 = .ok (.aload_n 0, 1) := by decide +kernel
theorem dX11_findLeast_43 : decode cX11_findLeast 43 = .ok (.getfield 205, 3) := by decide +kernel
theorem dX11_findLeast_46 : decode cX11_findLeast 46 = .ok (.iload_n 2, 1) := by decide +kernel
theorem dX11_findLeast_47 : decode cX11_findLeast 47 = .ok (.iaload, 1) := by decide +kernel
theorem dX11_findLeast_48 : decode cX11_findLeast 48 = .ok (.goto 6, 3) := by decide +kernel
theorem dX11_findLeast_51 : decode cX11_findLeast 51 = .ok (.ldc_w 256, 3) := by decide +kernel
theorem dX11_findLeast_54 : decode cX11_findLeast 54 = .ok (.iastore, 1) := by decide +kernel
theorem dX11_findLeast_55 : decode cX11_findLeast 55 = .ok (.iconst 1, 1) := by decide +kernel
theorem dX11_findLeast_56 : decode cX11_findLeast 56 = .ok (.istore 5, 2) := by decide +kernel
theorem dX11_findLeast_58 : decode cX11_findLeast 58 = .ok (.iload 5, 2) := by decide +kernel
theorem dX11_findLeast_60 : decode cX11_findLeast 60 = .ok (.bipush 10, 2) := by decide +kernel
theorem dX11_findLeast_62 : decode cX11_findLeast 62 = .ok (.if_icmp .ge 82, 3) := by decide +kernel
theorem dX11_findLeast_65 : decode cX11_findLeast 65 = .ok (.iload_n 1, 1) := by decide +kernel
theorem dX11_findLeast_66 : decode cX11_findLeast 66 = .ok (.iload 4, 2) := by decide +kernel
theorem dX11_findLeast_68 : decode cX11_findLeast 68 = .ok (.iand, 1) := by decide +kernel
theorem dX11_findLeast_69 : decode cX11_findLeast 69 = .ok (.ifCond .eq 75, 3) := by decide +kernel
theorem dX11_findLeast_72 : decode cX11_findLeast 72 = .ok (.iload_n 1, 1) := by decide +kernel
theorem dX11_findLeast_73 : decode cX11_findLeast 73 = .ok (.iload 4, 2) := by decide +kernel
theorem dX11_findLeast_75 : decode cX11_findLeast 75 = .ok (.if_icmp .eq 69, 3) := by decide +kernel
theorem dX11_findLeast_78 : decode cX11_findLeast 78 = .ok (.iload 5, 2) := by decide +kernel
theorem dX11_findLeast_80 : decode cX11_findLeast 80 = .ok (.iload_n 2, 1) := by decide +kernel
theorem dX11_findLeast_81 : decode cX11_findLeast 81 = .ok (.if_icmp .eq 57, 3) := by decide +kernel
theorem dX11_findLeast_84 : decode cX11_findLeast 84 = .ok (.iload_n 1, 1) := by decide +kernel
theorem dX11_findLeast_85 : decode cX11_findLeast 85 = .ok (.iload 5, 2) := by decide +kernel
theorem dX11_findLeast_87 : decode cX11_findLeast 87 = .ok (.iconst 1, 1) := by decide +kernel
theorem dX11_findLeast_88 : decode cX11_findLeast 88 = .ok (.isub, 1) := by decide +kernel
theorem dX11_findLeast_89 : decode cX11_findLeast 89 = .ok (.ishr, 1) := by decide +kernel
theorem dX11_findLeast_90 : decode cX11_findLeast 90 = .ok (.iconst 1, 1) := by decide +kernel
theorem dX11_findLeast_91 : decode cX11_findLeast 91 = .ok (.iand, 1) := by decide +kernel
theorem dX11_findLeast_92 : decode cX11_findLeast 92 = .ok (.ifCond .eq 46, 3) := by decide +kernel
theorem dX11_findLeast_95 : decode cX11_findLeast 95 = .ok (.aload_n 0, 1) := by decide +kernel
theorem dX11_findLeast_96 : decode cX11_findLeast 96 = .ok (.getfield 208, 3) := by decide +kernel
theorem dX11_findLeast_99 : decode cX11_findLeast 99 = .ok (.iload_n 3, 1) := by decide +kernel
theorem dX11_findLeast_100 : decode cX11_findLeast 100 = .ok (.aload_n 0, 1) := by decide +kernel
theorem dX11_findLeast_101 : decode cX11_findLeast 101 = .ok (.getfield 208, 3) := by decide +kernel
theorem dX11_findLeast_104 : decode cX11_findLeast 104 = .ok (.iload_n 3, 1) := by decide +kernel
theorem dX11_findLeast_105 : decode cX11_findLeast 105 = .ok (.iaload, 1) := by decide +kernel
theorem dX11_findLeast_106 : decode cX11_findLeast 106 = .ok (.aload_n 0, 1) := by decide +kernel
theorem dX11_findLeast_107 : decode cX11_findLeast 107 = .ok (.getfield 208, 3) := by decide +kernel
theorem dX11_findLeast_110 : decode cX11_findLeast 110 = .ok (.bipush 10, 2) := by decide +kernel
theorem dX11_findLeast_112 : decode cX11_findLeast 112 = .ok (.iload_n 1, 1) := by decide +kernel
theorem dX11_findLeast_113 : decode cX11_findLeast 113 = .ok (.iload 4, 2) := by decide +kernel
theorem dX11_findLeast_115 : decode cX11_findLeast 115 = .ok (.ixor, 1) := by decide +kernel
theorem dX11_findLeast_116 : decode cX11_findLeast 116 = .ok (.imul, 1) := by decide +kernel
theorem dX11_findLeast_117 : decode cX11_findLeast 117 = .ok (.iload 5, 2) := by decide +kernel
theorem dX11_findLeast_119 : decode cX11_findLeast 119 = .ok (.iadd, 1) := by decide +kernel
theorem dX11_findLeast_120 : decode cX11_findLeast 120 = .ok (.iaload, 1) := by decide +kernel
theorem dX11_findLeast_121 : decode cX11_findLeast 121 = .ok (.aload_n 0, 1) := by decide +kernel
theorem dX11_findLeast_122 : decode cX11_findLeast 122 = .ok (.getfield 205, 3) := by decide +kernel
theorem dX11_findLeast_125 : decode cX11_findLeast 125 = .ok (.bipush 10, 2) := by decide +kernel
theorem dX11_findLeast_127 : decode cX11_findLeast 127 = .ok (.iload 5, 2) := by decide +kernel
theorem dX11_findLeast_129 : decode cX11_findLeast 129 = .ok (.imul, 1) := by decide +kernel
theorem dX11_findLeast_130 : decode cX11_findLeast 130 = .ok (.iload_n 2, 1) := by decide +kernel
theorem dX11_findLeast_131 : decode cX11_findLeast 131 = .ok (.iadd, 1) := by decide +kernel
theorem dX11_findLeast_132 : decode cX11_findLeast 132 = .ok (.iaload, 1) := by decide +kernel
theorem dX11_findLeast_133 : decode cX11_findLeast 133 = .ok (.iadd, 1) := by decide +kernel
theorem dX11_findLeast_134 : decode cX11_findLeast 134 = .ok (.invokestatic 430, 3) := by decide +kernel
theorem dX11_findLeast_137 : decode cX11_findLeast 137 = .ok (.iastore, 1) := by decide +kernel
theorem dX11_findLeast_138 : decode cX11_findLeast 138 = .ok (.iinc 5 1, 3) := by decide +kernel
theorem dX11_findLeast_141 : decode cX11_findLeast 141 = .ok (.goto (-83), 3) := by decide +kernel
theorem dX11_findLeast_144 : decode cX11_findLeast 144 = .ok (.iinc 2 1, 3) := by decide +kernel
theorem dX11_findLeast_147 : decode cX11_findLeast 147 = .ok (.goto (-136), 3) := by decide +kernel
theorem dX11_findLeast_150 : decode cX11_findLeast 150 = .ok (.iinc 1 1, 3) := by decide +kernel
theorem dX11_findLeast_153 : decode cX11_findLeast 153 = .ok (.goto (-151), 3) := by decide +kernel
theorem dX11_findLeast_156 : decode cX11_findLeast 156 = .ok (.return_, 1) := by decide +kernel
theorem dX11_daysOf_0 : decode cX11_daysOf 0 = .ok (.iload_n 1, 1) := by decide +kernel
theorem dX11_daysOf_1 : decode cX11_daysOf 1 = .ok (.ifCond .ne 7, 3) := by decide +kernel
theorem dX11_daysOf_4 : decode cX11_daysOf 4 = .ok (.iconst 0, 1) := by decide +kernel
theorem dX11_daysOf_5 : decode cX11_daysOf 5 = .ok (.goto 6, 3) := by decide +kernel
theorem dX11_daysOf_8 : decode cX11_daysOf 8 = .ok (.ldc_w 256, 3) := by decide +kernel
theorem dX11_daysOf_11 : decode cX11_daysOf 11 = .ok (.istore_n 2, 1) := by decide +kernel
theorem dX11_daysOf_12 : decode cX11_daysOf 12 = .ok (.iconst 1, 1) := by decide +kernel
theorem dX11_daysOf_13 : decode cX11_daysOf 13 = .ok (.istore_n 3, 1) := by decide +kernel
theorem dX11_daysOf_14 : decode cX11_daysOf 14 = .ok (.iload_n 3, 1) := by decide +kernel
theorem dX11_daysOf_15 : decode cX11_daysOf 15 = .ok (.bipush 10, 2) := by decide +kernel
theorem dX11_daysOf_17 : decode cX11_daysOf 17 = .ok (.if_icmp .ge 42, 3) := by decide +kernel
theorem dX11_daysOf_20 : decode cX11_daysOf 20 = .ok (.iload_n 1, 1) := by decide +kernel
theorem dX11_daysOf_21 : decode cX11_daysOf 21 = .ok (.iload_n 3, 1) := by decide +kernel
theorem dX11_daysOf_22 : decode cX11_daysOf 22 = .ok (.iconst 1, 1) := by decide +kernel
theorem dX11_daysOf_23 : decode cX11_daysOf 23 = .ok (.isub, 1) := by decide +kernel
theorem dX11_daysOf_24 : decode cX11_daysOf 24 = .ok (.ishr, 1) := by decide +kernel
theorem dX11_daysOf_25 : decode cX11_daysOf 25 = .ok (.iconst 1, 1) := by decide +kernel
theorem dX11_daysOf_26 : decode cX11_daysOf 26 = .ok (.iand, 1) := by decide +kernel
theorem dX11_daysOf_27 : decode cX11_daysOf 27 = .ok (.ifCond .eq 26, 3) := by decide +kernel
theorem dX11_daysOf_30 : decode cX11_daysOf 30 = .ok (.iload_n 2, 1) := by decide +kernel
theorem dX11_daysOf_31 : decode cX11_daysOf 31 = .ok (.aload_n 0, 1) := by decide +kernel
theorem dX11_daysOf_32 : decode cX11_daysOf 32 = .ok (.getfield 208, 3) := by decide +kernel
theorem dX11_daysOf_35 : decode cX11_daysOf 35 = .ok (.bipush 10, 2) := by decide +kernel
theorem dX11_daysOf_37 : decode cX11_daysOf 37 = .ok (.iload_n 1, 1) := by decide +kernel
theorem dX11_daysOf_38 : decode cX11_daysOf 38 = .ok (.imul, 1) := by decide +kernel
theorem dX11_daysOf_39 : decode cX11_daysOf 39 = .ok (.iload_n 3, 1) := by decide +kernel
theorem dX11_daysOf_40 : decode cX11_daysOf 40 = .ok (.iadd, 1) := by decide +kernel
theorem dX11_daysOf_41 : decode cX11_daysOf 41 = .ok (.iaload, 1) := by decide +kernel
theorem dX11_daysOf_42 : decode cX11_daysOf 42 = .ok (.aload_n 0, 1) := by decide +kernel
theorem dX11_daysOf_43 : decode cX11_daysOf 43 = .ok (.getfield 205, 3) := by decide +kernel
theorem dX11_daysOf_46 : decode cX11_daysOf 46 = .ok (.iload_n 3, 1) := by decide +kernel
theorem dX11_daysOf_47 : decode cX11_daysOf 47 = .ok (.iaload, 1) := by decide +kernel
theorem dX11_daysOf_48 : decode cX11_daysOf 48 = .ok (.iadd, 1) := by decide +kernel
theorem dX11_daysOf_49 : decode cX11_daysOf 49 = .ok (.invokestatic 430, 3) := by decide +kernel
theorem dX11_daysOf_52 : decode cX11_daysOf 52 = .ok (.istore_n 2, 1) := by decide +kernel
theorem dX11_daysOf_53 : decode cX11_daysOf 53 = .ok (.iinc 3 1, 3) := by decide +kernel
theorem dX11_daysOf_56 : decode cX11_daysOf 56 = .ok (.goto (-42), 3) := by decide +kernel
theorem dX11_daysOf_59 : decode cX11_daysOf 59 = .ok (.iload_n 2, 1) := by decide +kernel
theorem dX11_daysOf_60 : decode cX11_daysOf 60 = .ok (.ireturn, 1) := by decide +kernel
theorem dX11_findRound_0 : decode cX11_findRound 0 = .ok (.iload_n 1, 1) := by decide +kernel
theorem dX11_findRound_1 : decode cX11_findRound 1 = .ok (.invokestatic 240, 3) := by decide +kernel
theorem dX11_findRound_4 : decode cX11_findRound 4 = .ok (.ifCond .eq 22, 3) := by decide +kernel
theorem dX11_findRound_7 : decode cX11_findRound 7 = .ok (.iload_n 2, 1) := by decide +kernel
theorem dX11_findRound_8 : decode cX11_findRound 8 = .ok (.iconst 1, 1) := by decide +kernel
theorem dX11_findRound_9 : decode cX11_findRound 9 = .ok (.bipush 60, 2) := by decide +kernel
theorem dX11_findRound_11 : decode cX11_findRound 11 = .ok (.invokestatic 232, 3) := by decide +kernel
theorem dX11_findRound_14 : decode cX11_findRound 14 = .ok (.ifCond .eq 12, 3) := by decide +kernel
theorem dX11_findRound_17 : decode cX11_findRound 17 = .ok (.aload_n 0, 1) := by decide +kernel
theorem dX11_findRound_18 : decode cX11_findRound 18 = .ok (.getfield 29, 3) := by decide +kernel
theorem dX11_findRound_21 : decode cX11_findRound 21 = .ok (.iconst 0, 1) := by decide +kernel
theorem dX11_findRound_22 : decode cX11_findRound 22 = .ok (.iaload, 1) := by decide +kernel
theorem dX11_findRound_23 : decode cX11_findRound 23 = .ok (.ifCond .ne 5, 3) := by decide +kernel
theorem dX11_findRound_26 : decode cX11_findRound 26 = .ok (.iconst 0, 1) := by decide +kernel
theorem dX11_findRound_27 : decode cX11_findRound 27 = .ok (.ireturn, 1) := by decide +kernel
theorem dX11_findRound_28 : decode cX11_findRound 28 = .ok (.iconst 0, 1) := by decide +kernel
theorem dX11_findRound_29 : decode cX11_findRound 29 = .ok (.istore_n 3, 1) := by decide +kernel
theorem dX11_findRound_30 : decode cX11_findRound 30 = .ok (.iload_n 3, 1) := by decide +kernel
theorem dX11_findRound_31 : decode cX11_findRound 31 = .ok (.bipush 10, 2) := by decide +kernel
theorem dX11_findRound_33 : decode cX11_findRound 33 = .ok (.if_icmp .ge 16, 3) := by decide +kernel
theorem dX11_findRound_36 : decode cX11_findRound 36 = .ok (.aload_n 0, 1) := by decide +kernel
theorem dX11_findRound_37 : decode cX11_findRound 37 = .ok (.getfield 211, 3) := by decide +kernel
theorem dX11_findRound_40 : decode cX11_findRound 40 = .ok (.iload_n 3, 1) := by decide +kernel
theorem dX11_findRound_41 : decode cX11_findRound 41 = .ok (.iconst 0, 1) := by decide +kernel
theorem dX11_findRound_42 : decode cX11_findRound 42 = .ok (.iastore, 1) := by decide +kernel
theorem dX11_findRound_43 : decode cX11_findRound 43 = .ok (.iinc 3 1, 3) := by decide +kernel
theorem dX11_findRound_46 : decode cX11_findRound 46 = .ok (.goto (-16), 3) := by decide +kernel
theorem dX11_findRound_49 : decode cX11_findRound 49 = .ok (.iconst 0, 1) := by decide +kernel
theorem dX11_findRound_50 : decode cX11_findRound 50 = .ok (.istore_n 3, 1) := by decide +kernel
theorem dX11_findRound_51 : decode cX11_findRound 51 = .ok (.iload_n 3, 1) := by decide +kernel
theorem dX11_findRound_52 : decode cX11_findRound 52 = .ok (.aload_n 0, 1) := by decide +kernel
theorem dX11_findRound_53 : decode cX11_findRound 53 = .ok (.getfield 39, 3) := by decide +kernel
theorem dX11_findRound_56 : decode cX11_findRound 56 = .ok (.iconst 0, 1) := by decide +kernel
theorem dX11_findRound_57 : decode cX11_findRound 57 = .ok (.iaload, 1) := by decide +kernel
theorem dX11_findRound_58 : decode cX11_findRound 58 = .ok (.if_icmp .ge 61, 3) := by decide +kernel
theorem dX11_findRound_61 : decode cX11_findRound 61 = .ok (.aload_n 0, 1) := by decide +kernel
theorem dX11_findRound_62 : decode cX11_findRound 62 = .ok (.iload_n 3, 1) := by decide +kernel
theorem dX11_findRound_63 : decode cX11_findRound 63 = .ok (.iload_n 1, 1) := by decide +kernel
theorem dX11_findRound_64 : decode cX11_findRound 64 = .ok (.invokevirtual 279, 3) := by decide +kernel
theorem dX11_findRound_67 : decode cX11_findRound 67 = .ok (.ifCond .eq 46, 3) := by decide +kernel
theorem dX11_findRound_70 : decode cX11_findRound 70 = .ok (.aload_n 0, 1) := by decide +kernel
theorem dX11_findRound_71 : decode cX11_findRound 71 = .ok (.iload_n 3, 1) := by decide +kernel
theorem dX11_findRound_72 : decode cX11_findRound 72 = .ok (.iload_n 1, 1) := by decide +kernel
theorem dX11_findRound_73 : decode cX11_findRound 73 = .ok (.aload_n 0, 1) := by decide +kernel
theorem dX11_findRound_74 : decode cX11_findRound 74 = .ok (.invokevirtual 283, 3) := by decide +kernel
theorem dX11_findRound_77 : decode cX11_findRound 77 = .ok (.invokevirtual 287, 3) := by decide +kernel
theorem dX11_findRound_80 : decode cX11_findRound 80 = .ok (.iconst 0, 1) := by decide +kernel
theorem dX11_findRound_81 : decode cX11_findRound 81 = .ok (.istore 4, 2) := by decide +kernel
theorem dX11_findRound_83 : decode cX11_findRound 83 = .ok (.iload 4, 2) := by decide +kernel
theorem dX11_findRound_85 : decode cX11_findRound 85 = .ok (.bipush 10, 2) := by decide +kernel
theorem dX11_findRound_87 : decode cX11_findRound 87 = .ok (.if_icmp .ge 26, 3) := by decide +kernel
theorem dX11_findRound_90 : decode cX11_findRound 90 = .ok (.aload_n 0, 1) := by decide +kernel
theorem dX11_findRound_91 : decode cX11_findRound 91 = .ok (.getfield 211, 3) := by decide +kernel
theorem dX11_findRound_94 : decode cX11_findRound 94 = .ok (.iload 4, 2) := by decide +kernel
theorem dX11_findRound_96 : decode cX11_findRound 96 = .ok (.dup2, 1) := by decide +kernel
theorem dX11_findRound_97 : decode cX11_findRound 97 = .ok (.iaload, 1) := by decide +kernel
theorem dX11_findRound_98 : decode cX11_findRound 98 = .ok (.aload_n 0, 1) := by decide +kernel
theorem dX11_findRound_99 : decode cX11_findRound 99 = .ok (.getfield 165, 3) := by decide +kernel
theorem dX11_findRound_102 : decode cX11_findRound 102 = .ok (.iload 4, 2) := by decide +kernel
theorem dX11_findRound_104 : decode cX11_findRound 104 = .ok (.iaload, 1) := by decide +kernel
theorem dX11_findRound_105 : decode cX11_findRound 105 = .ok (.iadd, 1) := by decide +kernel
theorem dX11_findRound_106 : decode cX11_findRound 106 = .ok (.iastore, 1) := by decide +kernel
theorem dX11_findRound_107 : decode cX11_findRound 107 = .ok (.iinc 4 1, 3) := by decide +kernel
theorem dX11_findRound_110 : decode cX11_findRound 110 = .ok (.goto (-27), 3) := by decide +kernel
theorem dX11_findRound_113 : decode cX11_findRound 113 = .ok (.iinc 3 1, 3) := by decide +kernel
theorem dX11_findRound_116 : decode cX11_findRound 116 = .ok (.goto (-65), 3) := by decide +kernel
theorem dX11_findRound_119 : decode cX11_findRound 119 = .ok (.aload_n 0, 1) := by decide +kernel
theorem dX11_findRound_120 : decode cX11_findRound 120 = .ok (.invokevirtual 433, 3) := by decide +kernel
theorem dX11_findRound_123 : decode cX11_findRound 123 = .ok (.aload_n 0, 1) := by decide +kernel
theorem dX11_findRound_124 : decode cX11_findRound 124 = .ok (.invokevirtual 436, 3) := by decide +kernel
theorem dX11_findRound_127 : decode cX11_findRound 127 = .ok (.aload_n 0, 1) := by decide +kernel
theorem dX11_findRound_128 : decode cX11_findRound 128 = .ok (.iconst (-1), 1) := by decide +kernel
theorem dX11_findRound_129 : decode cX11_findRound 129 = .ok (.putfield 439, 3) := by decide +kernel
theorem dX11_findRound_132 : decode cX11_findRound 132 = .ok (.aload_n 0, 1) := by decide +kernel
theorem dX11_findRound_133 : decode cX11_findRound 133 = .ok (.iconst 0, 1) := by decide +kernel
theorem dX11_findRound_134 : decode cX11_findRound 134 = .ok (.putfield 442, 3) := by decide +kernel
theorem dX11_findRound_137 : decode cX11_findRound 137 = .ok (.aload_n 0, 1) := by decide +kernel
theorem dX11_findRound_138 : decode cX11_findRound 138 = .ok (.iconst 0, 1) := by decide +kernel
theorem dX11_findRound_139 : decode cX11_findRound 139 = .ok (.putfield 445, 3) := by decide +kernel
theorem dX11_findRound_142 : decode cX11_findRound 142 = .ok (.iconst 0, 1) := by decide +kernel
theorem dX11_findRound_143 : decode cX11_findRound 143 = .ok (.istore_n 3, 1) := by decide +kernel
theorem dX11_findRound_144 : decode cX11_findRound 144 = .ok (.iload_n 3, 1) := by decide +kernel
theorem dX11_findRound_145 : decode cX11_findRound 145 = .ok (.sipush 512, 3) := by decide +kernel
theorem dX11_findRound_148 : decode cX11_findRound 148 = .ok (.if_icmp .ge 175, 3) := by decide +kernel
theorem dX11_findRound_151 : decode cX11_findRound 151 = .ok (.aload_n 0, 1) := by decide +kernel
theorem dX11_findRound_152 : decode cX11_findRound 152 = .ok (.getfield 32, 3) := by decide +kernel
theorem dX11_findRound_155 : decode cX11_findRound 155 = .ok (.iconst 0, 1) := by decide +kernel
theorem dX11_findRound_156 : decode cX11_findRound 156 = .ok (.baload, 1) := by decide +kernel
theorem dX11_findRound_157 : decode cX11_findRound 157 = .ok (.ifCond .eq 12, 3) := by decide +kernel
theorem dX11_findRound_160 : decode cX11_findRound 160 = .ok (.aload_n 0, 1) := by decide +kernel
theorem dX11_findRound_161 : decode cX11_findRound 161 = .ok (.getfield 211, 3) := by decide +kernel
theorem dX11_findRound_164 : decode cX11_findRound 164 = .ok (.iconst 0, 1) := by decide +kernel
theorem dX11_findRound_165 : decode cX11_findRound 165 = .ok (.iaload, 1) := by decide +kernel
theorem dX11_findRound_166 : decode cX11_findRound 166 = .ok (.goto 4, 3) := by decide +kernel
theorem dX11_findRound_169 : decode cX11_findRound 169 = .ok (.iconst 0, 1) := by decide +kernel
theorem dX11_findRound_170 : decode cX11_findRound 170 = .ok (.istore 4, 2) := by decide +kernel
theorem dX11_findRound_172 : decode cX11_findRound 172 = .ok (.iconst 1, 1) := by decide +kernel
theorem dX11_findRound_173 : decode cX11_findRound 173 = .ok (.istore 5, 2) := by decide +kernel
theorem dX11_findRound_175 : decode cX11_findRound 175 = .ok (.iconst 1, 1) := by decide +kernel
theorem dX11_findRound_176 : decode cX11_findRound 176 = .ok (.istore 6, 2) := by decide +kernel
theorem dX11_findRound_178 : decode cX11_findRound 178 = .ok (.iload 6, 2) := by decide +kernel
theorem dX11_findRound_180 : decode cX11_findRound 180 = .ok (.bipush 10, 2) := by decide +kernel
theorem dX11_findRound_182 : decode cX11_findRound 182 = .ok (.if_icmp .ge 65, 3) := by decide +kernel
theorem dX11_findRound_185 : decode cX11_findRound 185 = .ok (.iload_n 3, 1) := by decide +kernel
theorem dX11_findRound_186 : decode cX11_findRound 186 = .ok (.iload 6, 2) := by decide +kernel
theorem dX11_findRound_188 : decode cX11_findRound 188 = .ok (.iconst 1, 1) := by decide +kernel
theorem dX11_findRound_189 : decode cX11_findRound 189 = .ok (.isub, 1) := by decide +kernel
theorem dX11_findRound_190 : decode cX11_findRound 190 = .ok (.ishr, 1) := by decide +kernel
theorem dX11_findRound_191 : decode cX11_findRound 191 = .ok (.iconst 1, 1) := by decide +kernel
theorem dX11_findRound_192 : decode cX11_findRound 192 = .ok (.iand, 1) := by decide +kernel
theorem dX11_findRound_193 : decode cX11_findRound 193 = .ok (.ifCond .eq 48, 3) := by decide +kernel
theorem dX11_findRound_196 : decode cX11_findRound 196 = .ok (.iload 5, 2) := by decide +kernel
theorem dX11_findRound_198 : decode cX11_findRound 198 = .ok (.ifCond .eq 28, 3) := by decide +kernel
theorem dX11_findRound_201 : decode cX11_findRound 201 = .ok (.iload 6, 2) := by decide +kernel
theorem dX11_findRound_203 : decode cX11_findRound 203 = .ok (.aload_n 0, 1) := by decide +kernel
theorem dX11_findRound_204 : decode cX11_findRound 204 = .ok (.getfield 29, 3) := by decide +kernel
theorem dX11_findRound_207 : decode cX11_findRound 207 = .ok (.iconst 0, 1) := by decide +kernel
theorem dX11_findRound_208 : decode cX11_findRound 208 = .ok (.iaload, 1) := by decide +kernel
theorem dX11_findRound_209 : decode cX11_findRound 209 = .ok (.if_icmp .ge 17, 3) := by decide +kernel
theorem dX11_findRound_212 : decode cX11_findRound 212 = .ok (.aload_n 0, 1) := by decide +kernel
theorem dX11_findRound_213 : decode cX11_findRound 213 = .ok (.getfield 32, 3) := by decide +kernel
theorem dX11_findRound_216 : decode cX11_findRound 216 = .ok (.iload 6, 2) := by decide +kernel
theorem dX11_findRound_218 : decode cX11_findRound 218 = .ok (.baload, 1) := by decide +kernel
theorem dX11_findRound_219 : decode cX11_findRound 219 = .ok (.ifCond .eq 7, 3) := by decide +kernel
theorem dX11_findRound_222 : decode cX11_findRound 222 = .ok (.iconst 1, 1) := by decide +kernel
theorem dX11_findRound_223 : decode cX11_findRound 223 = .ok (.goto 4, 3) := by decide +kernel
theorem dX11_findRound_226 : decode cX11_findRound 226 = .ok (.iconst 0, 1) := by decide +kernel
theorem dX11_findRound_227 : decode cX11_findRound 227 = .ok (.istore 5, 2) := by decide +kernel
theorem dX11_findRound_229 : decode cX11_findRound 229 = .ok (.iload 4, 2) := by decide +kernel
theorem dX11_findRound_231 : decode cX11_findRound 231 = .ok (.aload_n 0, 1) := by decide +kernel
theorem dX11_findRound_232 : decode cX11_findRound 232 = .ok (.getfield 211, 3) := by decide +kernel
theorem dX11_findRound_235 : decode cX11_findRound 235 = .ok (.iload 6, 2) := by decide +kernel
theorem dX11_findRound_237 : decode cX11_findRound 237 = .ok (.iaload, 1) := by decide +kernel
theorem dX11_findRound_238 : decode cX11_findRound 238 = .ok (.iadd, 1) := by decide +kernel
theorem dX11_findRound_239 : decode cX11_findRound 239 = .ok (.istore 4, 2) := by decide +kernel
theorem dX11_findRound_241 : decode cX11_findRound 241 = .ok (.iinc 6 1, 3) := by decide +kernel
theorem dX11_findRound_244 : decode cX11_findRound 244 = .ok (.goto (-66), 3) := by decide +kernel
theorem dX11_findRound_247 : decode cX11_findRound 247 = .ok (.aload_n 0, 1) := by decide +kernel
theorem dX11_findRound_248 : decode cX11_findRound 248 = .ok (.iload_n 3, 1) := by decide +kernel
theorem dX11_findRound_249 : decode cX11_findRound 249 = .ok (.invokevirtual 448, 3) := by decide +kernel
theorem dX11_findRound_252 : decode cX11_findRound 252 = .ok (.istore 6, 2) := by decide +kernel
theorem dX11_findRound_254 : decode cX11_findRound 254 = .ok (.iload 5, 2) := by decide +kernel
theorem dX11_findRound_256 : decode cX11_findRound 256 = .ok (.ifCond .eq 61, 3) := by decide +kernel
theorem dX11_findRound_259 : decode cX11_findRound 259 = .ok (.iload 6, 2) := by decide +kernel
theorem dX11_findRound_261 : decode cX11_findRound 261 = .ok (.iload_n 2, 1) := by decide +kernel
theorem dX11_findRound_262 : decode cX11_findRound 262 = .ok (.if_icmp .gt 55, 3) := by decide +kernel
theorem dX11_findRound_265 : decode cX11_findRound 265 = .ok (.aload_n 0, 1) := by decide +kernel
theorem dX11_findRound_266 : decode cX11_findRound 266 = .ok (.getfield 439, 3) := by decide +kernel
theorem dX11_findRound_269 : decode cX11_findRound 269 = .ok (.iconst (-1), 1) := by decide +kernel
theorem dX11_findRound_270 : decode cX11_findRound 270 = .ok (.if_icmp .eq 30, 3) := by decide +kernel
theorem dX11_findRound_273 : decode cX11_findRound 273 = .ok (.iload 4, 2) := by decide +kernel
theorem dX11_findRound_275 : decode cX11_findRound 275 = .ok (.aload_n 0, 1) := by decide +kernel
theorem dX11_findRound_276 : decode cX11_findRound 276 = .ok (.getfield 442, 3) := by decide +kernel
theorem dX11_findRound_279 : decode cX11_findRound 279 = .ok (.if_icmp .gt 21, 3) := by decide +kernel
theorem dX11_findRound_282 : decode cX11_findRound 282 = .ok (.iload 4, 2) := by decide +kernel
theorem dX11_findRound_284 : decode cX11_findRound 284 = .ok (.aload_n 0, 1) := by decide +kernel
theorem dX11_findRound_285 : decode cX11_findRound 285 = .ok (.getfield 442, 3) := by decide +kernel
theorem dX11_findRound_288 : decode cX11_findRound 288 = .ok (.if_icmp .ne 29, 3) := by decide +kernel
theorem dX11_findRound_291 : decode cX11_findRound 291 = .ok (.iload 6, 2) := by decide +kernel
theorem dX11_findRound_293 : decode cX11_findRound 293 = .ok (.aload_n 0, 1) := by decide +kernel
theorem dX11_findRound_294 : decode cX11_findRound 294 = .ok (.getfield 445, 3) := by decide +kernel
theorem dX11_findRound_297 : decode cX11_findRound 297 = .ok (.if_icmp .ge 20, 3) := by decide +kernel
theorem dX11_findRound_300 : decode cX11_findRound 300 = .ok (.aload_n 0, 1) := by decide +kernel
theorem dX11_findRound_301 : decode cX11_findRound 301 = .ok (.iload_n 3, 1) := by decide +kernel
theorem dX11_findRound_302 : decode cX11_findRound 302 = .ok (.putfield 439, 3) := by decide +kernel
theorem dX11_findRound_305 : decode cX11_findRound 305 = .ok (.aload_n 0, 1) := by decide +kernel
theorem dX11_findRound_306 : decode cX11_findRound 306 = .ok (.iload 4, 2) := by decide +kernel
theorem dX11_findRound_308 : decode cX11_findRound 308 = .ok (.putfield 442, 3) := by decide +kernel
theorem dX11_findRound_311 : decode cX11_findRound 311 = .ok (.aload_n 0, 1) := by decide +kernel
theorem dX11_findRound_312 : decode cX11_findRound 312 = .ok (.iload 6, 2) := by decide +kernel
theorem dX11_findRound_314 : decode cX11_findRound 314 = .ok (.putfield 445, 3) := by decide +kernel
theorem dX11_findRound_317 : decode cX11_findRound 317 = .ok (.iinc 3 1, 3) := by decide +kernel
theorem dX11_findRound_320 : decode cX11_findRound 320 = .ok (.goto (-176), 3) := by decide +kernel
theorem dX11_findRound_323 : decode cX11_findRound 323 = .ok (.iconst 1, 1) := by decide +kernel
theorem dX11_findRound_324 : decode cX11_findRound 324 = .ok (.ireturn, 1) := by decide +kernel
theorem dX11_round_0 : decode cX11_round 0 = .ok (.aload_n 0, 1) := by decide +kernel
theorem dX11_round_1 : decode cX11_round 1 = .ok (.iconst 0, 1) := by decide +kernel
theorem dX11_round_2 : decode cX11_round 2 = .ok (.putfield 220, 3) := by decide +kernel
theorem dX11_round_5 : decode cX11_round 5 = .ok (.iload_n 3, 1) := by decide +kernel
theorem dX11_round_6 : decode cX11_round 6 = .ok (.iconst 0, 1) := by decide +kernel
theorem dX11_round_7 : decode cX11_round 7 = .ok (.iconst 2, 1) := by decide +kernel
theorem dX11_round_8 : decode cX11_round 8 = .ok (.invokestatic 232, 3) := by decide +kernel
theorem dX11_round_11 : decode cX11_round 11 = .ok (.ifCond .eq 12, 3) := by decide +kernel
theorem dX11_round_14 : decode cX11_round 14 = .ok (.aload_n 0, 1) := by decide +kernel
theorem dX11_round_15 : decode cX11_round 15 = .ok (.iload_n 1, 1) := by decide +kernel
theorem dX11_round_16 : decode cX11_round 16 = .ok (.iload_n 2, 1) := by decide +kernel
theorem dX11_round_17 : decode cX11_round 17 = .ok (.invokevirtual 451, 3) := by decide +kernel
theorem dX11_round_20 : decode cX11_round 20 = .ok (.ifCond .ne 5, 3) := by decide +kernel
theorem dX11_round_23 : decode cX11_round 23 = .ok (.iconst (-1), 1) := by decide +kernel
theorem dX11_round_24 : decode cX11_round 24 = .ok (.ireturn, 1) := by decide +kernel
theorem dX11_round_25 : decode cX11_round 25 = .ok (.iload_n 3, 1) := by decide +kernel
theorem dX11_round_26 : decode cX11_round 26 = .ok (.ifCond .ne 10, 3) := by decide +kernel
theorem dX11_round_29 : decode cX11_round 29 = .ok (.aload_n 0, 1) := by decide +kernel
theorem dX11_round_30 : decode cX11_round 30 = .ok (.getfield 442, 3) := by decide +kernel
theorem dX11_round_33 : decode cX11_round 33 = .ok (.goto 21, 3) := by decide +kernel
theorem dX11_round_36 : decode cX11_round 36 = .ok (.iload_n 3, 1) := by decide +kernel
theorem dX11_round_37 : decode cX11_round 37 = .ok (.iconst 1, 1) := by decide +kernel
theorem dX11_round_38 : decode cX11_round 38 = .ok (.if_icmp .ne 10, 3) := by decide +kernel
theorem dX11_round_41 : decode cX11_round 41 = .ok (.aload_n 0, 1) := by decide +kernel
theorem dX11_round_42 : decode cX11_round 42 = .ok (.getfield 445, 3) := by decide +kernel
theorem dX11_round_45 : decode cX11_round 45 = .ok (.goto 9, 3) := by decide +kernel
theorem dX11_round_48 : decode cX11_round 48 = .ok (.iconst 2, 1) := by decide +kernel
theorem dX11_round_49 : decode cX11_round 49 = .ok (.aload_n 0, 1) := by decide +kernel
theorem dX11_round_50 : decode cX11_round 50 = .ok (.getfield 439, 3) := by decide +kernel
theorem dX11_round_53 : decode cX11_round 53 = .ok (.imul, 1) := by decide +kernel
theorem dX11_round_54 : decode cX11_round 54 = .ok (.ireturn, 1) := by decide +kernel
theorem dX11_stop_0 : decode cX11_stop 0 = .ok (.aload_n 0, 1) := by decide +kernel
theorem dX11_stop_1 : decode cX11_stop 1 = .ok (.iconst 0, 1) := by decide +kernel
theorem dX11_stop_2 : decode cX11_stop 2 = .ok (.putfield 220, 3) := by decide +kernel
theorem dX11_stop_5 : decode cX11_stop 5 = .ok (.aload_n 0, 1) := by decide +kernel
theorem dX11_stop_6 : decode cX11_stop 6 = .ok (.iload_n 1, 1) := by decide +kernel
theorem dX11_stop_7 : decode cX11_stop 7 = .ok (.iload_n 2, 1) := by decide +kernel
theorem dX11_stop_8 : decode cX11_stop 8 = .ok (.invokevirtual 451, 3) := by decide +kernel
theorem dX11_stop_11 : decode cX11_stop 11 = .ok (.ifCond .eq 7, 3) := by decide +kernel
theorem dX11_stop_14 : decode cX11_stop 14 = .ok (.iload_n 3, 1) := by decide +kernel
theorem dX11_stop_15 : decode cX11_stop 15 = .ok (.ifCond .ge 5, 3) := by decide +kernel
theorem dX11_stop_18 : decode cX11_stop 18 = .ok (.iconst (-1), 1) := by decide +kernel
theorem dX11_stop_19 : decode cX11_stop 19 = .ok (.ireturn, 1) := by decide +kernel
theorem dX11_stop_20 : decode cX11_stop 20 = .ok (.aload_n 0, 1) := by decide +kernel
theorem dX11_stop_21 : decode cX11_stop 21 = .ok (.getfield 439, 3) := by decide +kernel
theorem dX11_stop_24 : decode cX11_stop 24 = .ok (.istore 4, 2) := by decide +kernel
theorem dX11_stop_26 : decode cX11_stop 26 = .ok (.iconst 0, 1) := by decide +kernel
theorem dX11_stop_27 : decode cX11_stop 27 = .ok (.istore 5, 2) := by decide +kernel
theorem dX11_stop_29 : decode cX11_stop 29 = .ok (.iconst 0, 1) := by decide +kernel
theorem dX11_stop_30 : decode cX11_stop 30 = .ok (.istore 6, 2) := by decide +kernel
theorem dX11_stop_32 : decode cX11_stop 32 = .ok (.iconst 0, 1) := by decide +kernel
theorem dX11_stop_33 : decode cX11_stop 33 = .ok (.istore 7, 2) := by decide +kernel
theorem dX11_stop_35 : decode cX11_stop 35 = .ok (.iload 4, 2) := by decide +kernel
theorem dX11_stop_37 : decode cX11_stop 37 = .ok (.ifCond .eq 109, 3) := by decide +kernel
theorem dX11_stop_40 : decode cX11_stop 40 = .ok (.iconst 1, 1) := by decide +kernel
theorem dX11_stop_41 : decode cX11_stop 41 = .ok (.istore 8, 2) := by decide +kernel
theorem dX11_stop_43 : decode cX11_stop 43 = .ok (.iload 4, 2) := by decide +kernel
theorem dX11_stop_45 : decode cX11_stop 45 = .ok (.iload 8, 2) := by decide +kernel
theorem dX11_stop_47 : decode cX11_stop 47 = .ok (.iconst 1, 1) := by decide +kernel
theorem dX11_stop_48 : decode cX11_stop 48 = .ok (.isub, 1) := by decide +kernel
theorem dX11_stop_49 : decode cX11_stop 49 = .ok (.ishr, 1) := by decide +kernel
theorem dX11_stop_50 : decode cX11_stop 50 = .ok (.iconst 1, 1) := by decide +kernel
theorem dX11_stop_51 : decode cX11_stop 51 = .ok (.iand, 1) := by decide +kernel
theorem dX11_stop_52 : decode cX11_stop 52 = .ok (.ifCond .eq 40, 3) := by decide +kernel
theorem dX11_stop_55 : decode cX11_stop 55 = .ok (.iload 6, 2) := by decide +kernel
theorem dX11_stop_57 : decode cX11_stop 57 = .ok (.aload_n 0, 1) := by decide +kernel
theorem dX11_stop_58 : decode cX11_stop 58 = .ok (.getfield 205, 3) := by decide +kernel
theorem dX11_stop_61 : decode cX11_stop 61 = .ok (.bipush 10, 2) := by decide +kernel
theorem dX11_stop_63 : decode cX11_stop 63 = .ok (.iload 5, 2) := by decide +kernel
theorem dX11_stop_65 : decode cX11_stop 65 = .ok (.imul, 1) := by decide +kernel
theorem dX11_stop_66 : decode cX11_stop 66 = .ok (.iload 8, 2) := by decide +kernel
theorem dX11_stop_68 : decode cX11_stop 68 = .ok (.iadd, 1) := by decide +kernel
theorem dX11_stop_69 : decode cX11_stop 69 = .ok (.iaload, 1) := by decide +kernel
theorem dX11_stop_70 : decode cX11_stop 70 = .ok (.iadd, 1) := by decide +kernel
theorem dX11_stop_71 : decode cX11_stop 71 = .ok (.aload_n 0, 1) := by decide +kernel
theorem dX11_stop_72 : decode cX11_stop 72 = .ok (.getfield 208, 3) := by decide +kernel
theorem dX11_stop_75 : decode cX11_stop 75 = .ok (.bipush 10, 2) := by decide +kernel
theorem dX11_stop_77 : decode cX11_stop 77 = .ok (.iload 4, 2) := by decide +kernel
theorem dX11_stop_79 : decode cX11_stop 79 = .ok (.imul, 1) := by decide +kernel
theorem dX11_stop_80 : decode cX11_stop 80 = .ok (.iload 8, 2) := by decide +kernel
theorem dX11_stop_82 : decode cX11_stop 82 = .ok (.iadd, 1) := by decide +kernel
theorem dX11_stop_83 : decode cX11_stop 83 = .ok (.iaload, 1) := by decide +kernel
theorem dX11_stop_84 : decode cX11_stop 84 = .ok (.iadd, 1) := by decide +kernel
theorem dX11_stop_85 : decode cX11_stop 85 = .ok (.aload_n 0, 1) := by decide +kernel
theorem dX11_stop_86 : decode cX11_stop 86 = .ok (.getfield 445, 3) := by decide +kernel
theorem dX11_stop_89 : decode cX11_stop 89 = .ok (.if_icmp .eq 9, 3) := by decide +kernel
theorem dX11_stop_92 : decode cX11_stop 92 = .ok (.iinc 8 1, 3) := by decide +kernel
theorem dX11_stop_95 : decode cX11_stop 95 = .ok (.goto (-52), 3) := by decide +kernel
theorem dX11_stop_98 : decode cX11_stop 98 = .ok (.iload 7, 2) := by decide +kernel
theorem dX11_stop_100 : decode cX11_stop 100 = .ok (.iload_n 3, 1) := by decide +kernel
theorem dX11_stop_101 : decode cX11_stop 101 = .ok (.if_icmp .ne 6, 3) := by decide +kernel
theorem dX11_stop_104 : decode cX11_stop 104 = .ok (.iload 8, 2) := by decide +kernel
theorem dX11_stop_106 : decode cX11_stop 106 = .ok (.ireturn, 1) := by decide +kernel
theorem dX11_stop_107 : decode cX11_stop 107 = .ok (.iload 6, 2) := by decide +kernel
theorem dX11_stop_109 : decode cX11_stop 109 = .ok (.aload_n 0, 1) := by decide +kernel
theorem dX11_stop_110 : decode cX11_stop 110 = .ok (.getfield 205, 3) := by decide +kernel
theorem dX11_stop_113 : decode cX11_stop 113 = .ok (.bipush 10, 2) := by decide +kernel
theorem dX11_stop_115 : decode cX11_stop 115 = .ok (.iload 5, 2) := by decide +kernel
theorem dX11_stop_117 : decode cX11_stop 117 = .ok (.imul, 1) := by decide +kernel
theorem dX11_stop_118 : decode cX11_stop 118 = .ok (.iload 8, 2) := by decide +kernel
theorem dX11_stop_120 : decode cX11_stop 120 = .ok (.iadd, 1) := by decide +kernel
theorem dX11_stop_121 : decode cX11_stop 121 = .ok (.iaload, 1) := by decide +kernel
theorem dX11_stop_122 : decode cX11_stop 122 = .ok (.iadd, 1) := by decide +kernel
theorem dX11_stop_123 : decode cX11_stop 123 = .ok (.istore 6, 2) := by decide +kernel
theorem dX11_stop_125 : decode cX11_stop 125 = .ok (.iload 8, 2) := by decide +kernel
theorem dX11_stop_127 : decode cX11_stop 127 = .ok (.istore 5, 2) := by decide +kernel
theorem dX11_stop_129 : decode cX11_stop 129 = .ok (.iload 4, 2) := by decide +kernel
theorem dX11_stop_131 : decode cX11_stop 131 = .ok (.iconst 1, 1) := by decide +kernel
theorem dX11_stop_132 : decode cX11_stop 132 = .ok (.iload 8, 2) := by decide +kernel
theorem dX11_stop_134 : decode cX11_stop 134 = .ok (.iconst 1, 1) := by decide +kernel
theorem dX11_stop_135 : decode cX11_stop 135 = .ok (.isub, 1) := by decide +kernel
theorem dX11_stop_136 : decode cX11_stop 136 = .ok (.ishl, 1) := by decide +kernel
theorem dX11_stop_137 : decode cX11_stop 137 = .ok (.ixor, 1) := by decide +kernel
theorem dX11_stop_138 : decode cX11_stop 138 = .ok (.istore 4, 2) := by decide +kernel
theorem dX11_stop_140 : decode cX11_stop 140 = .ok (.iinc 7 1, 3) := by decide +kernel
theorem dX11_stop_143 : decode cX11_stop 143 = .ok (.goto (-108), 3) := by decide +kernel
theorem dX11_stop_146 : decode cX11_stop 146 = .ok (.iconst (-1), 1) := by decide +kernel
theorem dX11_stop_147 : decode cX11_stop 147 = .ok (.ireturn, 1) := by decide +kernel
theorem dX11_wish_0 : decode cX11_wish 0 = .ok (.aload_n 0, 1) := by decide +kernel
theorem dX11_wish_1 : decode cX11_wish 1 = .ok (.iconst 0, 1) := by decide +kernel
theorem dX11_wish_2 : decode cX11_wish 2 = .ok (.putfield 220, 3) := by decide +kernel
theorem dX11_wish_5 : decode cX11_wish 5 = .ok (.aload_n 0, 1) := by decide +kernel
theorem dX11_wish_6 : decode cX11_wish 6 = .ok (.iload_n 1, 1) := by decide +kernel
theorem dX11_wish_7 : decode cX11_wish 7 = .ok (.invokevirtual 243, 3) := by decide +kernel
theorem dX11_wish_10 : decode cX11_wish 10 = .ok (.ifCond .eq 23, 3) := by decide +kernel
theorem dX11_wish_13 : decode cX11_wish 13 = .ok (.iload_n 2, 1) := by decide +kernel
theorem dX11_wish_14 : decode cX11_wish 14 = .ok (.iconst 0, 1) := by decide +kernel
theorem dX11_wish_15 : decode cX11_wish 15 = .ok (.bipush 7, 2) := by decide +kernel
theorem dX11_wish_17 : decode cX11_wish 17 = .ok (.invokestatic 232, 3) := by decide +kernel
theorem dX11_wish_20 : decode cX11_wish 20 = .ok (.ifCond .eq 13, 3) := by decide +kernel
theorem dX11_wish_23 : decode cX11_wish 23 = .ok (.iload_n 3, 1) := by decide +kernel
theorem dX11_wish_24 : decode cX11_wish 24 = .ok (.iconst 0, 1) := by decide +kernel
theorem dX11_wish_25 : decode cX11_wish 25 = .ok (.bipush 99, 2) := by decide +kernel
theorem dX11_wish_27 : decode cX11_wish 27 = .ok (.invokestatic 232, 3) := by decide +kernel
theorem dX11_wish_30 : decode cX11_wish 30 = .ok (.ifCond .ne 5, 3) := by decide +kernel
theorem dX11_wish_33 : decode cX11_wish 33 = .ok (.iconst 0, 1) := by decide +kernel
theorem dX11_wish_34 : decode cX11_wish 34 = .ok (.ireturn, 1) := by decide +kernel
theorem dX11_wish_35 : decode cX11_wish 35 = .ok (.aload_n 0, 1) := by decide +kernel
theorem dX11_wish_36 : decode cX11_wish 36 = .ok (.getfield 153, 3) := by decide +kernel
theorem dX11_wish_39 : decode cX11_wish 39 = .ok (.bipush 8, 2) := by decide +kernel
theorem dX11_wish_41 : decode cX11_wish 41 = .ok (.iload_n 1, 1) := by decide +kernel
theorem dX11_wish_42 : decode cX11_wish 42 = .ok (.imul, 1) := by decide +kernel
theorem dX11_wish_43 : decode cX11_wish 43 = .ok (.iload_n 2, 1) := by decide +kernel
theorem dX11_wish_44 : decode cX11_wish 44 = .ok (.iadd, 1) := by decide +kernel
theorem dX11_wish_45 : decode cX11_wish 45 = .ok (.iload_n 3, 1) := by decide +kernel
theorem dX11_wish_46 : decode cX11_wish 46 = .ok (.iastore, 1) := by decide +kernel
theorem dX11_wish_47 : decode cX11_wish 47 = .ok (.iconst 1, 1) := by decide +kernel
theorem dX11_wish_48 : decode cX11_wish 48 = .ok (.ireturn, 1) := by decide +kernel
theorem dX11_everHad_0 : decode cX11_everHad 0 = .ok (.iconst 0, 1) := by decide +kernel
theorem dX11_everHad_1 : decode cX11_everHad 1 = .ok (.istore_n 3, 1) := by decide +kernel
theorem dX11_everHad_2 : decode cX11_everHad 2 = .ok (.iload_n 3, 1) := by decide +kernel
theorem dX11_everHad_3 : decode cX11_everHad 3 = .ok (.aload_n 0, 1) := by decide +kernel
theorem dX11_everHad_4 : decode cX11_everHad 4 = .ok (.getfield 105, 3) := by decide +kernel
theorem dX11_everHad_7 : decode cX11_everHad 7 = .ok (.iconst 0, 1) := by decide +kernel
theorem dX11_everHad_8 : decode cX11_everHad 8 = .ok (.iaload, 1) := by decide +kernel
theorem dX11_everHad_9 : decode cX11_everHad 9 = .ok (.if_icmp .ge 30, 3) := by decide +kernel
theorem dX11_everHad_12 : decode cX11_everHad 12 = .ok (.aload_n 0, 1) := by decide +kernel
theorem dX11_everHad_13 : decode cX11_everHad 13 = .ok (.iload_n 3, 1) := by decide +kernel
theorem dX11_everHad_14 : decode cX11_everHad 14 = .ok (.iload_n 2, 1) := by decide +kernel
theorem dX11_everHad_15 : decode cX11_everHad 15 = .ok (.invokevirtual 332, 3) := by decide +kernel
theorem dX11_everHad_18 : decode cX11_everHad 18 = .ok (.ifCond .eq 15, 3) := by decide +kernel
theorem dX11_everHad_21 : decode cX11_everHad 21 = .ok (.aload_n 0, 1) := by decide +kernel
theorem dX11_everHad_22 : decode cX11_everHad 22 = .ok (.getfield 114, 3) := by decide +kernel
theorem dX11_everHad_25 : decode cX11_everHad 25 = .ok (.iload_n 3, 1) := by decide +kernel
theorem dX11_everHad_26 : decode cX11_everHad 26 = .ok (.iaload, 1) := by decide +kernel
theorem dX11_everHad_27 : decode cX11_everHad 27 = .ok (.iload_n 1, 1) := by decide +kernel
theorem dX11_everHad_28 : decode cX11_everHad 28 = .ok (.if_icmp .ne 5, 3) := by decide +kernel
theorem dX11_everHad_31 : decode cX11_everHad 31 = .ok (.iconst 1, 1) := by decide +kernel
theorem dX11_everHad_32 : decode cX11_everHad 32 = .ok (.ireturn, 1) := by decide +kernel
theorem dX11_everHad_33 : decode cX11_everHad 33 = .ok (.iinc 3 1, 3) := by decide +kernel
theorem dX11_everHad_36 : decode cX11_everHad 36 = .ok (.goto (-34), 3) := by decide +kernel
theorem dX11_everHad_39 : decode cX11_everHad 39 = .ok (.iconst 0, 1) := by decide +kernel
theorem dX11_everHad_40 : decode cX11_everHad 40 = .ok (.ireturn, 1) := by decide +kernel
theorem dX11_findLightest_0 : decode cX11_findLightest 0 = .ok (.iconst 0, 1) := by decide +kernel
theorem dX11_findLightest_1 : decode cX11_findLightest 1 = .ok (.istore_n 2, 1) := by decide +kernel
theorem dX11_findLightest_2 : decode cX11_findLightest 2 = .ok (.iload_n 2, 1) := by decide +kernel
theorem dX11_findLightest_3 : decode cX11_findLightest 3 = .ok (.bipush 8, 2) := by decide +kernel
theorem dX11_findLightest_5 : decode cX11_findLightest 5 = .ok (.if_icmp .ge 16, 3) := by decide +kernel
theorem dX11_findLightest_8 : decode cX11_findLightest 8 = .ok (.aload_n 0, 1) := by decide +kernel
theorem dX11_findLightest_9 : decode cX11_findLightest 9 = .ok (.getfield 214, 3) := by decide +kernel
theorem dX11_findLightest_12 : decode cX11_findLightest 12 = .ok (.iload_n 2, 1) := by decide +kernel
theorem dX11_findLightest_13 : decode cX11_findLightest 13 = .ok (.iconst (-1), 1) := by decide +kernel
theorem dX11_findLightest_14 : decode cX11_findLightest 14 = .ok (.iastore, 1) := by decide +kernel
theorem dX11_findLightest_15 : decode cX11_findLightest 15 = .ok (.iinc 2 1, 3) := by decide +kernel
theorem dX11_findLightest_18 : decode cX11_findLightest 18 = .ok (.goto (-16), 3) := by decide +kernel
theorem dX11_findLightest_21 : decode cX11_findLightest 21 = .ok (.iconst 0, 1) := by decide +kernel
theorem dX11_findLightest_22 : decode cX11_findLightest 22 = .ok (.istore_n 2, 1) := by decide +kernel
theorem dX11_findLightest_23 : decode cX11_findLightest 23 = .ok (.iload_n 2, 1) := by decide +kernel
theorem dX11_findLightest_24 : decode cX11_findLightest 24 = .ok (.aload_n 0, 1) := by decide +kernel
theorem dX11_findLightest_25 : decode cX11_findLightest 25 = .ok (.getfield 87, 3) := by decide +kernel
theorem dX11_findLightest_28 : decode cX11_findLightest 28 = .ok (.iconst 0, 1) := by decide +kernel
theorem dX11_findLightest_29 : decode cX11_findLightest 29 = .ok (.iaload, 1) := by decide +kernel
theorem dX11_findLightest_30 : decode cX11_findLightest 30 = .ok (.if_icmp .ge 124, 3) := by decide +kernel
theorem dX11_findLightest_33 : decode cX11_findLightest 33 = .ok (.aload_n 0, 1) := by decide +kernel
theorem dX11_findLightest_34 : decode cX11_findLightest 34 = .ok (.iload_n 2, 1) := by decide +kernel
theorem dX11_findLightest_35 : decode cX11_findLightest 35 = .ok (.aload_n 0, 1) := by decide +kernel
theorem dX11_findLightest_36 : decode cX11_findLightest 36 = .ok (.getfield 23, 3) := by decide +kernel
theorem dX11_findLightest_39 : decode cX11_findLightest 39 = .ok (.iconst 0, 1) := by decide +kernel
theorem dX11_findLightest_40 : decode cX11_findLightest 40 = .ok (.iaload, 1) := by decide +kernel
theorem dX11_findLightest_41 : decode cX11_findLightest 41 = .ok (.aload_n 0, 1) := by decide +kernel
theorem dX11_findLightest_42 : decode cX11_findLightest 42 = .ok (.invokevirtual 283, 3) := by decide +kernel
theorem dX11_findLightest_45 : decode cX11_findLightest 45 = .ok (.invokevirtual 297, 3) := by decide +kernel
theorem dX11_findLightest_48 : decode cX11_findLightest 48 = .ok (.iconst (-1), 1) := by decide +kernel
theorem dX11_findLightest_49 : decode cX11_findLightest 49 = .ok (.if_icmp .ne 99, 3) := by decide +kernel
theorem dX11_findLightest_52 : decode cX11_findLightest 52 = .ok (.aload_n 0, 1) := by decide +kernel
theorem dX11_findLightest_53 : decode cX11_findLightest 53 = .ok (.getfield 93, 3) := by decide +kernel
theorem dX11_findLightest_56 : decode cX11_findLightest 56 = .ok (.iload_n 2, 1) := by decide +kernel
theorem dX11_findLightest_57 : decode cX11_findLightest 57 = .ok (.iaload, 1) := by decide +kernel
theorem dX11_findLightest_58 : decode cX11_findLightest 58 = .ok (.aload_n 0, 1) := by decide +kernel
theorem dX11_findLightest_59 : decode cX11_findLightest 59 = .ok (.getfield 42, 3) := by decide +kernel
theorem dX11_findLightest_62 : decode cX11_findLightest 62 = .ok (.iload_n 1, 1) := by decide +kernel
theorem dX11_findLightest_63 : decode cX11_findLightest 63 = .ok (.iaload, 1) := by decide +kernel
theorem dX11_findLightest_64 : decode cX11_findLightest 64 = .ok (.if_icmp .ne 84, 3) := by decide +kernel
theorem dX11_findLightest_67 : decode cX11_findLightest 67 = .ok (.aload_n 0, 1) := by decide +kernel
theorem dX11_findLightest_68 : decode cX11_findLightest 68 = .ok (.iload_n 1, 1) := by decide +kernel
theorem dX11_findLightest_69 : decode cX11_findLightest 69 = .ok (.iload_n 2, 1) := by decide +kernel
theorem dX11_findLightest_70 : decode cX11_findLightest 70 = .ok (.invokevirtual 454, 3) := by decide +kernel
theorem dX11_findLightest_73 : decode cX11_findLightest 73 = .ok (.ifCond .eq 6, 3) := by decide +kernel
theorem dX11_findLightest_76 : decode cX11_findLightest 76 = .ok (.goto 72, 3) := by decide +kernel
theorem dX11_findLightest_79 : decode cX11_findLightest 79 = .ok (.aload_n 0, 1) := by decide +kernel
theorem dX11_findLightest_80 : decode cX11_findLightest 80 = .ok (.iload_n 1, 1) := by decide +kernel
theorem dX11_findLightest_81 : decode cX11_findLightest 81 = .ok (.iload_n 2, 1) := by decide +kernel
theorem dX11_findLightest_82 : decode cX11_findLightest 82 = .ok (.aload_n 0, 1) := by decide +kernel
theorem dX11_findLightest_83 : decode cX11_findLightest 83 = .ok (.getfield 23, 3) := by decide +kernel
theorem dX11_findLightest_86 : decode cX11_findLightest 86 = .ok (.iconst 0, 1) := by decide +kernel
theorem dX11_findLightest_87 : decode cX11_findLightest 87 = .ok (.iaload, 1) := by decide +kernel
theorem dX11_findLightest_88 : decode cX11_findLightest 88 = .ok (.aload_n 0, 1) := by decide +kernel
theorem dX11_findLightest_89 : decode cX11_findLightest 89 = .ok (.invokevirtual 283, 3) := by decide +kernel
theorem dX11_findLightest_92 : decode cX11_findLightest 92 = .ok (.invokevirtual 320, 3) := by decide +kernel
theorem dX11_findLightest_95 : decode cX11_findLightest 95 = .ok (.aload_n 0, 1) := by decide +kernel
theorem dX11_findLightest_96 : decode cX11_findLightest 96 = .ok (.getfield 90, 3) := by decide +kernel
theorem dX11_findLightest_99 : decode cX11_findLightest 99 = .ok (.iload_n 2, 1) := by decide +kernel
theorem dX11_findLightest_100 : decode cX11_findLightest 100 = .ok (.iaload, 1) := by decide +kernel
theorem dX11_findLightest_101 : decode cX11_findLightest 101 = .ok (.istore_n 3, 1) := by decide +kernel
theorem dX11_findLightest_102 : decode cX11_findLightest 102 = .ok (.aload_n 0, 1) := by decide +kernel
theorem dX11_findLightest_103 : decode cX11_findLightest 103 = .ok (.iconst 0, 1) := by decide +kernel
theorem dX11_findLightest_104 : decode cX11_findLightest 104 = .ok (.invokevirtual 313, 3) := by decide +kernel
theorem dX11_findLightest_107 : decode cX11_findLightest 107 = .ok (.iconst (-1), 1) := by decide +kernel
theorem dX11_findLightest_108 : decode cX11_findLightest 108 = .ok (.if_icmp .ne 40, 3) := by decide +kernel
theorem dX11_findLightest_111 : decode cX11_findLightest 111 = .ok (.aload_n 0, 1) := by decide +kernel
theorem dX11_findLightest_112 : decode cX11_findLightest 112 = .ok (.getfield 214, 3) := by decide +kernel
theorem dX11_findLightest_115 : decode cX11_findLightest 115 = .ok (.iload_n 3, 1) := by decide +kernel
theorem dX11_findLightest_116 : decode cX11_findLightest 116 = .ok (.iaload, 1) := by decide +kernel
theorem dX11_findLightest_117 : decode cX11_findLightest 117 = .ok (.iconst (-1), 1) := by decide +kernel
theorem dX11_findLightest_118 : decode cX11_findLightest 118 = .ok (.if_icmp .eq 23, 3) := by decide +kernel
theorem dX11_findLightest_121 : decode cX11_findLightest 121 = .ok (.aload_n 0, 1) := by decide +kernel
theorem dX11_findLightest_122 : decode cX11_findLightest 122 = .ok (.getfield 102, 3) := by decide +kernel
theorem dX11_findLightest_125 : decode cX11_findLightest 125 = .ok (.iload_n 2, 1) := by decide +kernel
theorem dX11_findLightest_126 : decode cX11_findLightest 126 = .ok (.iaload, 1) := by decide +kernel
theorem dX11_findLightest_127 : decode cX11_findLightest 127 = .ok (.aload_n 0, 1) := by decide +kernel
theorem dX11_findLightest_128 : decode cX11_findLightest 128 = .ok (.getfield 102, 3) := by decide +kernel
theorem dX11_findLightest_131 : decode cX11_findLightest 131 = .ok (.aload_n 0, 1) := by decide +kernel
theorem dX11_findLightest_132 : decode cX11_findLightest 132 = .ok (.getfield 214, 3) := by decide +kernel
theorem dX11_findLightest_135 : decode cX11_findLightest 135 = .ok (.iload_n 3, 1) := by decide +kernel
theorem dX11_findLightest_136 : decode cX11_findLightest 136 = .ok (.iaload, 1) := by decide +kernel
theorem dX11_findLightest_137 : decode cX11_findLightest 137 = .ok (.iaload, 1) := by decide +kernel
theorem dX11_findLightest_138 : decode cX11_findLightest 138 = .ok (.if_icmp .ge 10, 3) := by decide +kernel
theorem dX11_findLightest_141 : decode cX11_findLightest 141 = .ok (.aload_n 0, 1) := by decide +kernel
theorem dX11_findLightest_142 : decode cX11_findLightest 142 = .ok (.getfield 214, 3) := by decide +kernel
theorem dX11_findLightest_145 : decode cX11_findLightest 145 = .ok (.iload_n 3, 1) := by decide +kernel
theorem dX11_findLightest_146 : decode cX11_findLightest 146 = .ok (.iload_n 2, 1) := by decide +kernel
theorem dX11_findLightest_147 : decode cX11_findLightest 147 = .ok (.iastore, 1) := by decide +kernel
theorem dX11_findLightest_148 : decode cX11_findLightest 148 = .ok (.iinc 2 1, 3) := by decide +kernel
theorem dX11_findLightest_151 : decode cX11_findLightest 151 = .ok (.goto (-128), 3) := by decide +kernel
theorem dX11_findLightest_154 : decode cX11_findLightest 154 = .ok (.return_, 1) := by decide +kernel
theorem dX11_load_0 : decode cX11_load 0 = .ok (.aload_n 0, 1) := by decide +kernel
theorem dX11_load_1 : decode cX11_load 1 = .ok (.iconst 0, 1) := by decide +kernel
theorem dX11_load_2 : decode cX11_load 2 = .ok (.putfield 220, 3) := by decide +kernel
theorem dX11_load_5 : decode cX11_load 5 = .ok (.aload_n 0, 1) := by decide +kernel
theorem dX11_load_6 : decode cX11_load 6 = .ok (.iload_n 1, 1) := by decide +kernel
theorem dX11_load_7 : decode cX11_load 7 = .ok (.invokevirtual 243, 3) := by decide +kernel
theorem dX11_load_10 : decode cX11_load 10 = .ok (.ifCond .eq 23, 3) := by decide +kernel
theorem dX11_load_13 : decode cX11_load 13 = .ok (.iload_n 2, 1) := by decide +kernel
theorem dX11_load_14 : decode cX11_load 14 = .ok (.iconst 1, 1) := by decide +kernel
theorem dX11_load_15 : decode cX11_load 15 = .ok (.sipush 20000, 3) := by decide +kernel
theorem dX11_load_18 : decode cX11_load 18 = .ok (.invokestatic 232, 3) := by decide +kernel
theorem dX11_load_21 : decode cX11_load 21 = .ok (.ifCond .eq 12, 3) := by decide +kernel
theorem dX11_load_24 : decode cX11_load 24 = .ok (.iload_n 3, 1) := by decide +kernel
theorem dX11_load_25 : decode cX11_load 25 = .ok (.iconst 0, 1) := by decide +kernel
theorem dX11_load_26 : decode cX11_load 26 = .ok (.iconst 2, 1) := by decide +kernel
theorem dX11_load_27 : decode cX11_load 27 = .ok (.invokestatic 232, 3) := by decide +kernel
theorem dX11_load_30 : decode cX11_load 30 = .ok (.ifCond .ne 5, 3) := by decide +kernel
theorem dX11_load_33 : decode cX11_load 33 = .ok (.iconst (-1), 1) := by decide +kernel
theorem dX11_load_34 : decode cX11_load 34 = .ok (.ireturn, 1) := by decide +kernel
theorem dX11_load_35 : decode cX11_load 35 = .ok (.aload_n 0, 1) := by decide +kernel
theorem dX11_load_36 : decode cX11_load 36 = .ok (.iload_n 1, 1) := by decide +kernel
theorem dX11_load_37 : decode cX11_load 37 = .ok (.invokevirtual 457, 3) := by decide +kernel
theorem dX11_load_40 : decode cX11_load 40 = .ok (.iconst (-1), 1) := by decide +kernel
theorem dX11_load_41 : decode cX11_load 41 = .ok (.istore 4, 2) := by decide +kernel
theorem dX11_load_43 : decode cX11_load 43 = .ok (.iconst 0, 1) := by decide +kernel
theorem dX11_load_44 : decode cX11_load 44 = .ok (.istore 5, 2) := by decide +kernel
theorem dX11_load_46 : decode cX11_load 46 = .ok (.iconst 0, 1) := by decide +kernel
theorem dX11_load_47 : decode cX11_load 47 = .ok (.istore 6, 2) := by decide +kernel
theorem dX11_load_49 : decode cX11_load 49 = .ok (.iconst 0, 1) := by decide +kernel
theorem dX11_load_50 : decode cX11_load 50 = .ok (.istore 7, 2) := by decide +kernel
theorem dX11_load_52 : decode cX11_load 52 = .ok (.iload 7, 2) := by decide +kernel
theorem dX11_load_54 : decode cX11_load 54 = .ok (.sipush 256, 3) := by decide +kernel
theorem dX11_load_57 : decode cX11_load 57 = .ok (.if_icmp .ge 194, 3) := by decide +kernel
theorem dX11_load_60 : decode cX11_load 60 = .ok (.iconst 0, 1) := by decide +kernel
theorem dX11_load_61 : decode cX11_load 61 = .ok (.istore 8, 2) := by decide +kernel
theorem dX11_load_63 : decode cX11_load 63 = .ok (.iconst 0, 1) := by decide +kernel
theorem dX11_load_64 : decode cX11_load 64 = .ok (.istore 9, 2) := by decide +kernel
theorem dX11_load_66 : decode cX11_load 66 = .ok (.iconst 0, 1) := by decide +kernel
theorem dX11_load_67 : decode cX11_load 67 = .ok (.istore 10, 2) := by decide +kernel
theorem dX11_load_69 : decode cX11_load 69 = .ok (.iconst 1, 1) := by decide +kernel
theorem dX11_load_70 : decode cX11_load 70 = .ok (.istore 11, 2) := by decide +kernel
theorem dX11_load_72 : decode cX11_load 72 = .ok (.iconst 0, 1) := by decide +kernel
theorem dX11_load_73 : decode cX11_load 73 = .ok (.istore 12, 2) := by decide +kernel
theorem dX11_load_75 : decode cX11_load 75 = .ok (.iload 12, 2) := by decide +kernel
theorem dX11_load_77 : decode cX11_load 77 = .ok (.bipush 8, 2) := by decide +kernel
theorem dX11_load_79 : decode cX11_load 79 = .ok (.if_icmp .ge 108, 3) := by decide +kernel
theorem dX11_load_82 : decode cX11_load 82 = .ok (.iload 7, 2) := by decide +kernel
theorem dX11_load_84 : decode cX11_load 84 = .ok (.iload 12, 2) := by decide +kernel
theorem dX11_load_86 : decode cX11_load 86 = .ok (.ishr, 1) := by decide +kernel
theorem dX11_load_87 : decode cX11_load 87 = .ok (.iconst 1, 1) := by decide +kernel
theorem dX11_load_88 : decode cX11_load 88 = .ok (.iand, 1) := by decide +kernel
theorem dX11_load_89 : decode cX11_load 89 = .ok (.ifCond .eq 92, 3) := by decide +kernel
theorem dX11_load_92 : decode cX11_load 92 = .ok (.iload 11, 2) := by decide +kernel
theorem dX11_load_94 : decode cX11_load 94 = .ok (.ifCond .eq 18, 3) := by decide +kernel
theorem dX11_load_97 : decode cX11_load 97 = .ok (.aload_n 0, 1) := by decide +kernel
theorem dX11_load_98 : decode cX11_load 98 = .ok (.getfield 214, 3) := by decide +kernel
theorem dX11_load_101 : decode cX11_load 101 = .ok (.iload 12, 2) := by decide +kernel
theorem dX11_load_103 : decode cX11_load 103 = .ok (.iaload, 1) := by decide +kernel
theorem dX11_load_104 : decode cX11_load 104 = .ok (.iconst (-1), 1) := by decide +kernel
theorem dX11_load_105 : decode cX11_load 105 = .ok (.if_icmp .eq 7, 3) := by decide +kernel
theorem dX11_load_108 : decode cX11_load 108 = .ok (.iconst 1, 1) := by decide +kernel
theorem dX11_load_109 : decode cX11_load 109 = .ok (.goto 4, 3) := by decide +kernel
theorem dX11_load_112 : decode cX11_load 112 = .ok (.iconst 0, 1) := by decide +kernel
theorem dX11_load_113 : decode cX11_load 113 = .ok (.istore 11, 2) := by decide +kernel
theorem dX11_load_115 : decode cX11_load 115 = .ok (.iload 8, 2) := by decide +kernel
theorem dX11_load_117 : decode cX11_load 117 = .ok (.aload_n 0, 1) := by decide +kernel
theorem dX11_load_118 : decode cX11_load 118 = .ok (.getfield 153, 3) := by decide +kernel
theorem dX11_load_121 : decode cX11_load 121 = .ok (.bipush 8, 2) := by decide +kernel
theorem dX11_load_123 : decode cX11_load 123 = .ok (.iload_n 1, 1) := by decide +kernel
theorem dX11_load_124 : decode cX11_load 124 = .ok (.imul, 1) := by decide +kernel
theorem dX11_load_125 : decode cX11_load 125 = .ok (.iload 12, 2) := by decide +kernel
theorem dX11_load_127 : decode cX11_load 127 = .ok (.iadd, 1) := by decide +kernel
theorem dX11_load_128 : decode cX11_load 128 = .ok (.iaload, 1) := by decide +kernel
theorem dX11_load_129 : decode cX11_load 129 = .ok (.iadd, 1) := by decide +kernel
theorem dX11_load_130 : decode cX11_load 130 = .ok (.istore 8, 2) := by decide +kernel
theorem dX11_load_132 : decode cX11_load 132 = .ok (.iload 9, 2) := by decide +kernel
theorem dX11_load_134 : decode cX11_load 134 = .ok (.iload 11, 2) := by decide +kernel
theorem dX11_load_136 : decode cX11_load 136 = .ok (.ifCond .eq 18, 3) := by decide +kernel
theorem dX11_load_139 : decode cX11_load 139 = .ok (.aload_n 0, 1) := by decide +kernel
theorem dX11_load_140 : decode cX11_load 140 = .ok (.getfield 102, 3) := by decide +kernel
theorem dX11_load_143 : decode cX11_load 143 = .ok (.aload_n 0, 1) := by decide +kernel
theorem dX11_load_144 : decode cX11_load 144 = .ok (.getfield 214, 3) := by decide +kernel
theorem dX11_load_147 : decode cX11_load 147 = .ok (.iload 12, 2) := by decide +kernel
theorem dX11_load_149 : decode cX11_load 149 = .ok (.iaload, 1) := by decide +kernel
theorem dX11_load_150 : decode cX11_load 150 = .ok (.iaload, 1) := by decide +kernel
theorem dX11_load_151 : decode cX11_load 151 = .ok (.goto 4, 3) := by decide +kernel
theorem dX11_load_154 : decode cX11_load 154 = .ok (.iconst 0, 1) := by decide +kernel
theorem dX11_load_155 : decode cX11_load 155 = .ok (.iadd, 1) := by decide +kernel
theorem dX11_load_156 : decode cX11_load 156 = .ok (.istore 9, 2) := by decide +kernel
theorem dX11_load_158 : decode cX11_load 158 = .ok (.iload 10, 2) := by decide +kernel
theorem dX11_load_160 : decode cX11_load 160 = .ok (.iload 11, 2) := by decide +kernel
theorem dX11_load_162 : decode cX11_load 162 = .ok (.ifCond .eq 15, 3) := by decide +kernel
theorem dX11_load_165 : decode cX11_load 165 = .ok (.iconst 1, 1) := by decide +kernel
theorem dX11_load_166 : decode cX11_load 166 = .ok (.aload_n 0, 1) := by decide +kernel
theorem dX11_load_167 : decode cX11_load 167 = .ok (.getfield 214, 3) := by decide +kernel
theorem dX11_load_170 : decode cX11_load 170 = .ok (.iload 12, 2) := by decide +kernel
theorem dX11_load_172 : decode cX11_load 172 = .ok (.iaload, 1) := by decide +kernel
theorem dX11_load_173 : decode cX11_load 173 = .ok (.ishl, 1) := by decide +kernel
theorem dX11_load_174 : decode cX11_load 174 = .ok (.goto 4, 3) := by decide +kernel
theorem dX11_load_177 : decode cX11_load 177 = .ok (.iconst 0, 1) := by decide +kernel
theorem dX11_load_178 : decode cX11_load 178 = .ok (.ior, 1) := by decide +kernel
theorem dX11_load_179 : decode cX11_load 179 = .ok (.istore 10, 2) := by decide +kernel
theorem dX11_load_181 : decode cX11_load 181 = .ok (.iinc 12 1, 3) := by decide +kernel
theorem dX11_load_184 : decode cX11_load 184 = .ok (.goto (-109), 3) := by decide +kernel
theorem dX11_load_187 : decode cX11_load 187 = .ok (.iload 11, 2) := by decide +kernel
theorem dX11_load_189 : decode cX11_load 189 = .ok (.ifCond .eq 56, 3) := by decide +kernel
theorem dX11_load_192 : decode cX11_load 192 = .ok (.iload 9, 2) := by decide +kernel
theorem dX11_load_194 : decode cX11_load 194 = .ok (.iload_n 2, 1) := by decide +kernel
theorem dX11_load_195 : decode cX11_load 195 = .ok (.if_icmp .gt 50, 3) := by decide +kernel
theorem dX11_load_198 : decode cX11_load 198 = .ok (.iload 8, 2) := by decide +kernel
theorem dX11_load_200 : decode cX11_load 200 = .ok (.iload 4, 2) := by decide +kernel
theorem dX11_load_202 : decode cX11_load 202 = .ok (.if_icmp .gt 31, 3) := by decide +kernel
theorem dX11_load_205 : decode cX11_load 205 = .ok (.iload 8, 2) := by decide +kernel
theorem dX11_load_207 : decode cX11_load 207 = .ok (.iload 4, 2) := by decide +kernel
theorem dX11_load_209 : decode cX11_load 209 = .ok (.if_icmp .ne 36, 3) := by decide +kernel
theorem dX11_load_212 : decode cX11_load 212 = .ok (.iload 9, 2) := by decide +kernel
theorem dX11_load_214 : decode cX11_load 214 = .ok (.iload 5, 2) := by decide +kernel
theorem dX11_load_216 : decode cX11_load 216 = .ok (.if_icmp .lt 17, 3) := by decide +kernel
theorem dX11_load_219 : decode cX11_load 219 = .ok (.iload 9, 2) := by decide +kernel
theorem dX11_load_221 : decode cX11_load 221 = .ok (.iload 5, 2) := by decide +kernel
theorem dX11_load_223 : decode cX11_load 223 = .ok (.if_icmp .ne 22, 3) := by decide +kernel
theorem dX11_load_226 : decode cX11_load 226 = .ok (.iload 10, 2) := by decide +kernel
theorem dX11_load_228 : decode cX11_load 228 = .ok (.iload 6, 2) := by decide +kernel
theorem dX11_load_230 : decode cX11_load 230 = .ok (.if_icmp .ge 15, 3) := by decide +kernel
theorem dX11_load_233 : decode cX11_load 233 = .ok (.iload 8, 2) := by decide +kernel
theorem dX11_load_235 : decode cX11_load 235 = .ok (.istore 4, 2) := by decide +kernel
theorem dX11_load_237 : decode cX11_load 237 = .ok (.iload 9, 2) := by decide +kernel
theorem dX11_load_239 : decode cX11_load 239 = .ok (.istore 5, 2) := by decide +kernel
theorem dX11_load_241 : decode cX11_load 241 = .ok (.iload 10, 2) := by decide +kernel
theorem dX11_load_243 : decode cX11_load 243 = .ok (.istore 6, 2) := by decide +kernel
theorem dX11_load_245 : decode cX11_load 245 = .ok (.iinc 7 1, 3) := by decide +kernel
theorem dX11_load_248 : decode cX11_load 248 = .ok (.goto (-196), 3) := by decide +kernel
theorem dX11_load_251 : decode cX11_load 251 = .ok (.iload_n 3, 1) := by decide +kernel
theorem dX11_load_252 : decode cX11_load 252 = .ok (.ifCond .ne 8, 3) := by decide +kernel
theorem dX11_load_255 : decode cX11_load 255 = .ok (.iload 4, 2) := by decide +kernel
theorem dX11_load_257 : decode cX11_load 257 = .ok (.goto 15, 3) := by decide +kernel
theorem dX11_load_260 : decode cX11_load 260 = .ok (.iload_n 3, 1) := by decide +kernel
theorem dX11_load_261 : decode cX11_load 261 = .ok (.iconst 1, 1) := by decide +kernel
theorem dX11_load_262 : decode cX11_load 262 = .ok (.if_icmp .ne 8, 3) := by decide +kernel
theorem dX11_load_265 : decode cX11_load 265 = .ok (.iload 5, 2) := by decide +kernel
theorem dX11_load_267 : decode cX11_load 267 = .ok (.goto 5, 3) := by decide +kernel
theorem dX11_load_270 : decode cX11_load 270 = .ok (.iload 6, 2) := by decide +kernel
theorem dX11_load_272 : decode cX11_load 272 = .ok (.ireturn, 1) := by decide +kernel
theorem dX11_reader_0 : decode cX11_reader 0 = .ok (.aload_n 0, 1) := by decide +kernel
theorem dX11_reader_1 : decode cX11_reader 1 = .ok (.iconst 0, 1) := by decide +kernel
theorem dX11_reader_2 : decode cX11_reader 2 = .ok (.putfield 220, 3) := by decide +kernel
theorem dX11_reader_5 : decode cX11_reader 5 = .ok (.aload_n 0, 1) := by decide +kernel
theorem dX11_reader_6 : decode cX11_reader 6 = .ok (.getfield 156, 3) := by decide +kernel
theorem dX11_reader_9 : decode cX11_reader 9 = .ok (.iconst 0, 1) := by decide +kernel
theorem dX11_reader_10 : decode cX11_reader 10 = .ok (.iaload, 1) := by decide +kernel
theorem dX11_reader_11 : decode cX11_reader 11 = .ok (.bipush 12, 2) := by decide +kernel
theorem dX11_reader_13 : decode cX11_reader 13 = .ok (.if_icmp .eq 11, 3) := by decide +kernel
theorem dX11_reader_16 : decode cX11_reader 16 = .ok (.aload_n 0, 1) := by decide +kernel
theorem dX11_reader_17 : decode cX11_reader 17 = .ok (.iload_n 1, 1) := by decide +kernel
theorem dX11_reader_18 : decode cX11_reader 18 = .ok (.invokevirtual 243, 3) := by decide +kernel
theorem dX11_reader_21 : decode cX11_reader 21 = .ok (.ifCond .ne 5, 3) := by decide +kernel
theorem dX11_reader_24 : decode cX11_reader 24 = .ok (.iconst (-1), 1) := by decide +kernel
theorem dX11_reader_25 : decode cX11_reader 25 = .ok (.ireturn, 1) := by decide +kernel
theorem dX11_reader_26 : decode cX11_reader 26 = .ok (.aload_n 0, 1) := by decide +kernel
theorem dX11_reader_27 : decode cX11_reader 27 = .ok (.getfield 156, 3) := by decide +kernel
theorem dX11_reader_30 : decode cX11_reader 30 = .ok (.iconst 0, 1) := by decide +kernel
theorem dX11_reader_31 : decode cX11_reader 31 = .ok (.iaload, 1) := by decide +kernel
theorem dX11_reader_32 : decode cX11_reader 32 = .ok (.istore_n 2, 1) := by decide +kernel
theorem dX11_reader_33 : decode cX11_reader 33 = .ok (.aload_n 0, 1) := by decide +kernel
theorem dX11_reader_34 : decode cX11_reader 34 = .ok (.getfield 156, 3) := by decide +kernel
theorem dX11_reader_37 : decode cX11_reader 37 = .ok (.iconst 0, 1) := by decide +kernel
theorem dX11_reader_38 : decode cX11_reader 38 = .ok (.dup2, 1) := by decide +kernel
theorem dX11_reader_39 : decode cX11_reader 39 = .ok (.iaload, 1) := by decide +kernel
theorem dX11_reader_40 : decode cX11_reader 40 = .ok (.iconst 1, 1) := by decide +kernel
theorem dX11_reader_41 : decode cX11_reader 41 = .ok (.iadd, 1) := by decide +kernel
theorem dX11_reader_42 : decode cX11_reader 42 = .ok (.iastore, 1) := by decide +kernel
theorem dX11_reader_43 : decode cX11_reader 43 = .ok (.aload_n 0, 1) := by decide +kernel
theorem dX11_reader_44 : decode cX11_reader 44 = .ok (.getfield 159, 3) := by decide +kernel
theorem dX11_reader_47 : decode cX11_reader 47 = .ok (.iload_n 2, 1) := by decide +kernel
theorem dX11_reader_48 : decode cX11_reader 48 = .ok (.iload_n 1, 1) := by decide +kernel
theorem dX11_reader_49 : decode cX11_reader 49 = .ok (.iastore, 1) := by decide +kernel
theorem dX11_reader_50 : decode cX11_reader 50 = .ok (.aload_n 0, 1) := by decide +kernel
theorem dX11_reader_51 : decode cX11_reader 51 = .ok (.getfield 162, 3) := by decide +kernel
theorem dX11_reader_54 : decode cX11_reader 54 = .ok (.iload_n 2, 1) := by decide +kernel
theorem dX11_reader_55 : decode cX11_reader 55 = .ok (.iconst 0, 1) := by decide +kernel
theorem dX11_reader_56 : decode cX11_reader 56 = .ok (.iastore, 1) := by decide +kernel
theorem dX11_reader_57 : decode cX11_reader 57 = .ok (.iload_n 2, 1) := by decide +kernel
theorem dX11_reader_58 : decode cX11_reader 58 = .ok (.ireturn, 1) := by decide +kernel
theorem dX11_isReader_0 : decode cX11_isReader 0 = .ok (.iload_n 1, 1) := by decide +kernel
theorem dX11_isReader_1 : decode cX11_isReader 1 = .ok (.iconst 0, 1) := by decide +kernel
theorem dX11_isReader_2 : decode cX11_isReader 2 = .ok (.aload_n 0, 1) := by decide +kernel
theorem dX11_isReader_3 : decode cX11_isReader 3 = .ok (.getfield 156, 3) := by decide +kernel
theorem dX11_isReader_6 : decode cX11_isReader 6 = .ok (.iconst 0, 1) := by decide +kernel
theorem dX11_isReader_7 : decode cX11_isReader 7 = .ok (.iaload, 1) := by decide +kernel
theorem dX11_isReader_8 : decode cX11_isReader 8 = .ok (.iconst 1, 1) := by decide +kernel
theorem dX11_isReader_9 : decode cX11_isReader 9 = .ok (.isub, 1) := by decide +kernel
theorem dX11_isReader_10 : decode cX11_isReader 10 = .ok (.invokestatic 232, 3) := by decide +kernel
theorem dX11_isReader_13 : decode cX11_isReader 13 = .ok (.ireturn, 1) := by decide +kernel
theorem dX11_hasRead_0 : decode cX11_hasRead 0 = .ok (.aload_n 0, 1) := by decide +kernel
theorem dX11_hasRead_1 : decode cX11_hasRead 1 = .ok (.getfield 162, 3) := by decide +kernel
theorem dX11_hasRead_4 : decode cX11_hasRead 4 = .ok (.iload_n 1, 1) := by decide +kernel
theorem dX11_hasRead_5 : decode cX11_hasRead 5 = .ok (.iaload, 1) := by decide +kernel
theorem dX11_hasRead_6 : decode cX11_hasRead 6 = .ok (.iload_n 2, 1) := by decide +kernel
theorem dX11_hasRead_7 : decode cX11_hasRead 7 = .ok (.ishr, 1) := by decide +kernel
theorem dX11_hasRead_8 : decode cX11_hasRead 8 = .ok (.iconst 1, 1) := by decide +kernel
theorem dX11_hasRead_9 : decode cX11_hasRead 9 = .ok (.iand, 1) := by decide +kernel
theorem dX11_hasRead_10 : decode cX11_hasRead 10 = .ok (.ifCond .eq 7, 3) := by decide +kernel
theorem dX11_hasRead_13 : decode cX11_hasRead 13 = .ok (.iconst 1, 1) := by decide +kernel
theorem dX11_hasRead_14 : decode cX11_hasRead 14 = .ok (.goto 4, 3) := by decide +kernel
theorem dX11_hasRead_17 : decode cX11_hasRead 17 = .ok (.iconst 0, 1) := by decide +kernel
theorem dX11_hasRead_18 : decode cX11_hasRead 18 = .ok (.ireturn, 1) := by decide +kernel
theorem dX11_read_0 : decode cX11_read 0 = .ok (.aload_n 0, 1) := by decide +kernel
theorem dX11_read_1 : decode cX11_read 1 = .ok (.iconst 0, 1) := by decide +kernel
theorem dX11_read_2 : decode cX11_read 2 = .ok (.putfield 220, 3) := by decide +kernel
theorem dX11_read_5 : decode cX11_read 5 = .ok (.aload_n 0, 1) := by decide +kernel
theorem dX11_read_6 : decode cX11_read 6 = .ok (.iload_n 1, 1) := by decide +kernel
theorem dX11_read_7 : decode cX11_read 7 = .ok (.invokevirtual 460, 3) := by decide +kernel
theorem dX11_read_10 : decode cX11_read 10 = .ok (.ifCond .eq 20, 3) := by decide +kernel
theorem dX11_read_13 : decode cX11_read 13 = .ok (.aload_n 0, 1) := by decide +kernel
theorem dX11_read_14 : decode cX11_read 14 = .ok (.iload_n 2, 1) := by decide +kernel
theorem dX11_read_15 : decode cX11_read 15 = .ok (.invokevirtual 317, 3) := by decide +kernel
theorem dX11_read_18 : decode cX11_read 18 = .ok (.ifCond .eq 12, 3) := by decide +kernel
theorem dX11_read_21 : decode cX11_read 21 = .ok (.aload_n 0, 1) := by decide +kernel
theorem dX11_read_22 : decode cX11_read 22 = .ok (.iload_n 1, 1) := by decide +kernel
theorem dX11_read_23 : decode cX11_read 23 = .ok (.iload_n 2, 1) := by decide +kernel
theorem dX11_read_24 : decode cX11_read 24 = .ok (.invokevirtual 463, 3) := by decide +kernel
theorem dX11_read_27 : decode cX11_read 27 = .ok (.ifCond .eq 5, 3) := by decide +kernel
theorem dX11_read_30 : decode cX11_read 30 = .ok (.iconst 0, 1) := by decide +kernel
theorem dX11_read_31 : decode cX11_read 31 = .ok (.ireturn, 1) := by decide +kernel
theorem dX11_read_32 : decode cX11_read 32 = .ok (.aload_n 0, 1) := by decide +kernel
theorem dX11_read_33 : decode cX11_read 33 = .ok (.getfield 162, 3) := by decide +kernel
theorem dX11_read_36 : decode cX11_read 36 = .ok (.iload_n 1, 1) := by decide +kernel
theorem dX11_read_37 : decode cX11_read 37 = .ok (.dup2, 1) := by decide +kernel
theorem dX11_read_38 : decode cX11_read 38 = .ok (.iaload, 1) := by decide +kernel
theorem dX11_read_39 : decode cX11_read 39 = .ok (.iconst 1, 1) := by decide +kernel
theorem dX11_read_40 : decode cX11_read 40 = .ok (.iload_n 2, 1) := by decide +kernel
theorem dX11_read_41 : decode cX11_read 41 = .ok (.ishl, 1) := by decide +kernel
theorem dX11_read_42 : decode cX11_read 42 = .ok (.ior, 1) := by decide +kernel
theorem dX11_read_43 : decode cX11_read 43 = .ok (.iastore, 1) := by decide +kernel
theorem dX11_read_44 : decode cX11_read 44 = .ok (.iconst 1, 1) := by decide +kernel
theorem dX11_read_45 : decode cX11_read 45 = .ok (.ireturn, 1) := by decide +kernel
theorem dX11_levelOf_0 : decode cX11_levelOf 0 = .ok (.iconst 0, 1) := by decide +kernel
theorem dX11_levelOf_1 : decode cX11_levelOf 1 = .ok (.istore_n 2, 1) := by decide +kernel
theorem dX11_levelOf_2 : decode cX11_levelOf 2 = .ok (.iconst 1, 1) := by decide +kernel
theorem dX11_levelOf_3 : decode cX11_levelOf 3 = .ok (.istore_n 3, 1) := by decide +kernel
theorem dX11_levelOf_4 : decode cX11_levelOf 4 = .ok (.iload_n 3, 1) := by decide +kernel
theorem dX11_levelOf_5 : decode cX11_levelOf 5 = .ok (.bipush 9, 2) := by decide +kernel
theorem dX11_levelOf_7 : decode cX11_levelOf 7 = .ok (.if_icmp .gt 75, 3) := by decide +kernel
theorem dX11_levelOf_10 : decode cX11_levelOf 10 = .ok (.iconst 0, 1) := by decide +kernel
theorem dX11_levelOf_11 : decode cX11_levelOf 11 = .ok (.istore 4, 2) := by decide +kernel
theorem dX11_levelOf_13 : decode cX11_levelOf 13 = .ok (.iconst 0, 1) := by decide +kernel
theorem dX11_levelOf_14 : decode cX11_levelOf 14 = .ok (.istore 5, 2) := by decide +kernel
theorem dX11_levelOf_16 : decode cX11_levelOf 16 = .ok (.iload 5, 2) := by decide +kernel
theorem dX11_levelOf_18 : decode cX11_levelOf 18 = .ok (.aload_n 0, 1) := by decide +kernel
theorem dX11_levelOf_19 : decode cX11_levelOf 19 = .ok (.getfield 87, 3) := by decide +kernel
theorem dX11_levelOf_22 : decode cX11_levelOf 22 = .ok (.iconst 0, 1) := by decide +kernel
theorem dX11_levelOf_23 : decode cX11_levelOf 23 = .ok (.iaload, 1) := by decide +kernel
theorem dX11_levelOf_24 : decode cX11_levelOf 24 = .ok (.if_icmp .ge 40, 3) := by decide +kernel
theorem dX11_levelOf_27 : decode cX11_levelOf 27 = .ok (.iload 4, 2) := by decide +kernel
theorem dX11_levelOf_29 : decode cX11_levelOf 29 = .ok (.aload_n 0, 1) := by decide +kernel
theorem dX11_levelOf_30 : decode cX11_levelOf 30 = .ok (.iload_n 1, 1) := by decide +kernel
theorem dX11_levelOf_31 : decode cX11_levelOf 31 = .ok (.iload 5, 2) := by decide +kernel
theorem dX11_levelOf_33 : decode cX11_levelOf 33 = .ok (.invokevirtual 463, 3) := by decide +kernel
theorem dX11_levelOf_36 : decode cX11_levelOf 36 = .ok (.ifCond .eq 18, 3) := by decide +kernel
theorem dX11_levelOf_39 : decode cX11_levelOf 39 = .ok (.aload_n 0, 1) := by decide +kernel
theorem dX11_levelOf_40 : decode cX11_levelOf 40 = .ok (.getfield 96, 3) := by decide +kernel
theorem dX11_levelOf_43 : decode cX11_levelOf 43 = .ok (.iload 5, 2) := by decide +kernel
theorem dX11_levelOf_45 : decode cX11_levelOf 45 = .ok (.iaload, 1) := by decide +kernel
theorem dX11_levelOf_46 : decode cX11_levelOf 46 = .ok (.iload_n 3, 1) := by decide +kernel
theorem dX11_levelOf_47 : decode cX11_levelOf 47 = .ok (.if_icmp .lt 7, 3) := by decide +kernel
theorem dX11_levelOf_50 : decode cX11_levelOf 50 = .ok (.iconst 1, 1) := by decide +kernel
theorem dX11_levelOf_51 : decode cX11_levelOf 51 = .ok (.goto 4, 3) := by decide +kernel
theorem dX11_levelOf_54 : decode cX11_levelOf 54 = .ok (.iconst 0, 1) := by decide +kernel
theorem dX11_levelOf_55 : decode cX11_levelOf 55 = .ok (.iadd, 1) := by decide +kernel
theorem dX11_levelOf_56 : decode cX11_levelOf 56 = .ok (.istore 4, 2) := by decide +kernel
theorem dX11_levelOf_58 : decode cX11_levelOf 58 = .ok (.iinc 5 1, 3) := by decide +kernel
theorem dX11_levelOf_61 : decode cX11_levelOf 61 = .ok (.goto (-45), 3) := by decide +kernel
theorem dX11_levelOf_64 : decode cX11_levelOf 64 = .ok (.iload 4, 2) := by decide +kernel
theorem dX11_levelOf_66 : decode cX11_levelOf 66 = .ok (.iload_n 3, 1) := by decide +kernel
theorem dX11_levelOf_67 : decode cX11_levelOf 67 = .ok (.if_icmp .lt 7, 3) := by decide +kernel
theorem dX11_levelOf_70 : decode cX11_levelOf 70 = .ok (.iload_n 3, 1) := by decide +kernel
theorem dX11_levelOf_71 : decode cX11_levelOf 71 = .ok (.goto 4, 3) := by decide +kernel
theorem dX11_levelOf_74 : decode cX11_levelOf 74 = .ok (.iload_n 2, 1) := by decide +kernel
theorem dX11_levelOf_75 : decode cX11_levelOf 75 = .ok (.istore_n 2, 1) := by decide +kernel
theorem dX11_levelOf_76 : decode cX11_levelOf 76 = .ok (.iinc 3 1, 3) := by decide +kernel
theorem dX11_levelOf_79 : decode cX11_levelOf 79 = .ok (.goto (-75), 3) := by decide +kernel
theorem dX11_levelOf_82 : decode cX11_levelOf 82 = .ok (.iload_n 2, 1) := by decide +kernel
theorem dX11_levelOf_83 : decode cX11_levelOf 83 = .ok (.ireturn, 1) := by decide +kernel
theorem dX11_nextFor_0 : decode cX11_nextFor 0 = .ok (.aload_n 0, 1) := by decide +kernel
theorem dX11_nextFor_1 : decode cX11_nextFor 1 = .ok (.iload_n 1, 1) := by decide +kernel
theorem dX11_nextFor_2 : decode cX11_nextFor 2 = .ok (.invokevirtual 466, 3) := by decide +kernel
theorem dX11_nextFor_5 : decode cX11_nextFor 5 = .ok (.iconst 1, 1) := by decide +kernel
theorem dX11_nextFor_6 : decode cX11_nextFor 6 = .ok (.iadd, 1) := by decide +kernel
theorem dX11_nextFor_7 : decode cX11_nextFor 7 = .ok (.istore_n 2, 1) := by decide +kernel
theorem dX11_nextFor_8 : decode cX11_nextFor 8 = .ok (.iconst (-1), 1) := by decide +kernel
theorem dX11_nextFor_9 : decode cX11_nextFor 9 = .ok (.istore_n 3, 1) := by decide +kernel
theorem dX11_nextFor_10 : decode cX11_nextFor 10 = .ok (.iconst 0, 1) := by decide +kernel
theorem dX11_nextFor_11 : decode cX11_nextFor 11 = .ok (.istore 4, 2) := by decide +kernel
theorem dX11_nextFor_13 : decode cX11_nextFor 13 = .ok (.iconst 0, 1) := by decide +kernel
theorem dX11_nextFor_14 : decode cX11_nextFor 14 = .ok (.istore 5, 2) := by decide +kernel
theorem dX11_nextFor_16 : decode cX11_nextFor 16 = .ok (.iload 5, 2) := by decide +kernel
theorem dX11_nextFor_18 : decode cX11_nextFor 18 = .ok (.aload_n 0, 1) := by decide +kernel
theorem dX11_nextFor_19 : decode cX11_nextFor 19 = .ok (.getfield 87, 3) := by decide +kernel
theorem dX11_nextFor_22 : decode cX11_nextFor 22 = .ok (.iconst 0, 1) := by decide +kernel
theorem dX11_nextFor_23 : decode cX11_nextFor 23 = .ok (.iaload, 1) := by decide +kernel
theorem dX11_nextFor_24 : decode cX11_nextFor 24 = .ok (.if_icmp .ge 116, 3) := by decide +kernel
theorem dX11_nextFor_27 : decode cX11_nextFor 27 = .ok (.aload_n 0, 1) := by decide +kernel
theorem dX11_nextFor_28 : decode cX11_nextFor 28 = .ok (.iload_n 1, 1) := by decide +kernel
theorem dX11_nextFor_29 : decode cX11_nextFor 29 = .ok (.iload 5, 2) := by decide +kernel
theorem dX11_nextFor_31 : decode cX11_nextFor 31 = .ok (.invokevirtual 463, 3) := by decide +kernel
theorem dX11_nextFor_34 : decode cX11_nextFor 34 = .ok (.ifCond .ne 100, 3) := by decide +kernel
theorem dX11_nextFor_37 : decode cX11_nextFor 37 = .ok (.aload_n 0, 1) := by decide +kernel
theorem dX11_nextFor_38 : decode cX11_nextFor 38 = .ok (.getfield 93, 3) := by decide +kernel
theorem dX11_nextFor_41 : decode cX11_nextFor 41 = .ok (.iload 5, 2) := by decide +kernel
theorem dX11_nextFor_43 : decode cX11_nextFor 43 = .ok (.iaload, 1) := by decide +kernel
theorem dX11_nextFor_44 : decode cX11_nextFor 44 = .ok (.aload_n 0, 1) := by decide +kernel
theorem dX11_nextFor_45 : decode cX11_nextFor 45 = .ok (.getfield 42, 3) := by decide +kernel
theorem dX11_nextFor_48 : decode cX11_nextFor 48 = .ok (.aload_n 0, 1) := by decide +kernel
theorem dX11_nextFor_49 : decode cX11_nextFor 49 = .ok (.getfield 159, 3) := by decide +kernel
theorem dX11_nextFor_52 : decode cX11_nextFor 52 = .ok (.iload_n 1, 1) := by decide +kernel
theorem dX11_nextFor_53 : decode cX11_nextFor 53 = .ok (.iaload, 1) := by decide +kernel
theorem dX11_nextFor_54 : decode cX11_nextFor 54 = .ok (.iaload, 1) := by decide +kernel
theorem dX11_nextFor_55 : decode cX11_nextFor 55 = .ok (.if_icmp .ne 79, 3) := by decide +kernel
theorem dX11_nextFor_58 : decode cX11_nextFor 58 = .ok (.aload_n 0, 1) := by decide +kernel
theorem dX11_nextFor_59 : decode cX11_nextFor 59 = .ok (.iload 5, 2) := by decide +kernel
theorem dX11_nextFor_61 : decode cX11_nextFor 61 = .ok (.aload_n 0, 1) := by decide +kernel
theorem dX11_nextFor_62 : decode cX11_nextFor 62 = .ok (.getfield 23, 3) := by decide +kernel
theorem dX11_nextFor_65 : decode cX11_nextFor 65 = .ok (.iconst 0, 1) := by decide +kernel
theorem dX11_nextFor_66 : decode cX11_nextFor 66 = .ok (.iaload, 1) := by decide +kernel
theorem dX11_nextFor_67 : decode cX11_nextFor 67 = .ok (.aload_n 0, 1) := by decide +kernel
theorem dX11_nextFor_68 : decode cX11_nextFor 68 = .ok (.invokevirtual 283, 3) := by decide +kernel
theorem dX11_nextFor_71 : decode cX11_nextFor 71 = .ok (.invokevirtual 297, 3) := by decide +kernel
theorem dX11_nextFor_74 : decode cX11_nextFor 74 = .ok (.iconst (-1), 1) := by decide +kernel
theorem dX11_nextFor_75 : decode cX11_nextFor 75 = .ok (.if_icmp .eq 6, 3) := by decide +kernel
theorem dX11_nextFor_78 : decode cX11_nextFor 78 = .ok (.goto 56, 3) := by decide +kernel
theorem dX11_nextFor_81 : decode cX11_nextFor 81 = .ok (.aload_n 0, 1) := by decide +kernel
theorem dX11_nextFor_82 : decode cX11_nextFor 82 = .ok (.getfield 96, 3) := by decide +kernel
theorem dX11_nextFor_85 : decode cX11_nextFor 85 = .ok (.iload 5, 2) := by decide +kernel
theorem dX11_nextFor_87 : decode cX11_nextFor 87 = .ok (.iaload, 1) := by decide +kernel
theorem dX11_nextFor_88 : decode cX11_nextFor 88 = .ok (.iload_n 2, 1) := by decide +kernel
theorem dX11_nextFor_89 : decode cX11_nextFor 89 = .ok (.if_icmp .ge 15, 3) := by decide +kernel
theorem dX11_nextFor_92 : decode cX11_nextFor 92 = .ok (.iload_n 2, 1) := by decide +kernel
theorem dX11_nextFor_93 : decode cX11_nextFor 93 = .ok (.aload_n 0, 1) := by decide +kernel
theorem dX11_nextFor_94 : decode cX11_nextFor 94 = .ok (.getfield 96, 3) := by decide +kernel
theorem dX11_nextFor_97 : decode cX11_nextFor 97 = .ok (.iload 5, 2) := by decide +kernel
theorem dX11_nextFor_99 : decode cX11_nextFor 99 = .ok (.iaload, 1) := by decide +kernel
theorem dX11_nextFor_100 : decode cX11_nextFor 100 = .ok (.isub, 1) := by decide +kernel
theorem dX11_nextFor_101 : decode cX11_nextFor 101 = .ok (.goto 12, 3) := by decide +kernel
theorem dX11_nextFor_104 : decode cX11_nextFor 104 = .ok (.aload_n 0, 1) := by decide +kernel
theorem dX11_nextFor_105 : decode cX11_nextFor 105 = .ok (.getfield 96, 3) := by decide +kernel
theorem dX11_nextFor_108 : decode cX11_nextFor 108 = .ok (.iload 5, 2) := by decide +kernel
theorem dX11_nextFor_110 : decode cX11_nextFor 110 = .ok (.iaload, 1) := by decide +kernel
theorem dX11_nextFor_111 : decode cX11_nextFor 111 = .ok (.iload_n 2, 1) := by decide +kernel
theorem dX11_nextFor_112 : decode cX11_nextFor 112 = .ok (.isub, 1) := by decide +kernel
theorem dX11_nextFor_113 : decode cX11_nextFor 113 = .ok (.istore 6, 2) := by decide +kernel
theorem dX11_nextFor_115 : decode cX11_nextFor 115 = .ok (.iload_n 3, 1) := by decide +kernel
theorem dX11_nextFor_116 : decode cX11_nextFor 116 = .ok (.iconst (-1), 1) := by decide +kernel
theorem dX11_nextFor_117 : decode cX11_nextFor 117 = .ok (.if_icmp .eq 10, 3) := by decide +kernel
theorem dX11_nextFor_120 : decode cX11_nextFor 120 = .ok (.iload 6, 2) := by decide +kernel
theorem dX11_nextFor_122 : decode cX11_nextFor 122 = .ok (.iload 4, 2) := by decide +kernel
theorem dX11_nextFor_124 : decode cX11_nextFor 124 = .ok (.if_icmp .ge 10, 3) := by decide +kernel
theorem dX11_nextFor_127 : decode cX11_nextFor 127 = .ok (.iload 5, 2) := by decide +kernel
theorem dX11_nextFor_129 : decode cX11_nextFor 129 = .ok (.istore_n 3, 1) := by decide +kernel
theorem dX11_nextFor_130 : decode cX11_nextFor 130 = .ok (.iload 6, 2) := by decide +kernel
theorem dX11_nextFor_132 : decode cX11_nextFor 132 = .ok (.istore 4, 2) := by decide +kernel
theorem dX11_nextFor_134 : decode cX11_nextFor 134 = .ok (.iinc 5 1, 3) := by decide +kernel
theorem dX11_nextFor_137 : decode cX11_nextFor 137 = .ok (.goto (-121), 3) := by decide +kernel
theorem dX11_nextFor_140 : decode cX11_nextFor 140 = .ok (.iload_n 3, 1) := by decide +kernel
theorem dX11_nextFor_141 : decode cX11_nextFor 141 = .ok (.ireturn, 1) := by decide +kernel
theorem dX11_learns_0 : decode cX11_learns 0 = .ok (.aload_n 0, 1) := by decide +kernel
theorem dX11_learns_1 : decode cX11_learns 1 = .ok (.iconst 0, 1) := by decide +kernel
theorem dX11_learns_2 : decode cX11_learns 2 = .ok (.putfield 220, 3) := by decide +kernel
theorem dX11_learns_5 : decode cX11_learns 5 = .ok (.aload_n 0, 1) := by decide +kernel
theorem dX11_learns_6 : decode cX11_learns 6 = .ok (.iload_n 1, 1) := by decide +kernel
theorem dX11_learns_7 : decode cX11_learns 7 = .ok (.invokevirtual 460, 3) := by decide +kernel
theorem dX11_learns_10 : decode cX11_learns 10 = .ok (.ifCond .ne 6, 3) := by decide +kernel
theorem dX11_learns_13 : decode cX11_learns 13 = .ok (.bipush (-2), 2) := by decide +kernel
theorem dX11_learns_15 : decode cX11_learns 15 = .ok (.ireturn, 1) := by decide +kernel
theorem dX11_learns_16 : decode cX11_learns 16 = .ok (.iload_n 2, 1) := by decide +kernel
theorem dX11_learns_17 : decode cX11_learns 17 = .ok (.tableswitch 57 0 3 #[31, 38, 44, 51], 31) := by decide +kernel
theorem dX11_learns_48 : decode cX11_learns 48 = .ok (.aload_n 0, 1) := by decide +kernel
theorem dX11_learns_49 : decode cX11_learns 49 = .ok (.getfield 159, 3) := by decide +kernel
theorem dX11_learns_52 : decode cX11_learns 52 = .ok (.iload_n 1, 1) := by decide +kernel
theorem dX11_learns_53 : decode cX11_learns 53 = .ok (.iaload, 1) := by decide +kernel
theorem dX11_learns_54 : decode cX11_learns 54 = .ok (.ireturn, 1) := by decide +kernel
theorem dX11_learns_55 : decode cX11_learns 55 = .ok (.aload_n 0, 1) := by decide +kernel
theorem dX11_learns_56 : decode cX11_learns 56 = .ok (.iload_n 1, 1) := by decide +kernel
theorem dX11_learns_57 : decode cX11_learns 57 = .ok (.invokevirtual 466, 3) := by decide +kernel
theorem dX11_learns_60 : decode cX11_learns 60 = .ok (.ireturn, 1) := by decide +kernel
theorem dX11_learns_61 : decode cX11_learns 61 = .ok (.aload_n 0, 1) := by decide +kernel
theorem dX11_learns_62 : decode cX11_learns 62 = .ok (.getfield 162, 3) := by decide +kernel
theorem dX11_learns_65 : decode cX11_learns 65 = .ok (.iload_n 1, 1) := by decide +kernel
theorem dX11_learns_66 : decode cX11_learns 66 = .ok (.iaload, 1) := by decide +kernel
theorem dX11_learns_67 : decode cX11_learns 67 = .ok (.ireturn, 1) := by decide +kernel
theorem dX11_learns_68 : decode cX11_learns 68 = .ok (.aload_n 0, 1) := by decide +kernel
theorem dX11_learns_69 : decode cX11_learns 69 = .ok (.iload_n 1, 1) := by decide +kernel
theorem dX11_learns_70 : decode cX11_learns 70 = .ok (.invokevirtual 469, 3) := by decide +kernel
theorem dX11_learns_73 : decode cX11_learns 73 = .ok (.ireturn, 1) := by decide +kernel
theorem dX11_learns_74 : decode cX11_learns 74 = .ok (.bipush (-2), 2) := by decide +kernel
theorem dX11_learns_76 : decode cX11_learns 76 = .ok (.ireturn, 1) := by decide +kernel
theorem dX11_readersOf_0 : decode cX11_readersOf 0 = .ok (.iconst 0, 1) := by decide +kernel
theorem dX11_readersOf_1 : decode cX11_readersOf 1 = .ok (.istore_n 2, 1) := by decide +kernel
theorem dX11_readersOf_2 : decode cX11_readersOf 2 = .ok (.iconst 0, 1) := by decide +kernel
theorem dX11_readersOf_3 : decode cX11_readersOf 3 = .ok (.istore_n 3, 1) := by decide +kernel
theorem dX11_readersOf_4 : decode cX11_readersOf 4 = .ok (.iload_n 3, 1) := by decide +kernel
theorem dX11_readersOf_5 : decode cX11_readersOf 5 = .ok (.aload_n 0, 1) := by decide +kernel
theorem dX11_readersOf_6 : decode cX11_readersOf 6 = .ok (.getfield 156, 3) := by decide +kernel
theorem dX11_readersOf_9 : decode cX11_readersOf 9 = .ok (.iconst 0, 1) := by decide +kernel
theorem dX11_readersOf_10 : decode cX11_readersOf 10 = .ok (.iaload, 1) := by decide +kernel
theorem dX11_readersOf_11 : decode cX11_readersOf 11 = .ok (.if_icmp .ge 78, 3) := by decide +kernel
theorem dX11_readersOf_14 : decode cX11_readersOf 14 = .ok (.iconst 0, 1) := by decide +kernel
theorem dX11_readersOf_15 : decode cX11_readersOf 15 = .ok (.istore 4, 2) := by decide +kernel
theorem dX11_readersOf_17 : decode cX11_readersOf 17 = .ok (.iconst 0, 1) := by decide +kernel
theorem dX11_readersOf_18 : decode cX11_readersOf 18 = .ok (.istore 5, 2) := by decide +kernel
theorem dX11_readersOf_20 : decode cX11_readersOf 20 = .ok (.iload 5, 2) := by decide +kernel
theorem dX11_readersOf_22 : decode cX11_readersOf 22 = .ok (.aload_n 0, 1) := by decide +kernel
theorem dX11_readersOf_23 : decode cX11_readersOf 23 = .ok (.getfield 87, 3) := by decide +kernel
theorem dX11_readersOf_26 : decode cX11_readersOf 26 = .ok (.iconst 0, 1) := by decide +kernel
theorem dX11_readersOf_27 : decode cX11_readersOf 27 = .ok (.iaload, 1) := by decide +kernel
theorem dX11_readersOf_28 : decode cX11_readersOf 28 = .ok (.if_icmp .ge 42, 3) := by decide +kernel
theorem dX11_readersOf_31 : decode cX11_readersOf 31 = .ok (.iload 4, 2) := by decide +kernel
theorem dX11_readersOf_33 : decode cX11_readersOf 33 = .ok (.ifCond .ne 24, 3) := by decide +kernel
theorem dX11_readersOf_36 : decode cX11_readersOf 36 = .ok (.aload_n 0, 1) := by decide +kernel
theorem dX11_readersOf_37 : decode cX11_readersOf 37 = .ok (.iload_n 3, 1) := by decide +kernel
theorem dX11_readersOf_38 : decode cX11_readersOf 38 = .ok (.iload 5, 2) := by decide +kernel
theorem dX11_readersOf_40 : decode cX11_readersOf 40 = .ok (.invokevirtual 463, 3) := by decide +kernel
theorem dX11_readersOf_43 : decode cX11_readersOf 43 = .ok (.ifCond .eq 18, 3) := by decide +kernel
theorem dX11_readersOf_46 : decode cX11_readersOf 46 = .ok (.aload_n 0, 1) := by decide +kernel
theorem dX11_readersOf_47 : decode cX11_readersOf 47 = .ok (.getfield 90, 3) := by decide +kernel
theorem dX11_readersOf_50 : decode cX11_readersOf 50 = .ok (.iload 5, 2) := by decide +kernel
theorem dX11_readersOf_52 : decode cX11_readersOf 52 = .ok (.iaload, 1) := by decide +kernel
theorem dX11_readersOf_53 : decode cX11_readersOf 53 = .ok (.iload_n 1, 1) := by decide +kernel
theorem dX11_readersOf_54 : decode cX11_readersOf 54 = .ok (.if_icmp .ne 7, 3) := by decide +kernel
theorem dX11_readersOf_57 : decode cX11_readersOf 57 = .ok (.iconst 1, 1) := by decide +kernel
theorem dX11_readersOf_58 : decode cX11_readersOf 58 = .ok (.goto 4, 3) := by decide +kernel
theorem dX11_readersOf_61 : decode cX11_readersOf 61 = .ok (.iconst 0, 1) := by decide +kernel
theorem dX11_readersOf_62 : decode cX11_readersOf 62 = .ok (.istore 4, 2) := by decide +kernel
theorem dX11_readersOf_64 : decode cX11_readersOf 64 = .ok (.iinc 5 1, 3) := by decide +kernel
theorem dX11_readersOf_67 : decode cX11_readersOf 67 = .ok (.goto (-47), 3) := by decide +kernel
theorem dX11_readersOf_70 : decode cX11_readersOf 70 = .ok (.iload_n 2, 1) := by decide +kernel
theorem dX11_readersOf_71 : decode cX11_readersOf 71 = .ok (.iload 4, 2) := by decide +kernel
theorem dX11_readersOf_73 : decode cX11_readersOf 73 = .ok (.ifCond .eq 7, 3) := by decide +kernel
theorem dX11_readersOf_76 : decode cX11_readersOf 76 = .ok (.iconst 1, 1) := by decide +kernel
theorem dX11_readersOf_77 : decode cX11_readersOf 77 = .ok (.goto 4, 3) := by decide +kernel
theorem dX11_readersOf_80 : decode cX11_readersOf 80 = .ok (.iconst 0, 1) := by decide +kernel
theorem dX11_readersOf_81 : decode cX11_readersOf 81 = .ok (.iadd, 1) := by decide +kernel
theorem dX11_readersOf_82 : decode cX11_readersOf 82 = .ok (.istore_n 2, 1) := by decide +kernel
theorem dX11_readersOf_83 : decode cX11_readersOf 83 = .ok (.iinc 3 1, 3) := by decide +kernel
theorem dX11_readersOf_86 : decode cX11_readersOf 86 = .ok (.goto (-82), 3) := by decide +kernel
theorem dX11_readersOf_89 : decode cX11_readersOf 89 = .ok (.iload_n 2, 1) := by decide +kernel
theorem dX11_readersOf_90 : decode cX11_readersOf 90 = .ok (.ireturn, 1) := by decide +kernel
theorem dX11_giver_0 : decode cX11_giver 0 = .ok (.aload_n 0, 1) := by decide +kernel
theorem dX11_giver_1 : decode cX11_giver 1 = .ok (.iconst 0, 1) := by decide +kernel
theorem dX11_giver_2 : decode cX11_giver 2 = .ok (.putfield 220, 3) := by decide +kernel
theorem dX11_giver_5 : decode cX11_giver 5 = .ok (.iload_n 1, 1) := by decide +kernel
theorem dX11_giver_6 : decode cX11_giver 6 = .ok (.iconst 0, 1) := by decide +kernel
theorem dX11_giver_7 : decode cX11_giver 7 = .ok (.bipush 7, 2) := by decide +kernel
theorem dX11_giver_9 : decode cX11_giver 9 = .ok (.invokestatic 232, 3) := by decide +kernel
theorem dX11_giver_12 : decode cX11_giver 12 = .ok (.ifCond .ne 5, 3) := by decide +kernel
theorem dX11_giver_15 : decode cX11_giver 15 = .ok (.iconst (-1), 1) := by decide +kernel
theorem dX11_giver_16 : decode cX11_giver 16 = .ok (.ireturn, 1) := by decide +kernel
theorem dX11_giver_17 : decode cX11_giver 17 = .ok (.iconst 0, 1) := by decide +kernel
theorem dX11_giver_18 : decode cX11_giver 18 = .ok (.istore_n 2, 1) := by decide +kernel
theorem dX11_giver_19 : decode cX11_giver 19 = .ok (.iconst (-1), 1) := by decide +kernel
theorem dX11_giver_20 : decode cX11_giver 20 = .ok (.istore_n 3, 1) := by decide +kernel
theorem dX11_giver_21 : decode cX11_giver 21 = .ok (.iconst 0, 1) := by decide +kernel
theorem dX11_giver_22 : decode cX11_giver 22 = .ok (.istore 4, 2) := by decide +kernel
theorem dX11_giver_24 : decode cX11_giver 24 = .ok (.iload 4, 2) := by decide +kernel
theorem dX11_giver_26 : decode cX11_giver 26 = .ok (.bipush 8, 2) := by decide +kernel
theorem dX11_giver_28 : decode cX11_giver 28 = .ok (.if_icmp .ge 65, 3) := by decide +kernel
theorem dX11_giver_31 : decode cX11_giver 31 = .ok (.aload_n 0, 1) := by decide +kernel
theorem dX11_giver_32 : decode cX11_giver 32 = .ok (.iload 4, 2) := by decide +kernel
theorem dX11_giver_34 : decode cX11_giver 34 = .ok (.invokevirtual 472, 3) := by decide +kernel
theorem dX11_giver_37 : decode cX11_giver 37 = .ok (.istore 5, 2) := by decide +kernel
theorem dX11_giver_39 : decode cX11_giver 39 = .ok (.iload_n 2, 1) := by decide +kernel
theorem dX11_giver_40 : decode cX11_giver 40 = .ok (.iload 5, 2) := by decide +kernel
theorem dX11_giver_42 : decode cX11_giver 42 = .ok (.iconst 1, 1) := by decide +kernel
theorem dX11_giver_43 : decode cX11_giver 43 = .ok (.if_icmp .eq 9, 3) := by decide +kernel
theorem dX11_giver_46 : decode cX11_giver 46 = .ok (.iload 5, 2) := by decide +kernel
theorem dX11_giver_48 : decode cX11_giver 48 = .ok (.iconst 2, 1) := by decide +kernel
theorem dX11_giver_49 : decode cX11_giver 49 = .ok (.if_icmp .ne 7, 3) := by decide +kernel
theorem dX11_giver_52 : decode cX11_giver 52 = .ok (.iconst 1, 1) := by decide +kernel
theorem dX11_giver_53 : decode cX11_giver 53 = .ok (.goto 4, 3) := by decide +kernel
theorem dX11_giver_56 : decode cX11_giver 56 = .ok (.iconst 0, 1) := by decide +kernel
theorem dX11_giver_57 : decode cX11_giver 57 = .ok (.iadd, 1) := by decide +kernel
theorem dX11_giver_58 : decode cX11_giver 58 = .ok (.istore_n 2, 1) := by decide +kernel
theorem dX11_giver_59 : decode cX11_giver 59 = .ok (.iload 5, 2) := by decide +kernel
theorem dX11_giver_61 : decode cX11_giver 61 = .ok (.iconst 2, 1) := by decide +kernel
theorem dX11_giver_62 : decode cX11_giver 62 = .ok (.if_icmp .le 23, 3) := by decide +kernel
theorem dX11_giver_65 : decode cX11_giver 65 = .ok (.iload_n 3, 1) := by decide +kernel
theorem dX11_giver_66 : decode cX11_giver 66 = .ok (.iconst (-1), 1) := by decide +kernel
theorem dX11_giver_67 : decode cX11_giver 67 = .ok (.if_icmp .eq 13, 3) := by decide +kernel
theorem dX11_giver_70 : decode cX11_giver 70 = .ok (.iload 5, 2) := by decide +kernel
theorem dX11_giver_72 : decode cX11_giver 72 = .ok (.aload_n 0, 1) := by decide +kernel
theorem dX11_giver_73 : decode cX11_giver 73 = .ok (.iload_n 3, 1) := by decide +kernel
theorem dX11_giver_74 : decode cX11_giver 74 = .ok (.invokevirtual 472, 3) := by decide +kernel
theorem dX11_giver_77 : decode cX11_giver 77 = .ok (.if_icmp .ge 8, 3) := by decide +kernel
theorem dX11_giver_80 : decode cX11_giver 80 = .ok (.iload 4, 2) := by decide +kernel
theorem dX11_giver_82 : decode cX11_giver 82 = .ok (.goto 4, 3) := by decide +kernel
theorem dX11_giver_85 : decode cX11_giver 85 = .ok (.iload_n 3, 1) := by decide +kernel
theorem dX11_giver_86 : decode cX11_giver 86 = .ok (.istore_n 3, 1) := by decide +kernel
theorem dX11_giver_87 : decode cX11_giver 87 = .ok (.iinc 4 1, 3) := by decide +kernel
theorem dX11_giver_90 : decode cX11_giver 90 = .ok (.goto (-66), 3) := by decide +kernel
theorem dX11_giver_93 : decode cX11_giver 93 = .ok (.aload_n 0, 1) := by decide +kernel
theorem dX11_giver_94 : decode cX11_giver 94 = .ok (.iload_n 1, 1) := by decide +kernel
theorem dX11_giver_95 : decode cX11_giver 95 = .ok (.invokevirtual 472, 3) := by decide +kernel
theorem dX11_giver_98 : decode cX11_giver 98 = .ok (.istore 4, 2) := by decide +kernel
theorem dX11_giver_100 : decode cX11_giver 100 = .ok (.iload 4, 2) := by decide +kernel
theorem dX11_giver_102 : decode cX11_giver 102 = .ok (.iconst 1, 1) := by decide +kernel
theorem dX11_giver_103 : decode cX11_giver 103 = .ok (.if_icmp .eq 19, 3) := by decide +kernel
theorem dX11_giver_106 : decode cX11_giver 106 = .ok (.iload 4, 2) := by decide +kernel
theorem dX11_giver_108 : decode cX11_giver 108 = .ok (.iconst 2, 1) := by decide +kernel
theorem dX11_giver_109 : decode cX11_giver 109 = .ok (.if_icmp .eq 13, 3) := by decide +kernel
theorem dX11_giver_112 : decode cX11_giver 112 = .ok (.iload_n 2, 1) := by decide +kernel
theorem dX11_giver_113 : decode cX11_giver 113 = .ok (.iconst 1, 1) := by decide +kernel
theorem dX11_giver_114 : decode cX11_giver 114 = .ok (.if_icmp .ne 13, 3) := by decide +kernel
theorem dX11_giver_117 : decode cX11_giver 117 = .ok (.iload_n 1, 1) := by decide +kernel
theorem dX11_giver_118 : decode cX11_giver 118 = .ok (.iload_n 3, 1) := by decide +kernel
theorem dX11_giver_119 : decode cX11_giver 119 = .ok (.if_icmp .ne 8, 3) := by decide +kernel
theorem dX11_giver_122 : decode cX11_giver 122 = .ok (.bipush (-3), 2) := by decide +kernel
theorem dX11_giver_124 : decode cX11_giver 124 = .ok (.goto 5, 3) := by decide +kernel
theorem dX11_giver_127 : decode cX11_giver 127 = .ok (.iload 4, 2) := by decide +kernel
theorem dX11_giver_129 : decode cX11_giver 129 = .ok (.ireturn, 1) := by decide +kernel
theorem dX11_house_0 : decode cX11_house 0 = .ok (.aload_n 0, 1) := by decide +kernel
theorem dX11_house_1 : decode cX11_house 1 = .ok (.iconst 0, 1) := by decide +kernel
theorem dX11_house_2 : decode cX11_house 2 = .ok (.putfield 220, 3) := by decide +kernel
theorem dX11_house_5 : decode cX11_house 5 = .ok (.iload_n 1, 1) := by decide +kernel
theorem dX11_house_6 : decode cX11_house 6 = .ok (.invokestatic 240, 3) := by decide +kernel
theorem dX11_house_9 : decode cX11_house 9 = .ok (.ifCond .eq 33, 3) := by decide +kernel
theorem dX11_house_12 : decode cX11_house 12 = .ok (.iload_n 2, 1) := by decide +kernel
theorem dX11_house_13 : decode cX11_house 13 = .ok (.invokestatic 240, 3) := by decide +kernel
theorem dX11_house_16 : decode cX11_house 16 = .ok (.ifCond .eq 26, 3) := by decide +kernel
theorem dX11_house_19 : decode cX11_house 19 = .ok (.iload_n 1, 1) := by decide +kernel
theorem dX11_house_20 : decode cX11_house 20 = .ok (.iload_n 2, 1) := by decide +kernel
theorem dX11_house_21 : decode cX11_house 21 = .ok (.if_icmp .gt 21, 3) := by decide +kernel
theorem dX11_house_24 : decode cX11_house 24 = .ok (.aload_n 0, 1) := by decide +kernel
theorem dX11_house_25 : decode cX11_house 25 = .ok (.getfield 29, 3) := by decide +kernel
theorem dX11_house_28 : decode cX11_house 28 = .ok (.iconst 0, 1) := by decide +kernel
theorem dX11_house_29 : decode cX11_house 29 = .ok (.iaload, 1) := by decide +kernel
theorem dX11_house_30 : decode cX11_house 30 = .ok (.ifCond .eq 12, 3) := by decide +kernel
theorem dX11_house_33 : decode cX11_house 33 = .ok (.iload_n 3, 1) := by decide +kernel
theorem dX11_house_34 : decode cX11_house 34 = .ok (.iconst 0, 1) := by decide +kernel
theorem dX11_house_35 : decode cX11_house 35 = .ok (.iconst 1, 1) := by decide +kernel
theorem dX11_house_36 : decode cX11_house 36 = .ok (.invokestatic 232, 3) := by decide +kernel
theorem dX11_house_39 : decode cX11_house 39 = .ok (.ifCond .ne 5, 3) := by decide +kernel
theorem dX11_house_42 : decode cX11_house 42 = .ok (.iconst (-1), 1) := by decide +kernel
theorem dX11_house_43 : decode cX11_house 43 = .ok (.ireturn, 1) := by decide +kernel
theorem dX11_house_44 : decode cX11_house 44 = .ok (.iconst 0, 1) := by decide +kernel
theorem dX11_house_45 : decode cX11_house 45 = .ok (.istore 4, 2) := by decide +kernel
theorem dX11_house_47 : decode cX11_house 47 = .ok (.iload 4, 2) := by decide +kernel
theorem dX11_house_49 : decode cX11_house 49 = .ok (.bipush 10, 2) := by decide +kernel
theorem dX11_house_51 : decode cX11_house 51 = .ok (.if_icmp .ge 17, 3) := by decide +kernel
theorem dX11_house_54 : decode cX11_house 54 = .ok (.aload_n 0, 1) := by decide +kernel
theorem dX11_house_55 : decode cX11_house 55 = .ok (.getfield 211, 3) := by decide +kernel
theorem dX11_house_58 : decode cX11_house 58 = .ok (.iload 4, 2) := by decide +kernel
theorem dX11_house_60 : decode cX11_house 60 = .ok (.iconst 0, 1) := by decide +kernel
theorem dX11_house_61 : decode cX11_house 61 = .ok (.iastore, 1) := by decide +kernel
theorem dX11_house_62 : decode cX11_house 62 = .ok (.iinc 4 1, 3) := by decide +kernel
theorem dX11_house_65 : decode cX11_house 65 = .ok (.goto (-18), 3) := by decide +kernel
theorem dX11_house_68 : decode cX11_house 68 = .ok (.iconst 0, 1) := by decide +kernel
theorem dX11_house_69 : decode cX11_house 69 = .ok (.istore 4, 2) := by decide +kernel
theorem dX11_house_71 : decode cX11_house 71 = .ok (.iload 4, 2) := by decide +kernel
theorem dX11_house_73 : decode cX11_house 73 = .ok (.aload_n 0, 1) := by decide +kernel
theorem dX11_house_74 : decode cX11_house 74 = .ok (.getfield 39, 3) := by decide +kernel
theorem dX11_house_77 : decode cX11_house 77 = .ok (.iconst 0, 1) := by decide +kernel
theorem dX11_house_78 : decode cX11_house 78 = .ok (.iaload, 1) := by decide +kernel
theorem dX11_house_79 : decode cX11_house 79 = .ok (.if_icmp .ge 103, 3) := by decide +kernel
theorem dX11_house_82 : decode cX11_house 82 = .ok (.aload_n 0, 1) := by decide +kernel
theorem dX11_house_83 : decode cX11_house 83 = .ok (.iload 4, 2) := by decide +kernel
theorem dX11_house_85 : decode cX11_house 85 = .ok (.aload_n 0, 1) := by decide +kernel
theorem dX11_house_86 : decode cX11_house 86 = .ok (.invokevirtual 283, 3) := by decide +kernel
theorem dX11_house_89 : decode cX11_house 89 = .ok (.invokevirtual 273, 3) := by decide +kernel
theorem dX11_house_92 : decode cX11_house 92 = .ok (.aload_n 0, 1) := by decide +kernel
theorem dX11_house_93 : decode cX11_house 93 = .ok (.getfield 48, 3) := by decide +kernel
theorem dX11_house_96 : decode cX11_house 96 = .ok (.iload 4, 2) := by decide +kernel
theorem dX11_house_98 : decode cX11_house 98 = .ok (.iaload, 1) := by decide +kernel
theorem dX11_house_99 : decode cX11_house 99 = .ok (.istore 5, 2) := by decide +kernel
theorem dX11_house_101 : decode cX11_house 101 = .ok (.iload 5, 2) := by decide +kernel
theorem dX11_house_103 : decode cX11_house 103 = .ok (.iload_n 2, 1) := by decide +kernel
theorem dX11_house_104 : decode cX11_house 104 = .ok (.if_icmp .gt 72, 3) := by decide +kernel
theorem dX11_house_107 : decode cX11_house 107 = .ok (.iload 5, 2) := by decide +kernel
theorem dX11_house_109 : decode cX11_house 109 = .ok (.aload_n 0, 1) := by decide +kernel
theorem dX11_house_110 : decode cX11_house 110 = .ok (.getfield 48, 3) := by decide +kernel
theorem dX11_house_113 : decode cX11_house 113 = .ok (.iload 4, 2) := by decide +kernel
theorem dX11_house_115 : decode cX11_house 115 = .ok (.iaload, 1) := by decide +kernel
theorem dX11_house_116 : decode cX11_house 116 = .ok (.if_icmp .le 15, 3) := by decide +kernel
theorem dX11_house_119 : decode cX11_house 119 = .ok (.aload_n 0, 1) := by decide +kernel
theorem dX11_house_120 : decode cX11_house 120 = .ok (.iload 4, 2) := by decide +kernel
theorem dX11_house_122 : decode cX11_house 122 = .ok (.iload 5, 2) := by decide +kernel
theorem dX11_house_124 : decode cX11_house 124 = .ok (.aload_n 0, 1) := by decide +kernel
theorem dX11_house_125 : decode cX11_house 125 = .ok (.invokevirtual 283, 3) := by decide +kernel
theorem dX11_house_128 : decode cX11_house 128 = .ok (.invokevirtual 276, 3) := by decide +kernel
theorem dX11_house_131 : decode cX11_house 131 = .ok (.iconst 0, 1) := by decide +kernel
theorem dX11_house_132 : decode cX11_house 132 = .ok (.istore 6, 2) := by decide +kernel
theorem dX11_house_134 : decode cX11_house 134 = .ok (.iload 6, 2) := by decide +kernel
theorem dX11_house_136 : decode cX11_house 136 = .ok (.bipush 10, 2) := by decide +kernel
theorem dX11_house_138 : decode cX11_house 138 = .ok (.if_icmp .ge 32, 3) := by decide +kernel
theorem dX11_house_141 : decode cX11_house 141 = .ok (.iload 5, 2) := by decide +kernel
theorem dX11_house_143 : decode cX11_house 143 = .ok (.iload_n 1, 1) := by decide +kernel
theorem dX11_house_144 : decode cX11_house 144 = .ok (.if_icmp .lt 26, 3) := by decide +kernel
theorem dX11_house_147 : decode cX11_house 147 = .ok (.aload_n 0, 1) := by decide +kernel
theorem dX11_house_148 : decode cX11_house 148 = .ok (.getfield 211, 3) := by decide +kernel
theorem dX11_house_151 : decode cX11_house 151 = .ok (.iload 6, 2) := by decide +kernel
theorem dX11_house_153 : decode cX11_house 153 = .ok (.dup2, 1) := by decide +kernel
theorem dX11_house_154 : decode cX11_house 154 = .ok (.iaload, 1) := by decide +kernel
theorem dX11_house_155 : decode cX11_house 155 = .ok (.aload_n 0, 1) := by decide +kernel
theorem dX11_house_156 : decode cX11_house 156 = .ok (.getfield 165, 3) := by decide +kernel
theorem dX11_house_159 : decode cX11_house 159 = .ok (.iload 6, 2) := by decide +kernel
theorem dX11_house_161 : decode cX11_house 161 = .ok (.iaload, 1) := by decide +kernel
theorem dX11_house_162 : decode cX11_house 162 = .ok (.iadd, 1) := by decide +kernel
theorem dX11_house_163 : decode cX11_house 163 = .ok (.iastore, 1) := by decide +kernel
theorem dX11_house_164 : decode cX11_house 164 = .ok (.iinc 6 1, 3) := by decide +kernel
theorem dX11_house_167 : decode cX11_house 167 = .ok (.goto (-33), 3) := by decide +kernel
theorem dX11_house_170 : decode cX11_house 170 = .ok (.iinc 5 1, 3) := by decide +kernel
theorem dX11_house_173 : decode cX11_house 173 = .ok (.goto (-72), 3) := by decide +kernel
theorem dX11_house_176 : decode cX11_house 176 = .ok (.iinc 4 1, 3) := by decide +kernel
theorem dX11_house_179 : decode cX11_house 179 = .ok (.goto (-108), 3) := by decide +kernel
theorem dX11_house_182 : decode cX11_house 182 = .ok (.iconst 0, 1) := by decide +kernel
theorem dX11_house_183 : decode cX11_house 183 = .ok (.istore 4, 2) := by decide +kernel
theorem dX11_house_185 : decode cX11_house 185 = .ok (.iconst 1, 1) := by decide +kernel
theorem dX11_house_186 : decode cX11_house 186 = .ok (.istore 5, 2) := by decide +kernel
theorem dX11_house_188 : decode cX11_house 188 = .ok (.iload 5, 2) := by decide +kernel
theorem dX11_house_190 : decode cX11_house 190 = .ok (.bipush 10, 2) := by decide +kernel
theorem dX11_house_192 : decode cX11_house 192 = .ok (.if_icmp .ge 35, 3) := by decide +kernel
theorem dX11_house_195 : decode cX11_house 195 = .ok (.aload_n 0, 1) := by decide +kernel
theorem dX11_house_196 : decode cX11_house 196 = .ok (.getfield 211, 3) := by decide +kernel
theorem dX11_house_199 : decode cX11_house 199 = .ok (.iload 5, 2) := by decide +kernel
theorem dX11_house_201 : decode cX11_house 201 = .ok (.iaload, 1) := by decide +kernel
theorem dX11_house_202 : decode cX11_house 202 = .ok (.aload_n 0, 1) := by decide +kernel
theorem dX11_house_203 : decode cX11_house 203 = .ok (.getfield 211, 3) := by decide +kernel
theorem dX11_house_206 : decode cX11_house 206 = .ok (.iload 4, 2) := by decide +kernel
theorem dX11_house_208 : decode cX11_house 208 = .ok (.iaload, 1) := by decide +kernel
theorem dX11_house_209 : decode cX11_house 209 = .ok (.if_icmp .le 8, 3) := by decide +kernel
theorem dX11_house_212 : decode cX11_house 212 = .ok (.iload 5, 2) := by decide +kernel
theorem dX11_house_214 : decode cX11_house 214 = .ok (.goto 5, 3) := by decide +kernel
theorem dX11_house_217 : decode cX11_house 217 = .ok (.iload 4, 2) := by decide +kernel
theorem dX11_house_219 : decode cX11_house 219 = .ok (.istore 4, 2) := by decide +kernel
theorem dX11_house_221 : decode cX11_house 221 = .ok (.iinc 5 1, 3) := by decide +kernel
theorem dX11_house_224 : decode cX11_house 224 = .ok (.goto (-36), 3) := by decide +kernel
theorem dX11_house_227 : decode cX11_house 227 = .ok (.iload_n 3, 1) := by decide +kernel
theorem dX11_house_228 : decode cX11_house 228 = .ok (.ifCond .ne 8, 3) := by decide +kernel
theorem dX11_house_231 : decode cX11_house 231 = .ok (.iload 4, 2) := by decide +kernel
theorem dX11_house_233 : decode cX11_house 233 = .ok (.goto 10, 3) := by decide +kernel
theorem dX11_house_236 : decode cX11_house 236 = .ok (.aload_n 0, 1) := by decide +kernel
theorem dX11_house_237 : decode cX11_house 237 = .ok (.getfield 211, 3) := by decide +kernel
theorem dX11_house_240 : decode cX11_house 240 = .ok (.iload 4, 2) := by decide +kernel
theorem dX11_house_242 : decode cX11_house 242 = .ok (.iaload, 1) := by decide +kernel
theorem dX11_house_243 : decode cX11_house 243 = .ok (.ireturn, 1) := by decide +kernel
theorem dX11_count_0 : decode cX11_count 0 = .ok (.aload_n 0, 1) := by decide +kernel
theorem dX11_count_1 : decode cX11_count 1 = .ok (.iconst 0, 1) := by decide +kernel
theorem dX11_count_2 : decode cX11_count 2 = .ok (.putfield 220, 3) := by decide +kernel
theorem dX11_count_5 : decode cX11_count 5 = .ok (.iconst 0, 1) := by decide +kernel
theorem dX11_count_6 : decode cX11_count 6 = .ok (.istore_n 2, 1) := by decide +kernel
theorem dX11_count_7 : decode cX11_count 7 = .ok (.iload_n 1, 1) := by decide +kernel
theorem dX11_count_8 : decode cX11_count 8 = .ok (.tableswitch 256 0 11 #[64, 71, 78, 85, 92, 99, 106, 113, 120, 127, 174, 215], 64) := by decide +kernel
theorem dX11_count_72 : decode cX11_count 72 = .ok (.aload_n 0, 1) := by decide +kernel
theorem dX11_count_73 : decode cX11_count 73 = .ok (.getfield 29, 3) := by decide +kernel
theorem dX11_count_76 : decode cX11_count 76 = .ok (.iconst 0, 1) := by decide +kernel
theorem dX11_count_77 : decode cX11_count 77 = .ok (.iaload, 1) := by decide +kernel
theorem dX11_count_78 : decode cX11_count 78 = .ok (.ireturn, 1) := by decide +kernel
theorem dX11_count_79 : decode cX11_count 79 = .ok (.aload_n 0, 1) := by decide +kernel
theorem dX11_count_80 : decode cX11_count 80 = .ok (.getfield 39, 3) := by decide +kernel
theorem dX11_count_83 : decode cX11_count 83 = .ok (.iconst 0, 1) := by decide +kernel
theorem dX11_count_84 : decode cX11_count 84 = .ok (.iaload, 1) := by decide +kernel
theorem dX11_count_85 : decode cX11_count 85 = .ok (.ireturn, 1) := by decide +kernel
theorem dX11_count_86 : decode cX11_count 86 = .ok (.aload_n 0, 1) := by decide +kernel
theorem dX11_count_87 : decode cX11_count 87 = .ok (.getfield 87, 3) := by decide +kernel
theorem dX11_count_90 : decode cX11_count 90 = .ok (.iconst 0, 1) := by decide +kernel
theorem dX11_count_91 : decode cX11_count 91 = .ok (.iaload, 1) := by decide +kernel
theorem dX11_count_92 : decode cX11_count 92 = .ok (.ireturn, 1) := by decide +kernel
theorem dX11_count_93 : decode cX11_count 93 = .ok (.aload_n 0, 1) := by decide +kernel
theorem dX11_count_94 : decode cX11_count 94 = .ok (.getfield 69, 3) := by decide +kernel
theorem dX11_count_97 : decode cX11_count 97 = .ok (.iconst 0, 1) := by decide +kernel
theorem dX11_count_98 : decode cX11_count 98 = .ok (.iaload, 1) := by decide +kernel
theorem dX11_count_99 : decode cX11_count 99 = .ok (.ireturn, 1) := by decide +kernel
theorem dX11_count_100 : decode cX11_count 100 = .ok (.aload_n 0, 1) := by decide +kernel
theorem dX11_count_101 : decode cX11_count 101 = .ok (.getfield 105, 3) := by decide +kernel
theorem dX11_count_104 : decode cX11_count 104 = .ok (.iconst 0, 1) := by decide +kernel
theorem dX11_count_105 : decode cX11_count 105 = .ok (.iaload, 1) := by decide +kernel
theorem dX11_count_106 : decode cX11_count 106 = .ok (.ireturn, 1) := by decide +kernel
theorem dX11_count_107 : decode cX11_count 107 = .ok (.aload_n 0, 1) := by decide +kernel
theorem dX11_count_108 : decode cX11_count 108 = .ok (.getfield 156, 3) := by decide +kernel
theorem dX11_count_111 : decode cX11_count 111 = .ok (.iconst 0, 1) := by decide +kernel
theorem dX11_count_112 : decode cX11_count 112 = .ok (.iaload, 1) := by decide +kernel
theorem dX11_count_113 : decode cX11_count 113 = .ok (.ireturn, 1) := by decide +kernel
theorem dX11_count_114 : decode cX11_count 114 = .ok (.aload_n 0, 1) := by decide +kernel
theorem dX11_count_115 : decode cX11_count 115 = .ok (.getfield 23, 3) := by decide +kernel
theorem dX11_count_118 : decode cX11_count 118 = .ok (.iconst 0, 1) := by decide +kernel
theorem dX11_count_119 : decode cX11_count 119 = .ok (.iaload, 1) := by decide +kernel
theorem dX11_count_120 : decode cX11_count 120 = .ok (.ireturn, 1) := by decide +kernel
theorem dX11_count_121 : decode cX11_count 121 = .ok (.aload_n 0, 1) := by decide +kernel
theorem dX11_count_122 : decode cX11_count 122 = .ok (.getfield 26, 3) := by decide +kernel
theorem dX11_count_125 : decode cX11_count 125 = .ok (.iconst 0, 1) := by decide +kernel
theorem dX11_count_126 : decode cX11_count 126 = .ok (.iaload, 1) := by decide +kernel
theorem dX11_count_127 : decode cX11_count 127 = .ok (.ireturn, 1) := by decide +kernel
theorem dX11_count_128 : decode cX11_count 128 = .ok (.aload_n 0, 1) := by decide +kernel
theorem dX11_count_129 : decode cX11_count 129 = .ok (.getfield 129, 3) := by decide +kernel
theorem dX11_count_132 : decode cX11_count 132 = .ok (.iconst 0, 1) := by decide +kernel
theorem dX11_count_133 : decode cX11_count 133 = .ok (.iaload, 1) := by decide +kernel
theorem dX11_count_134 : decode cX11_count 134 = .ok (.ireturn, 1) := by decide +kernel
theorem dX11_count_135 : decode cX11_count 135 = .ok (.iconst 0, 1) := by decide +kernel
theorem dX11_count_136 : decode cX11_count 136 = .ok (.istore_n 3, 1) := by decide +kernel
theorem dX11_count_137 : decode cX11_count 137 = .ok (.iload_n 3, 1) := by decide +kernel
theorem dX11_count_138 : decode cX11_count 138 = .ok (.aload_n 0, 1) := by decide +kernel
theorem dX11_count_139 : decode cX11_count 139 = .ok (.getfield 87, 3) := by decide +kernel
theorem dX11_count_142 : decode cX11_count 142 = .ok (.iconst 0, 1) := by decide +kernel
theorem dX11_count_143 : decode cX11_count 143 = .ok (.iaload, 1) := by decide +kernel
theorem dX11_count_144 : decode cX11_count 144 = .ok (.if_icmp .ge 36, 3) := by decide +kernel
theorem dX11_count_147 : decode cX11_count 147 = .ok (.iload_n 2, 1) := by decide +kernel
theorem dX11_count_148 : decode cX11_count 148 = .ok (.aload_n 0, 1) := by decide +kernel
theorem dX11_count_149 : decode cX11_count 149 = .ok (.iload_n 3, 1) := by decide +kernel
theorem dX11_count_150 : decode cX11_count 150 = .ok (.aload_n 0, 1) := by decide +kernel
theorem dX11_count_151 : decode cX11_count 151 = .ok (.getfield 23, 3) := by decide +kernel
theorem dX11_count_154 : decode cX11_count 154 = .ok (.iconst 0, 1) := by decide +kernel
theorem dX11_count_155 : decode cX11_count 155 = .ok (.iaload, 1) := by decide +kernel
theorem dX11_count_156 : decode cX11_count 156 = .ok (.aload_n 0, 1) := by decide +kernel
theorem dX11_count_157 : decode cX11_count 157 = .ok (.invokevirtual 283, 3) := by decide +kernel
theorem dX11_count_160 : decode cX11_count 160 = .ok (.invokevirtual 297, 3) := by decide +kernel
theorem dX11_count_163 : decode cX11_count 163 = .ok (.iconst (-1), 1) := by decide +kernel
theorem dX11_count_164 : decode cX11_count 164 = .ok (.if_icmp .eq 7, 3) := by decide +kernel
theorem dX11_count_167 : decode cX11_count 167 = .ok (.iconst 1, 1) := by decide +kernel
theorem dX11_count_168 : decode cX11_count 168 = .ok (.goto 4, 3) := by decide +kernel
theorem dX11_count_171 : decode cX11_count 171 = .ok (.iconst 0, 1) := by decide +kernel
theorem dX11_count_172 : decode cX11_count 172 = .ok (.iadd, 1) := by decide +kernel
theorem dX11_count_173 : decode cX11_count 173 = .ok (.istore_n 2, 1) := by decide +kernel
theorem dX11_count_174 : decode cX11_count 174 = .ok (.iinc 3 1, 3) := by decide +kernel
theorem dX11_count_177 : decode cX11_count 177 = .ok (.goto (-40), 3) := by decide +kernel
theorem dX11_count_180 : decode cX11_count 180 = .ok (.iload_n 2, 1) := by decide +kernel
theorem dX11_count_181 : decode cX11_count 181 = .ok (.ireturn, 1) := by decide +kernel
theorem dX11_count_182 : decode cX11_count 182 = .ok (.iconst 0, 1) := by decide +kernel
theorem dX11_count_183 : decode cX11_count 183 = .ok (.istore_n 3, 1) := by decide +kernel
theorem dX11_count_184 : decode cX11_count 184 = .ok (.iload_n 3, 1) := by decide +kernel
theorem dX11_count_185 : decode cX11_count 185 = .ok (.aload_n 0, 1) := by decide +kernel
theorem dX11_count_186 : decode cX11_count 186 = .ok (.getfield 69, 3) := by decide +kernel
theorem dX11_count_189 : decode cX11_count 189 = .ok (.iconst 0, 1) := by decide +kernel
theorem dX11_count_190 : decode cX11_count 190 = .ok (.iaload, 1) := by decide +kernel
theorem dX11_count_191 : decode cX11_count 191 = .ok (.if_icmp .ge 30, 3) := by decide +kernel
theorem dX11_count_194 : decode cX11_count 194 = .ok (.iload_n 2, 1) := by decide +kernel
theorem dX11_count_195 : decode cX11_count 195 = .ok (.aload_n 0, 1) := by decide +kernel
theorem dX11_count_196 : decode cX11_count 196 = .ok (.getfield 84, 3) := by decide +kernel
theorem dX11_count_199 : decode cX11_count 199 = .ok (.iload_n 3, 1) := by decide +kernel
theorem dX11_count_200 : decode cX11_count 200 = .ok (.iaload, 1) := by decide +kernel
theorem dX11_count_201 : decode cX11_count 201 = .ok (.aload_n 0, 1) := by decide +kernel
theorem dX11_count_202 : decode cX11_count 202 = .ok (.invokevirtual 283, 3) := by decide +kernel
theorem dX11_count_205 : decode cX11_count 205 = .ok (.if_icmp .gt 7, 3) := by decide +kernel
theorem dX11_count_208 : decode cX11_count 208 = .ok (.iconst 1, 1) := by decide +kernel
theorem dX11_count_209 : decode cX11_count 209 = .ok (.goto 4, 3) := by decide +kernel
theorem dX11_count_212 : decode cX11_count 212 = .ok (.iconst 0, 1) := by decide +kernel
theorem dX11_count_213 : decode cX11_count 213 = .ok (.iadd, 1) := by decide +kernel
theorem dX11_count_214 : decode cX11_count 214 = .ok (.istore_n 2, 1) := by decide +kernel
theorem dX11_count_215 : decode cX11_count 215 = .ok (.iinc 3 1, 3) := by decide +kernel
theorem dX11_count_218 : decode cX11_count 218 = .ok (.goto (-34), 3) := by decide +kernel
theorem dX11_count_221 : decode cX11_count 221 = .ok (.iload_n 2, 1) := by decide +kernel
theorem dX11_count_222 : decode cX11_count 222 = .ok (.ireturn, 1) := by decide +kernel
theorem dX11_count_223 : decode cX11_count 223 = .ok (.iconst 0, 1) := by decide +kernel
theorem dX11_count_224 : decode cX11_count 224 = .ok (.istore_n 3, 1) := by decide +kernel
theorem dX11_count_225 : decode cX11_count 225 = .ok (.iload_n 3, 1) := by decide +kernel
theorem dX11_count_226 : decode cX11_count 226 = .ok (.aload_n 0, 1) := by decide +kernel
theorem dX11_count_227 : decode cX11_count 227 = .ok (.getfield 105, 3) := by decide +kernel
theorem dX11_count_230 : decode cX11_count 230 = .ok (.iconst 0, 1) := by decide +kernel
theorem dX11_count_231 : decode cX11_count 231 = .ok (.iaload, 1) := by decide +kernel
theorem dX11_count_232 : decode cX11_count 232 = .ok (.if_icmp .ge 30, 3) := by decide +kernel
theorem dX11_count_235 : decode cX11_count 235 = .ok (.iload_n 2, 1) := by decide +kernel
theorem dX11_count_236 : decode cX11_count 236 = .ok (.aload_n 0, 1) := by decide +kernel
theorem dX11_count_237 : decode cX11_count 237 = .ok (.getfield 120, 3) := by decide +kernel
theorem dX11_count_240 : decode cX11_count 240 = .ok (.iload_n 3, 1) := by decide +kernel
theorem dX11_count_241 : decode cX11_count 241 = .ok (.iaload, 1) := by decide +kernel
theorem dX11_count_242 : decode cX11_count 242 = .ok (.aload_n 0, 1) := by decide +kernel
theorem dX11_count_243 : decode cX11_count 243 = .ok (.invokevirtual 283, 3) := by decide +kernel
theorem dX11_count_246 : decode cX11_count 246 = .ok (.if_icmp .gt 7, 3) := by decide +kernel
theorem dX11_count_249 : decode cX11_count 249 = .ok (.iconst 1, 1) := by decide +kernel
theorem dX11_count_250 : decode cX11_count 250 = .ok (.goto 4, 3) := by decide +kernel
theorem dX11_count_253 : decode cX11_count 253 = .ok (.iconst 0, 1) := by decide +kernel
theorem dX11_count_254 : decode cX11_count 254 = .ok (.iadd, 1) := by decide +kernel
theorem dX11_count_255 : decode cX11_count 255 = .ok (.istore_n 2, 1) := by decide +kernel
theorem dX11_count_256 : decode cX11_count 256 = .ok (.iinc 3 1, 3) := by decide +kernel
theorem dX11_count_259 : decode cX11_count 259 = .ok (.goto (-34), 3) := by decide +kernel
theorem dX11_count_262 : decode cX11_count 262 = .ok (.iload_n 2, 1) := by decide +kernel
theorem dX11_count_263 : decode cX11_count 263 = .ok (.ireturn, 1) := by decide +kernel
theorem dX11_count_264 : decode cX11_count 264 = .ok (.bipush (-2), 2) := by decide +kernel
theorem dX11_count_266 : decode cX11_count 266 = .ok (.ireturn, 1) := by decide +kernel
theorem dX11_image_0 : decode cX11_image 0 = .ok (.aload_n 0, 1) := by decide +kernel
theorem dX11_image_1 : decode cX11_image 1 = .ok (.iconst 0, 1) := by decide +kernel
theorem dX11_image_2 : decode cX11_image 2 = .ok (.putfield 220, 3) := by decide +kernel
theorem dX11_image_5 : decode cX11_image 5 = .ok (.iload_n 1, 1) := by decide +kernel
theorem dX11_image_6 : decode cX11_image 6 = .ok (.iconst 0, 1) := by decide +kernel
theorem dX11_image_7 : decode cX11_image 7 = .ok (.iconst 2, 1) := by decide +kernel
theorem dX11_image_8 : decode cX11_image 8 = .ok (.invokestatic 232, 3) := by decide +kernel
theorem dX11_image_11 : decode cX11_image 11 = .ok (.ifCond .ne 5, 3) := by decide +kernel
theorem dX11_image_14 : decode cX11_image 14 = .ok (.iconst 0, 1) := by decide +kernel
theorem dX11_image_15 : decode cX11_image 15 = .ok (.ireturn, 1) := by decide +kernel
theorem dX11_image_16 : decode cX11_image 16 = .ok (.aload_n 0, 1) := by decide +kernel
theorem dX11_image_17 : decode cX11_image 17 = .ok (.iconst 0, 1) := by decide +kernel
theorem dX11_image_18 : decode cX11_image 18 = .ok (.iload_n 1, 1) := by decide +kernel
theorem dX11_image_19 : decode cX11_image 19 = .ok (.iconst 1, 1) := by decide +kernel
theorem dX11_image_20 : decode cX11_image 20 = .ok (.iadd, 1) := by decide +kernel
theorem dX11_image_21 : decode cX11_image 21 = .ok (.invokevirtual 475, 3) := by decide +kernel
theorem dX11_image_24 : decode cX11_image 24 = .ok (.aload_n 0, 1) := by decide +kernel
theorem dX11_image_25 : decode cX11_image 25 = .ok (.getfield 217, 3) := by decide +kernel
theorem dX11_image_28 : decode cX11_image 28 = .ok (.iload_n 1, 1) := by decide +kernel
theorem dX11_image_29 : decode cX11_image 29 = .ok (.iconst 1, 1) := by decide +kernel
theorem dX11_image_30 : decode cX11_image 30 = .ok (.bastore, 1) := by decide +kernel
theorem dX11_image_31 : decode cX11_image 31 = .ok (.iconst 1, 1) := by decide +kernel
theorem dX11_image_32 : decode cX11_image 32 = .ok (.ireturn, 1) := by decide +kernel
theorem dX11_again_0 : decode cX11_again 0 = .ok (.aload_n 0, 1) := by decide +kernel
theorem dX11_again_1 : decode cX11_again 1 = .ok (.iconst 0, 1) := by decide +kernel
theorem dX11_again_2 : decode cX11_again 2 = .ok (.putfield 220, 3) := by decide +kernel
theorem dX11_again_5 : decode cX11_again 5 = .ok (.iload_n 1, 1) := by decide +kernel
theorem dX11_again_6 : decode cX11_again 6 = .ok (.iconst 0, 1) := by decide +kernel
theorem dX11_again_7 : decode cX11_again 7 = .ok (.iconst 2, 1) := by decide +kernel
theorem dX11_again_8 : decode cX11_again 8 = .ok (.invokestatic 232, 3) := by decide +kernel
theorem dX11_again_11 : decode cX11_again 11 = .ok (.ifCond .eq 12, 3) := by decide +kernel
theorem dX11_again_14 : decode cX11_again 14 = .ok (.aload_n 0, 1) := by decide +kernel
theorem dX11_again_15 : decode cX11_again 15 = .ok (.getfield 217, 3) := by decide +kernel
theorem dX11_again_18 : decode cX11_again 18 = .ok (.iload_n 1, 1) := by decide +kernel
theorem dX11_again_19 : decode cX11_again 19 = .ok (.baload, 1) := by decide +kernel
theorem dX11_again_20 : decode cX11_again 20 = .ok (.ifCond .ne 5, 3) := by decide +kernel
theorem dX11_again_23 : decode cX11_again 23 = .ok (.iconst 0, 1) := by decide +kernel
theorem dX11_again_24 : decode cX11_again 24 = .ok (.ireturn, 1) := by decide +kernel
theorem dX11_again_25 : decode cX11_again 25 = .ok (.aload_n 0, 1) := by decide +kernel
theorem dX11_again_26 : decode cX11_again 26 = .ok (.iload_n 1, 1) := by decide +kernel
theorem dX11_again_27 : decode cX11_again 27 = .ok (.iconst 1, 1) := by decide +kernel
theorem dX11_again_28 : decode cX11_again 28 = .ok (.iadd, 1) := by decide +kernel
theorem dX11_again_29 : decode cX11_again 29 = .ok (.iconst 0, 1) := by decide +kernel
theorem dX11_again_30 : decode cX11_again 30 = .ok (.invokevirtual 475, 3) := by decide +kernel
theorem dX11_again_33 : decode cX11_again 33 = .ok (.iconst 1, 1) := by decide +kernel
theorem dX11_again_34 : decode cX11_again 34 = .ok (.ireturn, 1) := by decide +kernel
theorem dJ9_abs_0f7a4_0 : decode cJ9_abs_0f7a4 0 = .ok (.iload_n 0, 1) := by decide +kernel
theorem dJ9_abs_0f7a4_1 : decode cJ9_abs_0f7a4 1 = .ok (.ifCond .ge 8, 3) := by decide +kernel
theorem dJ9_abs_0f7a4_4 : decode cJ9_abs_0f7a4 4 = .ok (.iload_n 0, 1) := by decide +kernel
theorem dJ9_abs_0f7a4_5 : decode cJ9_abs_0f7a4 5 = .ok (.ineg, 1) := by decide +kernel
theorem dJ9_abs_0f7a4_6 : decode cJ9_abs_0f7a4 6 = .ok (.goto 4, 3) := by decide +kernel
theorem dJ9_abs_0f7a4_9 : decode cJ9_abs_0f7a4 9 = .ok (.iload_n 0, 1) := by decide +kernel
theorem dJ9_abs_0f7a4_10 : decode cJ9_abs_0f7a4 10 = .ok (.ireturn, 1) := by decide +kernel
theorem dJ9_max_7cf53_0 : decode cJ9_max_7cf53 0 = .ok (.iload_n 0, 1) := by decide +kernel
theorem dJ9_max_7cf53_1 : decode cJ9_max_7cf53 1 = .ok (.iload_n 1, 1) := by decide +kernel
theorem dJ9_max_7cf53_2 : decode cJ9_max_7cf53 2 = .ok (.if_icmp .lt 7, 3) := by decide +kernel
theorem dJ9_max_7cf53_5 : decode cJ9_max_7cf53 5 = .ok (.iload_n 0, 1) := by decide +kernel
theorem dJ9_max_7cf53_6 : decode cJ9_max_7cf53 6 = .ok (.goto 4, 3) := by decide +kernel
theorem dJ9_max_7cf53_9 : decode cJ9_max_7cf53 9 = .ok (.iload_n 1, 1) := by decide +kernel
theorem dJ9_max_7cf53_10 : decode cJ9_max_7cf53 10 = .ok (.ireturn, 1) := by decide +kernel
theorem dJ9_min_7cf53_0 : decode cJ9_min_7cf53 0 = .ok (.iload_n 0, 1) := by decide +kernel
theorem dJ9_min_7cf53_1 : decode cJ9_min_7cf53 1 = .ok (.iload_n 1, 1) := by decide +kernel
theorem dJ9_min_7cf53_2 : decode cJ9_min_7cf53 2 = .ok (.if_icmp .gt 7, 3) := by decide +kernel
theorem dJ9_min_7cf53_5 : decode cJ9_min_7cf53 5 = .ok (.iload_n 0, 1) := by decide +kernel
theorem dJ9_min_7cf53_6 : decode cJ9_min_7cf53 6 = .ok (.goto 4, 3) := by decide +kernel
theorem dJ9_min_7cf53_9 : decode cJ9_min_7cf53 9 = .ok (.iload_n 1, 1) := by decide +kernel
theorem dJ9_min_7cf53_10 : decode cJ9_min_7cf53 10 = .ok (.ireturn, 1) := by decide +kernel
theorem dJ0_length_8abf5_0 : decode cJ0_length_8abf5 0 = .ok (.aload_n 0, 1) := by decide +kernel
theorem dJ0_length_8abf5_1 : decode cJ0_length_8abf5 1 = .ok (.getfield 9, 3) := by decide +kernel
theorem dJ0_length_8abf5_4 : decode cJ0_length_8abf5 4 = .ok (.arraylength, 1) := by decide +kernel
theorem dJ0_length_8abf5_5 : decode cJ0_length_8abf5 5 = .ok (.aload_n 0, 1) := by decide +kernel
theorem dJ0_length_8abf5_6 : decode cJ0_length_8abf5 6 = .ok (.invokevirtual 335, 3) := by decide +kernel
theorem dJ0_length_8abf5_9 : decode cJ0_length_8abf5 9 = .ok (.ishr, 1) := by decide +kernel
theorem dJ0_length_8abf5_10 : decode cJ0_length_8abf5 10 = .ok (.ireturn, 1) := by decide +kernel
theorem dJ0_charAt_5068e_0 : decode cJ0_charAt_5068e 0 = .ok (.aload_n 0, 1) := by decide +kernel
theorem dJ0_charAt_5068e_1 : decode cJ0_charAt_5068e 1 = .ok (.invokevirtual 492, 3) := by decide +kernel
theorem dJ0_charAt_5068e_4 : decode cJ0_charAt_5068e 4 = .ok (.ifCond .eq 12, 3) := by decide +kernel
theorem dJ0_charAt_5068e_7 : decode cJ0_charAt_5068e 7 = .ok (.aload_n 0, 1) := by decide +kernel
theorem dJ0_charAt_5068e_8 : decode cJ0_charAt_5068e 8 = .ok (.getfield 9, 3) := by decide +kernel
theorem dJ0_charAt_5068e_11 : decode cJ0_charAt_5068e 11 = .ok (.iload_n 1, 1) := by decide +kernel
theorem dJ0_charAt_5068e_12 : decode cJ0_charAt_5068e 12 = .ok (.invokestatic 495, 3) := by decide +kernel
theorem dJ0_charAt_5068e_15 : decode cJ0_charAt_5068e 15 = .ok (.ireturn, 1) := by decide +kernel
theorem dJ0_charAt_5068e_16 : decode cJ0_charAt_5068e 16 = .ok (.aload_n 0, 1) := by decide +kernel
theorem dJ0_charAt_5068e_17 : decode cJ0_charAt_5068e 17 = .ok (.getfield 9, 3) := by decide +kernel
theorem dJ0_charAt_5068e_20 : decode cJ0_charAt_5068e 20 = .ok (.iload_n 1, 1) := by decide +kernel
theorem dJ0_charAt_5068e_21 : decode cJ0_charAt_5068e 21 = .ok (.invokestatic 498, 3) := by decide +kernel
theorem dJ0_charAt_5068e_24 : decode cJ0_charAt_5068e 24 = .ok (.ireturn, 1) := by decide +kernel
theorem dJ0_coder_7d493_0 : decode cJ0_coder_7d493 0 = .ok (.getstatic 38, 3) := by decide +kernel
theorem dJ0_coder_7d493_3 : decode cJ0_coder_7d493 3 = .ok (.ifCond .eq 10, 3) := by decide +kernel
theorem dJ0_coder_7d493_6 : decode cJ0_coder_7d493 6 = .ok (.aload_n 0, 1) := by decide +kernel
theorem dJ0_coder_7d493_7 : decode cJ0_coder_7d493 7 = .ok (.getfield 15, 3) := by decide +kernel
theorem dJ0_coder_7d493_10 : decode cJ0_coder_7d493 10 = .ok (.goto 4, 3) := by decide +kernel
theorem dJ0_coder_7d493_13 : decode cJ0_coder_7d493 13 = .ok (.iconst 1, 1) := by decide +kernel
theorem dJ0_coder_7d493_14 : decode cJ0_coder_7d493 14 = .ok (.ireturn, 1) := by decide +kernel
theorem dJ0_isLatin1_aae02_0 : decode cJ0_isLatin1_aae02 0 = .ok (.getstatic 38, 3) := by decide +kernel
theorem dJ0_isLatin1_aae02_3 : decode cJ0_isLatin1_aae02 3 = .ok (.ifCond .eq 14, 3) := by decide +kernel
theorem dJ0_isLatin1_aae02_6 : decode cJ0_isLatin1_aae02 6 = .ok (.aload_n 0, 1) := by decide +kernel
theorem dJ0_isLatin1_aae02_7 : decode cJ0_isLatin1_aae02 7 = .ok (.getfield 15, 3) := by decide +kernel
theorem dJ0_isLatin1_aae02_10 : decode cJ0_isLatin1_aae02 10 = .ok (.ifCond .ne 7, 3) := by decide +kernel
theorem dJ0_isLatin1_aae02_13 : decode cJ0_isLatin1_aae02 13 = .ok (.iconst 1, 1) := by decide +kernel
theorem dJ0_isLatin1_aae02_14 : decode cJ0_isLatin1_aae02 14 = .ok (.goto 4, 3) := by decide +kernel
theorem dJ0_isLatin1_aae02_17 : decode cJ0_isLatin1_aae02 17 = .ok (.iconst 0, 1) := by decide +kernel
theorem dJ0_isLatin1_aae02_18 : decode cJ0_isLatin1_aae02 18 = .ok (.ireturn, 1) := by decide +kernel
theorem dJ0_checkIndex_df160_0 : decode cJ0_checkIndex_df160 0 = .ok (.iload_n 0, 1) := by decide +kernel
theorem dJ0_checkIndex_df160_1 : decode cJ0_checkIndex_df160 1 = .ok (.iload_n 1, 1) := by decide +kernel
theorem dJ0_checkIndex_df160_2 : decode cJ0_checkIndex_df160 2 = .ok (.getstatic 1053, 3) := by decide +kernel
theorem dJ0_checkIndex_df160_5 : decode cJ0_checkIndex_df160 5 = .ok (.invokestatic 1059, 3) := by decide +kernel
theorem dJ0_checkIndex_df160_8 : decode cJ0_checkIndex_df160 8 = .ok (.pop, 1) := by decide +kernel
theorem dJ0_checkIndex_df160_9 : decode cJ0_checkIndex_df160 9 = .ok (.return_, 1) := by decide +kernel
theorem dJ1_charAt_3b067_0 : decode cJ1_charAt_3b067 0 = .ok (.iload_n 1, 1) := by decide +kernel
theorem dJ1_charAt_3b067_1 : decode cJ1_charAt_3b067 1 = .ok (.aload_n 0, 1) := by decide +kernel
theorem dJ1_charAt_3b067_2 : decode cJ1_charAt_3b067 2 = .ok (.arraylength, 1) := by decide +kernel
theorem dJ1_charAt_3b067_3 : decode cJ1_charAt_3b067 3 = .ok (.invokestatic 9, 3) := by decide +kernel
theorem dJ1_charAt_3b067_6 : decode cJ1_charAt_3b067 6 = .ok (.aload_n 0, 1) := by decide +kernel
theorem dJ1_charAt_3b067_7 : decode cJ1_charAt_3b067 7 = .ok (.iload_n 1, 1) := by decide +kernel
theorem dJ1_charAt_3b067_8 : decode cJ1_charAt_3b067 8 = .ok (.baload, 1) := by decide +kernel
theorem dJ1_charAt_3b067_9 : decode cJ1_charAt_3b067 9 = .ok (.sipush 255, 3) := by decide +kernel
theorem dJ1_charAt_3b067_12 : decode cJ1_charAt_3b067 12 = .ok (.iand, 1) := by decide +kernel
theorem dJ1_charAt_3b067_13 : decode cJ1_charAt_3b067 13 = .ok (.i2c, 1) := by decide +kernel
theorem dJ1_charAt_3b067_14 : decode cJ1_charAt_3b067 14 = .ok (.ireturn, 1) := by decide +kernel
theorem dJ2_getChar_3b067_0 : decode cJ2_getChar_3b067 0 = .ok (.getstatic 44, 3) := by decide +kernel
theorem dJ2_getChar_3b067_3 : decode cJ2_getChar_3b067 3 = .ok (.ifCond .ne 25, 3) := by decide +kernel
theorem dJ2_getChar_3b067_6 : decode cJ2_getChar_3b067 6 = .ok (.iload_n 1, 1) := by decide +kernel
theorem dJ2_getChar_3b067_7 : decode cJ2_getChar_3b067 7 = .ok (.ifCond .lt 11, 3) := by decide +kernel
theorem dJ2_getChar_3b067_10 : decode cJ2_getChar_3b067 10 = .ok (.iload_n 1, 1) := by decide +kernel
theorem dJ2_getChar_3b067_11 : decode cJ2_getChar_3b067 11 = .ok (.aload_n 0, 1) := by decide +kernel
theorem dJ2_getChar_3b067_12 : decode cJ2_getChar_3b067 12 = .ok (.invokestatic 48, 3) := by decide +kernel
theorem dJ2_getChar_3b067_15 : decode cJ2_getChar_3b067 15 = .ok (.if_icmp .lt 13, 3) := by decide +kernel
theorem dJ2_getChar_3b067_18 : decode cJ2_getChar_3b067 18 = .ok (.new 52, 3) := by decide +kernel
theorem dJ2_getChar_3b067_21 : decode cJ2_getChar_3b067 21 = .ok (.dup, 1) := by decide +kernel
theorem dJ2_getChar_3b067_22 : decode cJ2_getChar_3b067 22 = .ok (.ldc 54, 2) := by decide +kernel
theorem dJ2_getChar_3b067_24 : decode cJ2_getChar_3b067 24 = .ok (.invokespecial 56, 3) := by decide +kernel
theorem dJ2_getChar_3b067_27 : decode cJ2_getChar_3b067 27 = .ok (.athrow, 1) := by decide +kernel
theorem dJ2_getChar_3b067_28 : decode cJ2_getChar_3b067 28 = .ok (.iload_n 1, 1) := by decide +kernel
theorem dJ2_getChar_3b067_29 : decode cJ2_getChar_3b067 29 = .ok (.iconst 1, 1) := by decide +kernel
theorem dJ2_getChar_3b067_30 : decode cJ2_getChar_3b067 30 = .ok (.ishl, 1) := by decide +kernel
theorem dJ2_getChar_3b067_31 : decode cJ2_getChar_3b067 31 = .ok (.istore_n 1, 1) := by decide +kernel
theorem dJ2_getChar_3b067_32 : decode cJ2_getChar_3b067 32 = .ok (.aload_n 0, 1) := by decide +kernel
theorem dJ2_getChar_3b067_33 : decode cJ2_getChar_3b067 33 = .ok (.iload_n 1, 1) := by decide +kernel
theorem dJ2_getChar_3b067_34 : decode cJ2_getChar_3b067 34 = .ok (.iinc 1 1, 3) := by decide +kernel
theorem dJ2_getChar_3b067_37 : decode cJ2_getChar_3b067 37 = .ok (.baload, 1) := by decide +kernel
theorem dJ2_getChar_3b067_38 : decode cJ2_getChar_3b067 38 = .ok (.sipush 255, 3) := by decide +kernel
theorem dJ2_getChar_3b067_41 : decode cJ2_getChar_3b067 41 = .ok (.iand, 1) := by decide +kernel
theorem dJ2_getChar_3b067_42 : decode cJ2_getChar_3b067 42 = .ok (.getstatic 59, 3) := by decide +kernel
theorem dJ2_getChar_3b067_45 : decode cJ2_getChar_3b067 45 = .ok (.ishl, 1) := by decide +kernel
theorem dJ2_getChar_3b067_46 : decode cJ2_getChar_3b067 46 = .ok (.aload_n 0, 1) := by decide +kernel
theorem dJ2_getChar_3b067_47 : decode cJ2_getChar_3b067 47 = .ok (.iload_n 1, 1) := by decide +kernel
theorem dJ2_getChar_3b067_48 : decode cJ2_getChar_3b067 48 = .ok (.baload, 1) := by decide +kernel
theorem dJ2_getChar_3b067_49 : decode cJ2_getChar_3b067 49 = .ok (.sipush 255, 3) := by decide +kernel
theorem dJ2_getChar_3b067_52 : decode cJ2_getChar_3b067 52 = .ok (.iand, 1) := by decide +kernel
theorem dJ2_getChar_3b067_53 : decode cJ2_getChar_3b067 53 = .ok (.getstatic 63, 3) := by decide +kernel
theorem dJ2_getChar_3b067_56 : decode cJ2_getChar_3b067 56 = .ok (.ishl, 1) := by decide +kernel
theorem dJ2_getChar_3b067_57 : decode cJ2_getChar_3b067 57 = .ok (.ior, 1) := by decide +kernel
theorem dJ2_getChar_3b067_58 : decode cJ2_getChar_3b067 58 = .ok (.i2c, 1) := by decide +kernel
theorem dJ2_getChar_3b067_59 : decode cJ2_getChar_3b067 59 = .ok (.ireturn, 1) := by decide +kernel
theorem dJ2_length_9d52b_0 : decode cJ2_length_9d52b 0 = .ok (.aload_n 0, 1) := by decide +kernel
theorem dJ2_length_9d52b_1 : decode cJ2_length_9d52b 1 = .ok (.arraylength, 1) := by decide +kernel
theorem dJ2_length_9d52b_2 : decode cJ2_length_9d52b 2 = .ok (.iconst 1, 1) := by decide +kernel
theorem dJ2_length_9d52b_3 : decode cJ2_length_9d52b 3 = .ok (.ishr, 1) := by decide +kernel
theorem dJ2_length_9d52b_4 : decode cJ2_length_9d52b 4 = .ok (.ireturn, 1) := by decide +kernel
theorem dJ2_charAt_3b067_0 : decode cJ2_charAt_3b067 0 = .ok (.iload_n 1, 1) := by decide +kernel
theorem dJ2_charAt_3b067_1 : decode cJ2_charAt_3b067 1 = .ok (.aload_n 0, 1) := by decide +kernel
theorem dJ2_charAt_3b067_2 : decode cJ2_charAt_3b067 2 = .ok (.invokestatic 67, 3) := by decide +kernel
theorem dJ2_charAt_3b067_5 : decode cJ2_charAt_3b067 5 = .ok (.aload_n 0, 1) := by decide +kernel
theorem dJ2_charAt_3b067_6 : decode cJ2_charAt_3b067 6 = .ok (.iload_n 1, 1) := by decide +kernel
theorem dJ2_charAt_3b067_7 : decode cJ2_charAt_3b067 7 = .ok (.invokestatic 71, 3) := by decide +kernel
theorem dJ2_charAt_3b067_10 : decode cJ2_charAt_3b067 10 = .ok (.ireturn, 1) := by decide +kernel
theorem dJ2_checkIndex_2214a_0 : decode cJ2_checkIndex_2214a 0 = .ok (.iload_n 0, 1) := by decide +kernel
theorem dJ2_checkIndex_2214a_1 : decode cJ2_checkIndex_2214a 1 = .ok (.aload_n 1, 1) := by decide +kernel
theorem dJ2_checkIndex_2214a_2 : decode cJ2_checkIndex_2214a 2 = .ok (.invokestatic 48, 3) := by decide +kernel
theorem dJ2_checkIndex_2214a_5 : decode cJ2_checkIndex_2214a 5 = .ok (.invokestatic 414, 3) := by decide +kernel
theorem dJ2_checkIndex_2214a_8 : decode cJ2_checkIndex_2214a 8 = .ok (.return_, 1) := by decide +kernel
theorem dJ7_fill_53178_0 : decode cJ7_fill_53178 0 = .ok (.iconst 0, 1) := by decide +kernel
theorem dJ7_fill_53178_1 : decode cJ7_fill_53178 1 = .ok (.istore_n 2, 1) := by decide +kernel
theorem dJ7_fill_53178_2 : decode cJ7_fill_53178 2 = .ok (.aload_n 0, 1) := by decide +kernel
theorem dJ7_fill_53178_3 : decode cJ7_fill_53178 3 = .ok (.arraylength, 1) := by decide +kernel
theorem dJ7_fill_53178_4 : decode cJ7_fill_53178 4 = .ok (.istore_n 3, 1) := by decide +kernel
theorem dJ7_fill_53178_5 : decode cJ7_fill_53178 5 = .ok (.iload_n 2, 1) := by decide +kernel
theorem dJ7_fill_53178_6 : decode cJ7_fill_53178 6 = .ok (.iload_n 3, 1) := by decide +kernel
theorem dJ7_fill_53178_7 : decode cJ7_fill_53178 7 = .ok (.if_icmp .ge 13, 3) := by decide +kernel
theorem dJ7_fill_53178_10 : decode cJ7_fill_53178 10 = .ok (.aload_n 0, 1) := by decide +kernel
theorem dJ7_fill_53178_11 : decode cJ7_fill_53178 11 = .ok (.iload_n 2, 1) := by decide +kernel
theorem dJ7_fill_53178_12 : decode cJ7_fill_53178 12 = .ok (.iload_n 1, 1) := by decide +kernel
theorem dJ7_fill_53178_13 : decode cJ7_fill_53178 13 = .ok (.iastore, 1) := by decide +kernel
theorem dJ7_fill_53178_14 : decode cJ7_fill_53178 14 = .ok (.iinc 2 1, 3) := by decide +kernel
theorem dJ7_fill_53178_17 : decode cJ7_fill_53178 17 = .ok (.goto (-12), 3) := by decide +kernel
theorem dJ7_fill_53178_20 : decode cJ7_fill_53178 20 = .ok (.return_, 1) := by decide +kernel
theorem dJ3_checkIndex_8e157_0 : decode cJ3_checkIndex_8e157 0 = .ok (.iload_n 0, 1) := by decide +kernel
theorem dJ3_checkIndex_8e157_1 : decode cJ3_checkIndex_8e157 1 = .ok (.ifCond .lt 8, 3) := by decide +kernel
theorem dJ3_checkIndex_8e157_4 : decode cJ3_checkIndex_8e157 4 = .ok (.iload_n 0, 1) := by decide +kernel
theorem dJ3_checkIndex_8e157_5 : decode cJ3_checkIndex_8e157 5 = .ok (.iload_n 1, 1) := by decide +kernel
theorem dJ3_checkIndex_8e157_6 : decode cJ3_checkIndex_8e157 6 = .ok (.if_icmp .lt 10, 3) := by decide +kernel
theorem dJ3_checkIndex_8e157_9 : decode cJ3_checkIndex_8e157 9 = .ok (.aload_n 2, 1) := by decide +kernel
theorem dJ3_checkIndex_8e157_10 : decode cJ3_checkIndex_8e157 10 = .ok (.iload_n 0, 1) := by decide +kernel
theorem dJ3_checkIndex_8e157_11 : decode cJ3_checkIndex_8e157 11 = .ok (.iload_n 1, 1) := by decide +kernel
theorem dJ3_checkIndex_8e157_12 : decode cJ3_checkIndex_8e157 12 = .ok (.invokestatic 95, 3) := by decide +kernel
theorem dJ3_checkIndex_8e157_15 : decode cJ3_checkIndex_8e157 15 = .ok (.athrow, 1) := by decide +kernel
theorem dJ3_checkIndex_8e157_16 : decode cJ3_checkIndex_8e157 16 = .ok (.iload_n 0, 1) := by decide +kernel
theorem dJ3_checkIndex_8e157_17 : decode cJ3_checkIndex_8e157 17 = .ok (.ireturn, 1) := by decide +kernel
