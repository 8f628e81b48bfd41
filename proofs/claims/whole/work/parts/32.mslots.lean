theorem d_Md_controlSlot_0 : decode b_Md_controlSlot 0 = .ok (.iconst (0), 1) := by decide +kernel
theorem d_Md_controlSlot_1 : decode b_Md_controlSlot 1 = .ok (.istore_n 2, 1) := by decide +kernel
theorem d_Md_controlSlot_2 : decode b_Md_controlSlot 2 = .ok (.iconst (0), 1) := by decide +kernel
theorem d_Md_controlSlot_3 : decode b_Md_controlSlot 3 = .ok (.istore_n 3, 1) := by decide +kernel
theorem d_Md_controlSlot_4 : decode b_Md_controlSlot 4 = .ok (.iconst (0), 1) := by decide +kernel
theorem d_Md_controlSlot_5 : decode b_Md_controlSlot 5 = .ok (.istore 4, 2) := by decide +kernel
theorem d_Md_controlSlot_7 : decode b_Md_controlSlot 7 = .ok (.iload 4, 2) := by decide +kernel
theorem d_Md_controlSlot_9 : decode b_Md_controlSlot 9 = .ok (.bipush (8), 2) := by decide +kernel
theorem d_Md_controlSlot_11 : decode b_Md_controlSlot 11 = .ok (.if_icmp .ge (81), 3) := by decide +kernel
theorem d_Md_controlSlot_14 : decode b_Md_controlSlot 14 = .ok (.aload_n 0, 1) := by decide +kernel
theorem d_Md_controlSlot_15 : decode b_Md_controlSlot 15 = .ok (.getfield 54, 3) := by decide +kernel
theorem d_Md_controlSlot_18 : decode b_Md_controlSlot 18 = .ok (.iload 4, 2) := by decide +kernel
theorem d_Md_controlSlot_20 : decode b_Md_controlSlot 20 = .ok (.iconst (0), 1) := by decide +kernel
theorem d_Md_controlSlot_21 : decode b_Md_controlSlot 21 = .ok (.bastore, 1) := by decide +kernel
theorem d_Md_controlSlot_22 : decode b_Md_controlSlot 22 = .ok (.aload_n 0, 1) := by decide +kernel
theorem d_Md_controlSlot_23 : decode b_Md_controlSlot 23 = .ok (.getfield 27, 3) := by decide +kernel
theorem d_Md_controlSlot_26 : decode b_Md_controlSlot 26 = .ok (.iload 4, 2) := by decide +kernel
theorem d_Md_controlSlot_28 : decode b_Md_controlSlot 28 = .ok (.iaload, 1) := by decide +kernel
theorem d_Md_controlSlot_29 : decode b_Md_controlSlot 29 = .ok (.iload_n 1, 1) := by decide +kernel
theorem d_Md_controlSlot_30 : decode b_Md_controlSlot 30 = .ok (.if_icmp .ne (56), 3) := by decide +kernel
theorem d_Md_controlSlot_33 : decode b_Md_controlSlot 33 = .ok (.aload_n 0, 1) := by decide +kernel
theorem d_Md_controlSlot_34 : decode b_Md_controlSlot 34 = .ok (.getfield 39, 3) := by decide +kernel
theorem d_Md_controlSlot_37 : decode b_Md_controlSlot 37 = .ok (.iload 4, 2) := by decide +kernel
theorem d_Md_controlSlot_39 : decode b_Md_controlSlot 39 = .ok (.iaload, 1) := by decide +kernel
theorem d_Md_controlSlot_40 : decode b_Md_controlSlot 40 = .ok (.ifCond .le (46), 3) := by decide +kernel
theorem d_Md_controlSlot_43 : decode b_Md_controlSlot 43 = .ok (.aload_n 0, 1) := by decide +kernel
theorem d_Md_controlSlot_44 : decode b_Md_controlSlot 44 = .ok (.getfield 51, 3) := by decide +kernel
theorem d_Md_controlSlot_47 : decode b_Md_controlSlot 47 = .ok (.iload 4, 2) := by decide +kernel
theorem d_Md_controlSlot_49 : decode b_Md_controlSlot 49 = .ok (.iaload, 1) := by decide +kernel
theorem d_Md_controlSlot_50 : decode b_Md_controlSlot 50 = .ok (.ifCond .ne (20), 3) := by decide +kernel
theorem d_Md_controlSlot_53 : decode b_Md_controlSlot 53 = .ok (.aload_n 0, 1) := by decide +kernel
theorem d_Md_controlSlot_54 : decode b_Md_controlSlot 54 = .ok (.getfield 54, 3) := by decide +kernel
theorem d_Md_controlSlot_57 : decode b_Md_controlSlot 57 = .ok (.iload 4, 2) := by decide +kernel
theorem d_Md_controlSlot_59 : decode b_Md_controlSlot 59 = .ok (.iconst (1), 1) := by decide +kernel
theorem d_Md_controlSlot_60 : decode b_Md_controlSlot 60 = .ok (.bastore, 1) := by decide +kernel
theorem d_Md_controlSlot_61 : decode b_Md_controlSlot 61 = .ok (.iinc 2 (1), 3) := by decide +kernel
theorem d_Md_controlSlot_64 : decode b_Md_controlSlot 64 = .ok (.iload 4, 2) := by decide +kernel
theorem d_Md_controlSlot_66 : decode b_Md_controlSlot 66 = .ok (.istore_n 3, 1) := by decide +kernel
theorem d_Md_controlSlot_67 : decode b_Md_controlSlot 67 = .ok (.goto (19), 3) := by decide +kernel
theorem d_Md_controlSlot_70 : decode b_Md_controlSlot 70 = .ok (.aload_n 0, 1) := by decide +kernel
theorem d_Md_controlSlot_71 : decode b_Md_controlSlot 71 = .ok (.getfield 51, 3) := by decide +kernel
theorem d_Md_controlSlot_74 : decode b_Md_controlSlot 74 = .ok (.iload 4, 2) := by decide +kernel
theorem d_Md_controlSlot_76 : decode b_Md_controlSlot 76 = .ok (.aload_n 0, 1) := by decide +kernel
theorem d_Md_controlSlot_77 : decode b_Md_controlSlot 77 = .ok (.getfield 51, 3) := by decide +kernel
theorem d_Md_controlSlot_80 : decode b_Md_controlSlot 80 = .ok (.iload 4, 2) := by decide +kernel
theorem d_Md_controlSlot_82 : decode b_Md_controlSlot 82 = .ok (.iaload, 1) := by decide +kernel
theorem d_Md_controlSlot_83 : decode b_Md_controlSlot 83 = .ok (.iconst (1), 1) := by decide +kernel
theorem d_Md_controlSlot_84 : decode b_Md_controlSlot 84 = .ok (.isub, 1) := by decide +kernel
theorem d_Md_controlSlot_85 : decode b_Md_controlSlot 85 = .ok (.iastore, 1) := by decide +kernel
theorem d_Md_controlSlot_86 : decode b_Md_controlSlot 86 = .ok (.iinc 4 (1), 3) := by decide +kernel
theorem d_Md_controlSlot_89 : decode b_Md_controlSlot 89 = .ok (.goto (-82), 3) := by decide +kernel
theorem d_Md_controlSlot_92 : decode b_Md_controlSlot 92 = .ok (.iload_n 2, 1) := by decide +kernel
theorem d_Md_controlSlot_93 : decode b_Md_controlSlot 93 = .ok (.iconst (1), 1) := by decide +kernel
theorem d_Md_controlSlot_94 : decode b_Md_controlSlot 94 = .ok (.if_icmp .ne (67), 3) := by decide +kernel
theorem d_Md_controlSlot_97 : decode b_Md_controlSlot 97 = .ok (.aload_n 0, 1) := by decide +kernel
theorem d_Md_controlSlot_98 : decode b_Md_controlSlot 98 = .ok (.iload_n 1, 1) := by decide +kernel
theorem d_Md_controlSlot_99 : decode b_Md_controlSlot 99 = .ok (.aload_n 0, 1) := by decide +kernel
theorem d_Md_controlSlot_100 : decode b_Md_controlSlot 100 = .ok (.iload_n 3, 1) := by decide +kernel
theorem d_Md_controlSlot_101 : decode b_Md_controlSlot 101 = .ok (.invokevirtual 187, 3) := by decide +kernel
theorem d_Md_controlSlot_104 : decode b_Md_controlSlot 104 = .ok (.iload_n 1, 1) := by decide +kernel
theorem d_Md_controlSlot_105 : decode b_Md_controlSlot 105 = .ok (.invokevirtual 190, 3) := by decide +kernel
theorem d_Md_controlSlot_108 : decode b_Md_controlSlot 108 = .ok (.istore 4, 2) := by decide +kernel
theorem d_Md_controlSlot_110 : decode b_Md_controlSlot 110 = .ok (.iload 4, 2) := by decide +kernel
theorem d_Md_controlSlot_112 : decode b_Md_controlSlot 112 = .ok (.ifCond .lt (49), 3) := by decide +kernel
theorem d_Md_controlSlot_115 : decode b_Md_controlSlot 115 = .ok (.iload 4, 2) := by decide +kernel
theorem d_Md_controlSlot_117 : decode b_Md_controlSlot 117 = .ok (.bipush (16), 2) := by decide +kernel
theorem d_Md_controlSlot_119 : decode b_Md_controlSlot 119 = .ok (.ishr, 1) := by decide +kernel
theorem d_Md_controlSlot_120 : decode b_Md_controlSlot 120 = .ok (.iconst (1), 1) := by decide +kernel
theorem d_Md_controlSlot_121 : decode b_Md_controlSlot 121 = .ok (.if_icmp .lt (40), 3) := by decide +kernel
theorem d_Md_controlSlot_124 : decode b_Md_controlSlot 124 = .ok (.iload 4, 2) := by decide +kernel
theorem d_Md_controlSlot_126 : decode b_Md_controlSlot 126 = .ok (.bipush (16), 2) := by decide +kernel
theorem d_Md_controlSlot_128 : decode b_Md_controlSlot 128 = .ok (.ishr, 1) := by decide +kernel
theorem d_Md_controlSlot_129 : decode b_Md_controlSlot 129 = .ok (.iconst (3), 1) := by decide +kernel
theorem d_Md_controlSlot_130 : decode b_Md_controlSlot 130 = .ok (.if_icmp .gt (31), 3) := by decide +kernel
theorem d_Md_controlSlot_133 : decode b_Md_controlSlot 133 = .ok (.aload_n 0, 1) := by decide +kernel
theorem d_Md_controlSlot_134 : decode b_Md_controlSlot 134 = .ok (.iload_n 1, 1) := by decide +kernel
theorem d_Md_controlSlot_135 : decode b_Md_controlSlot 135 = .ok (.bipush (8), 2) := by decide +kernel
theorem d_Md_controlSlot_137 : decode b_Md_controlSlot 137 = .ok (.iload 4, 2) := by decide +kernel
theorem d_Md_controlSlot_139 : decode b_Md_controlSlot 139 = .ok (.bipush (13), 2) := by decide +kernel
theorem d_Md_controlSlot_141 : decode b_Md_controlSlot 141 = .ok (.ishr, 1) := by decide +kernel
theorem d_Md_controlSlot_142 : decode b_Md_controlSlot 142 = .ok (.bipush (7), 2) := by decide +kernel
theorem d_Md_controlSlot_144 : decode b_Md_controlSlot 144 = .ok (.iand, 1) := by decide +kernel
theorem d_Md_controlSlot_145 : decode b_Md_controlSlot 145 = .ok (.iconst (0), 1) := by decide +kernel
theorem d_Md_controlSlot_146 : decode b_Md_controlSlot 146 = .ok (.iconst (0), 1) := by decide +kernel
theorem d_Md_controlSlot_147 : decode b_Md_controlSlot 147 = .ok (.iconst (0), 1) := by decide +kernel
theorem d_Md_controlSlot_148 : decode b_Md_controlSlot 148 = .ok (.invokestatic 162, 3) := by decide +kernel
theorem d_Md_controlSlot_151 : decode b_Md_controlSlot 151 = .ok (.invokevirtual 193, 3) := by decide +kernel
theorem d_Md_controlSlot_154 : decode b_Md_controlSlot 154 = .ok (.aload_n 0, 1) := by decide +kernel
theorem d_Md_controlSlot_155 : decode b_Md_controlSlot 155 = .ok (.iload_n 1, 1) := by decide +kernel
theorem d_Md_controlSlot_156 : decode b_Md_controlSlot 156 = .ok (.iload 4, 2) := by decide +kernel
theorem d_Md_controlSlot_158 : decode b_Md_controlSlot 158 = .ok (.invokevirtual 196, 3) := by decide +kernel
theorem d_Md_controlSlot_161 : decode b_Md_controlSlot 161 = .ok (.aload_n 0, 1) := by decide +kernel
theorem d_Md_controlSlot_162 : decode b_Md_controlSlot 162 = .ok (.getfield 119, 3) := by decide +kernel
theorem d_Md_controlSlot_165 : decode b_Md_controlSlot 165 = .ok (.iload_n 1, 1) := by decide +kernel
theorem d_Md_controlSlot_166 : decode b_Md_controlSlot 166 = .ok (.iaload, 1) := by decide +kernel
theorem d_Md_controlSlot_167 : decode b_Md_controlSlot 167 = .ok (.ifCond .le (127), 3) := by decide +kernel
theorem d_Md_controlSlot_170 : decode b_Md_controlSlot 170 = .ok (.aload_n 0, 1) := by decide +kernel
theorem d_Md_controlSlot_171 : decode b_Md_controlSlot 171 = .ok (.getfield 116, 3) := by decide +kernel
theorem d_Md_controlSlot_174 : decode b_Md_controlSlot 174 = .ok (.bipush (9), 2) := by decide +kernel
theorem d_Md_controlSlot_176 : decode b_Md_controlSlot 176 = .ok (.iload_n 1, 1) := by decide +kernel
theorem d_Md_controlSlot_177 : decode b_Md_controlSlot 177 = .ok (.imul, 1) := by decide +kernel
theorem d_Md_controlSlot_178 : decode b_Md_controlSlot 178 = .ok (.iaload, 1) := by decide +kernel
theorem d_Md_controlSlot_179 : decode b_Md_controlSlot 179 = .ok (.istore 4, 2) := by decide +kernel
theorem d_Md_controlSlot_181 : decode b_Md_controlSlot 181 = .ok (.aload_n 0, 1) := by decide +kernel
theorem d_Md_controlSlot_182 : decode b_Md_controlSlot 182 = .ok (.getfield 119, 3) := by decide +kernel
theorem d_Md_controlSlot_185 : decode b_Md_controlSlot 185 = .ok (.iload_n 1, 1) := by decide +kernel
theorem d_Md_controlSlot_186 : decode b_Md_controlSlot 186 = .ok (.aload_n 0, 1) := by decide +kernel
theorem d_Md_controlSlot_187 : decode b_Md_controlSlot 187 = .ok (.getfield 119, 3) := by decide +kernel
theorem d_Md_controlSlot_190 : decode b_Md_controlSlot 190 = .ok (.iload_n 1, 1) := by decide +kernel
theorem d_Md_controlSlot_191 : decode b_Md_controlSlot 191 = .ok (.iaload, 1) := by decide +kernel
theorem d_Md_controlSlot_192 : decode b_Md_controlSlot 192 = .ok (.iconst (1), 1) := by decide +kernel
theorem d_Md_controlSlot_193 : decode b_Md_controlSlot 193 = .ok (.isub, 1) := by decide +kernel
theorem d_Md_controlSlot_194 : decode b_Md_controlSlot 194 = .ok (.iastore, 1) := by decide +kernel
theorem d_Md_controlSlot_195 : decode b_Md_controlSlot 195 = .ok (.iconst (0), 1) := by decide +kernel
theorem d_Md_controlSlot_196 : decode b_Md_controlSlot 196 = .ok (.istore 5, 2) := by decide +kernel
theorem d_Md_controlSlot_198 : decode b_Md_controlSlot 198 = .ok (.iload 5, 2) := by decide +kernel
theorem d_Md_controlSlot_200 : decode b_Md_controlSlot 200 = .ok (.aload_n 0, 1) := by decide +kernel
theorem d_Md_controlSlot_201 : decode b_Md_controlSlot 201 = .ok (.getfield 119, 3) := by decide +kernel
theorem d_Md_controlSlot_204 : decode b_Md_controlSlot 204 = .ok (.iload_n 1, 1) := by decide +kernel
theorem d_Md_controlSlot_205 : decode b_Md_controlSlot 205 = .ok (.iaload, 1) := by decide +kernel
theorem d_Md_controlSlot_206 : decode b_Md_controlSlot 206 = .ok (.if_icmp .ge (35), 3) := by decide +kernel
theorem d_Md_controlSlot_209 : decode b_Md_controlSlot 209 = .ok (.aload_n 0, 1) := by decide +kernel
theorem d_Md_controlSlot_210 : decode b_Md_controlSlot 210 = .ok (.getfield 116, 3) := by decide +kernel
theorem d_Md_controlSlot_213 : decode b_Md_controlSlot 213 = .ok (.bipush (9), 2) := by decide +kernel
theorem d_Md_controlSlot_215 : decode b_Md_controlSlot 215 = .ok (.iload_n 1, 1) := by decide +kernel
theorem d_Md_controlSlot_216 : decode b_Md_controlSlot 216 = .ok (.imul, 1) := by decide +kernel
theorem d_Md_controlSlot_217 : decode b_Md_controlSlot 217 = .ok (.iload 5, 2) := by decide +kernel
theorem d_Md_controlSlot_219 : decode b_Md_controlSlot 219 = .ok (.iadd, 1) := by decide +kernel
theorem d_Md_controlSlot_220 : decode b_Md_controlSlot 220 = .ok (.aload_n 0, 1) := by decide +kernel
theorem d_Md_controlSlot_221 : decode b_Md_controlSlot 221 = .ok (.getfield 116, 3) := by decide +kernel
theorem d_Md_controlSlot_224 : decode b_Md_controlSlot 224 = .ok (.bipush (9), 2) := by decide +kernel
theorem d_Md_controlSlot_226 : decode b_Md_controlSlot 226 = .ok (.iload_n 1, 1) := by decide +kernel
theorem d_Md_controlSlot_227 : decode b_Md_controlSlot 227 = .ok (.imul, 1) := by decide +kernel
theorem d_Md_controlSlot_228 : decode b_Md_controlSlot 228 = .ok (.iload 5, 2) := by decide +kernel
theorem d_Md_controlSlot_230 : decode b_Md_controlSlot 230 = .ok (.iadd, 1) := by decide +kernel
theorem d_Md_controlSlot_231 : decode b_Md_controlSlot 231 = .ok (.iconst (1), 1) := by decide +kernel
theorem d_Md_controlSlot_232 : decode b_Md_controlSlot 232 = .ok (.iadd, 1) := by decide +kernel
theorem d_Md_controlSlot_233 : decode b_Md_controlSlot 233 = .ok (.iaload, 1) := by decide +kernel
theorem d_Md_controlSlot_234 : decode b_Md_controlSlot 234 = .ok (.iastore, 1) := by decide +kernel
theorem d_Md_controlSlot_235 : decode b_Md_controlSlot 235 = .ok (.iinc 5 (1), 3) := by decide +kernel
theorem d_Md_controlSlot_238 : decode b_Md_controlSlot 238 = .ok (.goto (-40), 3) := by decide +kernel
theorem d_Md_controlSlot_241 : decode b_Md_controlSlot 241 = .ok (.iconst (0), 1) := by decide +kernel
theorem d_Md_controlSlot_242 : decode b_Md_controlSlot 242 = .ok (.istore 5, 2) := by decide +kernel
theorem d_Md_controlSlot_244 : decode b_Md_controlSlot 244 = .ok (.iload 5, 2) := by decide +kernel
theorem d_Md_controlSlot_246 : decode b_Md_controlSlot 246 = .ok (.bipush (8), 2) := by decide +kernel
theorem d_Md_controlSlot_248 : decode b_Md_controlSlot 248 = .ok (.if_icmp .ge (46), 3) := by decide +kernel
theorem d_Md_controlSlot_251 : decode b_Md_controlSlot 251 = .ok (.aload_n 0, 1) := by decide +kernel
theorem d_Md_controlSlot_252 : decode b_Md_controlSlot 252 = .ok (.getfield 27, 3) := by decide +kernel
theorem d_Md_controlSlot_255 : decode b_Md_controlSlot 255 = .ok (.iload 5, 2) := by decide +kernel
theorem d_Md_controlSlot_257 : decode b_Md_controlSlot 257 = .ok (.iaload, 1) := by decide +kernel
theorem d_Md_controlSlot_258 : decode b_Md_controlSlot 258 = .ok (.iload_n 1, 1) := by decide +kernel
theorem d_Md_controlSlot_259 : decode b_Md_controlSlot 259 = .ok (.if_icmp .ne (29), 3) := by decide +kernel
theorem d_Md_controlSlot_262 : decode b_Md_controlSlot 262 = .ok (.aload_n 0, 1) := by decide +kernel
theorem d_Md_controlSlot_263 : decode b_Md_controlSlot 263 = .ok (.iconst (3), 1) := by decide +kernel
theorem d_Md_controlSlot_264 : decode b_Md_controlSlot 264 = .ok (.iload 5, 2) := by decide +kernel
theorem d_Md_controlSlot_266 : decode b_Md_controlSlot 266 = .ok (.iadd, 1) := by decide +kernel
theorem d_Md_controlSlot_267 : decode b_Md_controlSlot 267 = .ok (.iload 4, 2) := by decide +kernel
theorem d_Md_controlSlot_269 : decode b_Md_controlSlot 269 = .ok (.iload_n 1, 1) := by decide +kernel
theorem d_Md_controlSlot_270 : decode b_Md_controlSlot 270 = .ok (.invokevirtual 190, 3) := by decide +kernel
theorem d_Md_controlSlot_273 : decode b_Md_controlSlot 273 = .ok (.istore 6, 2) := by decide +kernel
theorem d_Md_controlSlot_275 : decode b_Md_controlSlot 275 = .ok (.iload 6, 2) := by decide +kernel
theorem d_Md_controlSlot_277 : decode b_Md_controlSlot 277 = .ok (.ifCond .lt (11), 3) := by decide +kernel
theorem d_Md_controlSlot_280 : decode b_Md_controlSlot 280 = .ok (.aload_n 0, 1) := by decide +kernel
theorem d_Md_controlSlot_281 : decode b_Md_controlSlot 281 = .ok (.iload 5, 2) := by decide +kernel
theorem d_Md_controlSlot_283 : decode b_Md_controlSlot 283 = .ok (.iload 6, 2) := by decide +kernel
theorem d_Md_controlSlot_285 : decode b_Md_controlSlot 285 = .ok (.invokevirtual 199, 3) := by decide +kernel
theorem d_Md_controlSlot_288 : decode b_Md_controlSlot 288 = .ok (.iinc 5 (1), 3) := by decide +kernel
theorem d_Md_controlSlot_291 : decode b_Md_controlSlot 291 = .ok (.goto (-47), 3) := by decide +kernel
theorem d_Md_controlSlot_294 : decode b_Md_controlSlot 294 = .ok (.iconst (0), 1) := by decide +kernel
theorem d_Md_controlSlot_295 : decode b_Md_controlSlot 295 = .ok (.istore 4, 2) := by decide +kernel
theorem d_Md_controlSlot_297 : decode b_Md_controlSlot 297 = .ok (.iload 4, 2) := by decide +kernel
theorem d_Md_controlSlot_299 : decode b_Md_controlSlot 299 = .ok (.bipush (8), 2) := by decide +kernel
theorem d_Md_controlSlot_301 : decode b_Md_controlSlot 301 = .ok (.if_icmp .ge (35), 3) := by decide +kernel
theorem d_Md_controlSlot_304 : decode b_Md_controlSlot 304 = .ok (.aload_n 0, 1) := by decide +kernel
theorem d_Md_controlSlot_305 : decode b_Md_controlSlot 305 = .ok (.getfield 54, 3) := by decide +kernel
theorem d_Md_controlSlot_308 : decode b_Md_controlSlot 308 = .ok (.iload 4, 2) := by decide +kernel
theorem d_Md_controlSlot_310 : decode b_Md_controlSlot 310 = .ok (.baload, 1) := by decide +kernel
theorem d_Md_controlSlot_311 : decode b_Md_controlSlot 311 = .ok (.ifCond .eq (19), 3) := by decide +kernel
theorem d_Md_controlSlot_314 : decode b_Md_controlSlot 314 = .ok (.aload_n 0, 1) := by decide +kernel
theorem d_Md_controlSlot_315 : decode b_Md_controlSlot 315 = .ok (.getfield 39, 3) := by decide +kernel
theorem d_Md_controlSlot_318 : decode b_Md_controlSlot 318 = .ok (.iload 4, 2) := by decide +kernel
theorem d_Md_controlSlot_320 : decode b_Md_controlSlot 320 = .ok (.iaload, 1) := by decide +kernel
theorem d_Md_controlSlot_321 : decode b_Md_controlSlot 321 = .ok (.ifCond .le (9), 3) := by decide +kernel
theorem d_Md_controlSlot_324 : decode b_Md_controlSlot 324 = .ok (.aload_n 0, 1) := by decide +kernel
theorem d_Md_controlSlot_325 : decode b_Md_controlSlot 325 = .ok (.iload 4, 2) := by decide +kernel
theorem d_Md_controlSlot_327 : decode b_Md_controlSlot 327 = .ok (.invokevirtual 202, 3) := by decide +kernel
theorem d_Md_controlSlot_330 : decode b_Md_controlSlot 330 = .ok (.iinc 4 (1), 3) := by decide +kernel
theorem d_Md_controlSlot_333 : decode b_Md_controlSlot 333 = .ok (.goto (-36), 3) := by decide +kernel
theorem d_Md_controlSlot_336 : decode b_Md_controlSlot 336 = .ok (.return_, 1) := by decide +kernel
theorem d_Md_trafficSlot_0 : decode b_Md_trafficSlot 0 = .ok (.iconst (0), 1) := by decide +kernel
theorem d_Md_trafficSlot_1 : decode b_Md_trafficSlot 1 = .ok (.istore_n 2, 1) := by decide +kernel
theorem d_Md_trafficSlot_2 : decode b_Md_trafficSlot 2 = .ok (.iload_n 2, 1) := by decide +kernel
theorem d_Md_trafficSlot_3 : decode b_Md_trafficSlot 3 = .ok (.bipush (8), 2) := by decide +kernel
theorem d_Md_trafficSlot_5 : decode b_Md_trafficSlot 5 = .ok (.if_icmp .ge (29), 3) := by decide +kernel
theorem d_Md_trafficSlot_8 : decode b_Md_trafficSlot 8 = .ok (.aload_n 0, 1) := by decide +kernel
theorem d_Md_trafficSlot_9 : decode b_Md_trafficSlot 9 = .ok (.getfield 58, 3) := by decide +kernel
theorem d_Md_trafficSlot_12 : decode b_Md_trafficSlot 12 = .ok (.iload_n 2, 1) := by decide +kernel
theorem d_Md_trafficSlot_13 : decode b_Md_trafficSlot 13 = .ok (.iaload, 1) := by decide +kernel
theorem d_Md_trafficSlot_14 : decode b_Md_trafficSlot 14 = .ok (.iconst (1), 1) := by decide +kernel
theorem d_Md_trafficSlot_15 : decode b_Md_trafficSlot 15 = .ok (.if_icmp .ne (13), 3) := by decide +kernel
theorem d_Md_trafficSlot_18 : decode b_Md_trafficSlot 18 = .ok (.aload_n 0, 1) := by decide +kernel
theorem d_Md_trafficSlot_19 : decode b_Md_trafficSlot 19 = .ok (.getfield 61, 3) := by decide +kernel
theorem d_Md_trafficSlot_22 : decode b_Md_trafficSlot 22 = .ok (.iload_n 2, 1) := by decide +kernel
theorem d_Md_trafficSlot_23 : decode b_Md_trafficSlot 23 = .ok (.iaload, 1) := by decide +kernel
theorem d_Md_trafficSlot_24 : decode b_Md_trafficSlot 24 = .ok (.iload_n 1, 1) := by decide +kernel
theorem d_Md_trafficSlot_25 : decode b_Md_trafficSlot 25 = .ok (.if_icmp .eq (9), 3) := by decide +kernel
theorem d_Md_trafficSlot_28 : decode b_Md_trafficSlot 28 = .ok (.iinc 2 (1), 3) := by decide +kernel
theorem d_Md_trafficSlot_31 : decode b_Md_trafficSlot 31 = .ok (.goto (-29), 3) := by decide +kernel
theorem d_Md_trafficSlot_34 : decode b_Md_trafficSlot 34 = .ok (.iload_n 2, 1) := by decide +kernel
theorem d_Md_trafficSlot_35 : decode b_Md_trafficSlot 35 = .ok (.bipush (8), 2) := by decide +kernel
theorem d_Md_trafficSlot_37 : decode b_Md_trafficSlot 37 = .ok (.if_icmp .ne (4), 3) := by decide +kernel
theorem d_Md_trafficSlot_40 : decode b_Md_trafficSlot 40 = .ok (.return_, 1) := by decide +kernel
theorem d_Md_trafficSlot_41 : decode b_Md_trafficSlot 41 = .ok (.aload_n 0, 1) := by decide +kernel
theorem d_Md_trafficSlot_42 : decode b_Md_trafficSlot 42 = .ok (.getfield 27, 3) := by decide +kernel
theorem d_Md_trafficSlot_45 : decode b_Md_trafficSlot 45 = .ok (.iload_n 2, 1) := by decide +kernel
theorem d_Md_trafficSlot_46 : decode b_Md_trafficSlot 46 = .ok (.iaload, 1) := by decide +kernel
theorem d_Md_trafficSlot_47 : decode b_Md_trafficSlot 47 = .ok (.istore_n 3, 1) := by decide +kernel
theorem d_Md_trafficSlot_48 : decode b_Md_trafficSlot 48 = .ok (.aload_n 0, 1) := by decide +kernel
theorem d_Md_trafficSlot_49 : decode b_Md_trafficSlot 49 = .ok (.getfield 70, 3) := by decide +kernel
theorem d_Md_trafficSlot_52 : decode b_Md_trafficSlot 52 = .ok (.iload_n 2, 1) := by decide +kernel
theorem d_Md_trafficSlot_53 : decode b_Md_trafficSlot 53 = .ok (.iaload, 1) := by decide +kernel
theorem d_Md_trafficSlot_54 : decode b_Md_trafficSlot 54 = .ok (.aload_n 0, 1) := by decide +kernel
theorem d_Md_trafficSlot_55 : decode b_Md_trafficSlot 55 = .ok (.getfield 98, 3) := by decide +kernel
theorem d_Md_trafficSlot_58 : decode b_Md_trafficSlot 58 = .ok (.aload_n 0, 1) := by decide +kernel
theorem d_Md_trafficSlot_59 : decode b_Md_trafficSlot 59 = .ok (.getfield 64, 3) := by decide +kernel
theorem d_Md_trafficSlot_62 : decode b_Md_trafficSlot 62 = .ok (.iload_n 2, 1) := by decide +kernel
theorem d_Md_trafficSlot_63 : decode b_Md_trafficSlot 63 = .ok (.iaload, 1) := by decide +kernel
theorem d_Md_trafficSlot_64 : decode b_Md_trafficSlot 64 = .ok (.iaload, 1) := by decide +kernel
theorem d_Md_trafficSlot_65 : decode b_Md_trafficSlot 65 = .ok (.aload_n 0, 1) := by decide +kernel
theorem d_Md_trafficSlot_66 : decode b_Md_trafficSlot 66 = .ok (.getfield 122, 3) := by decide +kernel
theorem d_Md_trafficSlot_69 : decode b_Md_trafficSlot 69 = .ok (.iconst (4), 1) := by decide +kernel
theorem d_Md_trafficSlot_70 : decode b_Md_trafficSlot 70 = .ok (.idiv, 1) := by decide +kernel
theorem d_Md_trafficSlot_71 : decode b_Md_trafficSlot 71 = .ok (.invokestatic 173, 3) := by decide +kernel
theorem d_Md_trafficSlot_74 : decode b_Md_trafficSlot 74 = .ok (.ixor, 1) := by decide +kernel
theorem d_Md_trafficSlot_75 : decode b_Md_trafficSlot 75 = .ok (.ldc 205, 2) := by decide +kernel
theorem d_Md_trafficSlot_77 : decode b_Md_trafficSlot 77 = .ok (.iand, 1) := by decide +kernel
theorem d_Md_trafficSlot_78 : decode b_Md_trafficSlot 78 = .ok (.istore 4, 2) := by decide +kernel
theorem d_Md_trafficSlot_80 : decode b_Md_trafficSlot 80 = .ok (.aload_n 0, 1) := by decide +kernel
theorem d_Md_trafficSlot_81 : decode b_Md_trafficSlot 81 = .ok (.getfield 67, 3) := by decide +kernel
theorem d_Md_trafficSlot_84 : decode b_Md_trafficSlot 84 = .ok (.iload_n 2, 1) := by decide +kernel
theorem d_Md_trafficSlot_85 : decode b_Md_trafficSlot 85 = .ok (.iaload, 1) := by decide +kernel
theorem d_Md_trafficSlot_86 : decode b_Md_trafficSlot 86 = .ok (.aload_n 0, 1) := by decide +kernel
theorem d_Md_trafficSlot_87 : decode b_Md_trafficSlot 87 = .ok (.getfield 64, 3) := by decide +kernel
theorem d_Md_trafficSlot_90 : decode b_Md_trafficSlot 90 = .ok (.iload_n 2, 1) := by decide +kernel
theorem d_Md_trafficSlot_91 : decode b_Md_trafficSlot 91 = .ok (.iaload, 1) := by decide +kernel
theorem d_Md_trafficSlot_92 : decode b_Md_trafficSlot 92 = .ok (.if_icmp .eq (12), 3) := by decide +kernel
theorem d_Md_trafficSlot_95 : decode b_Md_trafficSlot 95 = .ok (.ldc 206, 2) := by decide +kernel
theorem d_Md_trafficSlot_97 : decode b_Md_trafficSlot 97 = .ok (.istore 4, 2) := by decide +kernel
theorem d_Md_trafficSlot_99 : decode b_Md_trafficSlot 99 = .ok (.aload_n 0, 1) := by decide +kernel
theorem d_Md_trafficSlot_100 : decode b_Md_trafficSlot 100 = .ok (.iload_n 2, 1) := by decide +kernel
theorem d_Md_trafficSlot_101 : decode b_Md_trafficSlot 101 = .ok (.invokevirtual 184, 3) := by decide +kernel
theorem d_Md_trafficSlot_104 : decode b_Md_trafficSlot 104 = .ok (.aload_n 0, 1) := by decide +kernel
theorem d_Md_trafficSlot_105 : decode b_Md_trafficSlot 105 = .ok (.iload_n 3, 1) := by decide +kernel
theorem d_Md_trafficSlot_106 : decode b_Md_trafficSlot 106 = .ok (.iload 4, 2) := by decide +kernel
theorem d_Md_trafficSlot_108 : decode b_Md_trafficSlot 108 = .ok (.iload_n 3, 1) := by decide +kernel
theorem d_Md_trafficSlot_109 : decode b_Md_trafficSlot 109 = .ok (.invokevirtual 190, 3) := by decide +kernel
theorem d_Md_trafficSlot_112 : decode b_Md_trafficSlot 112 = .ok (.istore 5, 2) := by decide +kernel
theorem d_Md_trafficSlot_114 : decode b_Md_trafficSlot 114 = .ok (.iconst (0), 1) := by decide +kernel
theorem d_Md_trafficSlot_115 : decode b_Md_trafficSlot 115 = .ok (.istore 6, 2) := by decide +kernel
theorem d_Md_trafficSlot_117 : decode b_Md_trafficSlot 117 = .ok (.iload 6, 2) := by decide +kernel
theorem d_Md_trafficSlot_119 : decode b_Md_trafficSlot 119 = .ok (.iconst (4), 1) := by decide +kernel
theorem d_Md_trafficSlot_120 : decode b_Md_trafficSlot 120 = .ok (.if_icmp .ge (20), 3) := by decide +kernel
theorem d_Md_trafficSlot_123 : decode b_Md_trafficSlot 123 = .ok (.aload_n 0, 1) := by decide +kernel
theorem d_Md_trafficSlot_124 : decode b_Md_trafficSlot 124 = .ok (.getfield 101, 3) := by decide +kernel
theorem d_Md_trafficSlot_127 : decode b_Md_trafficSlot 127 = .ok (.iload 6, 2) := by decide +kernel
theorem d_Md_trafficSlot_129 : decode b_Md_trafficSlot 129 = .ok (.iaload, 1) := by decide +kernel
theorem d_Md_trafficSlot_130 : decode b_Md_trafficSlot 130 = .ok (.iload_n 1, 1) := by decide +kernel
theorem d_Md_trafficSlot_131 : decode b_Md_trafficSlot 131 = .ok (.if_icmp .eq (9), 3) := by decide +kernel
theorem d_Md_trafficSlot_134 : decode b_Md_trafficSlot 134 = .ok (.iinc 6 (1), 3) := by decide +kernel
theorem d_Md_trafficSlot_137 : decode b_Md_trafficSlot 137 = .ok (.goto (-20), 3) := by decide +kernel
theorem d_Md_trafficSlot_140 : decode b_Md_trafficSlot 140 = .ok (.iload 5, 2) := by decide +kernel
theorem d_Md_trafficSlot_142 : decode b_Md_trafficSlot 142 = .ok (.ifCond .lt (9), 3) := by decide +kernel
theorem d_Md_trafficSlot_145 : decode b_Md_trafficSlot 145 = .ok (.iload 6, 2) := by decide +kernel
theorem d_Md_trafficSlot_147 : decode b_Md_trafficSlot 147 = .ok (.iconst (4), 1) := by decide +kernel
theorem d_Md_trafficSlot_148 : decode b_Md_trafficSlot 148 = .ok (.if_icmp .ne (4), 3) := by decide +kernel
theorem d_Md_trafficSlot_151 : decode b_Md_trafficSlot 151 = .ok (.return_, 1) := by decide +kernel
theorem d_Md_trafficSlot_152 : decode b_Md_trafficSlot 152 = .ok (.iload 5, 2) := by decide +kernel
theorem d_Md_trafficSlot_154 : decode b_Md_trafficSlot 154 = .ok (.ldc 206, 2) := by decide +kernel
theorem d_Md_trafficSlot_156 : decode b_Md_trafficSlot 156 = .ok (.if_icmp .lt (10), 3) := by decide +kernel
theorem d_Md_trafficSlot_159 : decode b_Md_trafficSlot 159 = .ok (.aload_n 0, 1) := by decide +kernel
theorem d_Md_trafficSlot_160 : decode b_Md_trafficSlot 160 = .ok (.iload 6, 2) := by decide +kernel
theorem d_Md_trafficSlot_162 : decode b_Md_trafficSlot 162 = .ok (.invokevirtual 207, 3) := by decide +kernel
theorem d_Md_trafficSlot_165 : decode b_Md_trafficSlot 165 = .ok (.return_, 1) := by decide +kernel
theorem d_Md_trafficSlot_166 : decode b_Md_trafficSlot 166 = .ok (.iconst (0), 1) := by decide +kernel
theorem d_Md_trafficSlot_167 : decode b_Md_trafficSlot 167 = .ok (.istore 7, 2) := by decide +kernel
theorem d_Md_trafficSlot_169 : decode b_Md_trafficSlot 169 = .ok (.iload 7, 2) := by decide +kernel
theorem d_Md_trafficSlot_171 : decode b_Md_trafficSlot 171 = .ok (.bipush (8), 2) := by decide +kernel
theorem d_Md_trafficSlot_173 : decode b_Md_trafficSlot 173 = .ok (.if_icmp .ge (105), 3) := by decide +kernel
theorem d_Md_trafficSlot_176 : decode b_Md_trafficSlot 176 = .ok (.aload_n 0, 1) := by decide +kernel
theorem d_Md_trafficSlot_177 : decode b_Md_trafficSlot 177 = .ok (.getfield 58, 3) := by decide +kernel
theorem d_Md_trafficSlot_180 : decode b_Md_trafficSlot 180 = .ok (.iload 7, 2) := by decide +kernel
theorem d_Md_trafficSlot_182 : decode b_Md_trafficSlot 182 = .ok (.iaload, 1) := by decide +kernel
theorem d_Md_trafficSlot_183 : decode b_Md_trafficSlot 183 = .ok (.iconst (2), 1) := by decide +kernel
theorem d_Md_trafficSlot_184 : decode b_Md_trafficSlot 184 = .ok (.if_icmp .ne (88), 3) := by decide +kernel
theorem d_Md_trafficSlot_187 : decode b_Md_trafficSlot 187 = .ok (.aload_n 0, 1) := by decide +kernel
theorem d_Md_trafficSlot_188 : decode b_Md_trafficSlot 188 = .ok (.getfield 61, 3) := by decide +kernel
theorem d_Md_trafficSlot_191 : decode b_Md_trafficSlot 191 = .ok (.iload 7, 2) := by decide +kernel
theorem d_Md_trafficSlot_193 : decode b_Md_trafficSlot 193 = .ok (.iaload, 1) := by decide +kernel
theorem d_Md_trafficSlot_194 : decode b_Md_trafficSlot 194 = .ok (.iload_n 1, 1) := by decide +kernel
theorem d_Md_trafficSlot_195 : decode b_Md_trafficSlot 195 = .ok (.if_icmp .ne (77), 3) := by decide +kernel
theorem d_Md_trafficSlot_198 : decode b_Md_trafficSlot 198 = .ok (.aload_n 0, 1) := by decide +kernel
theorem d_Md_trafficSlot_199 : decode b_Md_trafficSlot 199 = .ok (.iconst (3), 1) := by decide +kernel
theorem d_Md_trafficSlot_200 : decode b_Md_trafficSlot 200 = .ok (.iload 7, 2) := by decide +kernel
theorem d_Md_trafficSlot_202 : decode b_Md_trafficSlot 202 = .ok (.iadd, 1) := by decide +kernel
theorem d_Md_trafficSlot_203 : decode b_Md_trafficSlot 203 = .ok (.iload 5, 2) := by decide +kernel
theorem d_Md_trafficSlot_205 : decode b_Md_trafficSlot 205 = .ok (.aload_n 0, 1) := by decide +kernel
theorem d_Md_trafficSlot_206 : decode b_Md_trafficSlot 206 = .ok (.getfield 27, 3) := by decide +kernel
theorem d_Md_trafficSlot_209 : decode b_Md_trafficSlot 209 = .ok (.iload 7, 2) := by decide +kernel
theorem d_Md_trafficSlot_211 : decode b_Md_trafficSlot 211 = .ok (.iaload, 1) := by decide +kernel
theorem d_Md_trafficSlot_212 : decode b_Md_trafficSlot 212 = .ok (.invokevirtual 190, 3) := by decide +kernel
theorem d_Md_trafficSlot_215 : decode b_Md_trafficSlot 215 = .ok (.istore 8, 2) := by decide +kernel
theorem d_Md_trafficSlot_217 : decode b_Md_trafficSlot 217 = .ok (.iload 8, 2) := by decide +kernel
theorem d_Md_trafficSlot_219 : decode b_Md_trafficSlot 219 = .ok (.ifCond .lt (53), 3) := by decide +kernel
theorem d_Md_trafficSlot_222 : decode b_Md_trafficSlot 222 = .ok (.aload_n 0, 1) := by decide +kernel
theorem d_Md_trafficSlot_223 : decode b_Md_trafficSlot 223 = .ok (.getfield 79, 3) := by decide +kernel
theorem d_Md_trafficSlot_226 : decode b_Md_trafficSlot 226 = .ok (.iload 7, 2) := by decide +kernel
theorem d_Md_trafficSlot_228 : decode b_Md_trafficSlot 228 = .ok (.aload_n 0, 1) := by decide +kernel
theorem d_Md_trafficSlot_229 : decode b_Md_trafficSlot 229 = .ok (.getfield 79, 3) := by decide +kernel
theorem d_Md_trafficSlot_232 : decode b_Md_trafficSlot 232 = .ok (.iload 7, 2) := by decide +kernel
theorem d_Md_trafficSlot_234 : decode b_Md_trafficSlot 234 = .ok (.iaload, 1) := by decide +kernel
theorem d_Md_trafficSlot_235 : decode b_Md_trafficSlot 235 = .ok (.iconst (1), 1) := by decide +kernel
theorem d_Md_trafficSlot_236 : decode b_Md_trafficSlot 236 = .ok (.iadd, 1) := by decide +kernel
theorem d_Md_trafficSlot_237 : decode b_Md_trafficSlot 237 = .ok (.iastore, 1) := by decide +kernel
theorem d_Md_trafficSlot_238 : decode b_Md_trafficSlot 238 = .ok (.aload_n 0, 1) := by decide +kernel
theorem d_Md_trafficSlot_239 : decode b_Md_trafficSlot 239 = .ok (.getfield 82, 3) := by decide +kernel
theorem d_Md_trafficSlot_242 : decode b_Md_trafficSlot 242 = .ok (.iload 7, 2) := by decide +kernel
theorem d_Md_trafficSlot_244 : decode b_Md_trafficSlot 244 = .ok (.iload 8, 2) := by decide +kernel
theorem d_Md_trafficSlot_246 : decode b_Md_trafficSlot 246 = .ok (.aload_n 0, 1) := by decide +kernel
theorem d_Md_trafficSlot_247 : decode b_Md_trafficSlot 247 = .ok (.getfield 98, 3) := by decide +kernel
theorem d_Md_trafficSlot_250 : decode b_Md_trafficSlot 250 = .ok (.aload_n 0, 1) := by decide +kernel
theorem d_Md_trafficSlot_251 : decode b_Md_trafficSlot 251 = .ok (.getfield 64, 3) := by decide +kernel
theorem d_Md_trafficSlot_254 : decode b_Md_trafficSlot 254 = .ok (.iload 7, 2) := by decide +kernel
theorem d_Md_trafficSlot_256 : decode b_Md_trafficSlot 256 = .ok (.iaload, 1) := by decide +kernel
theorem d_Md_trafficSlot_257 : decode b_Md_trafficSlot 257 = .ok (.iaload, 1) := by decide +kernel
theorem d_Md_trafficSlot_258 : decode b_Md_trafficSlot 258 = .ok (.aload_n 0, 1) := by decide +kernel
theorem d_Md_trafficSlot_259 : decode b_Md_trafficSlot 259 = .ok (.getfield 122, 3) := by decide +kernel
theorem d_Md_trafficSlot_262 : decode b_Md_trafficSlot 262 = .ok (.iconst (4), 1) := by decide +kernel
theorem d_Md_trafficSlot_263 : decode b_Md_trafficSlot 263 = .ok (.idiv, 1) := by decide +kernel
theorem d_Md_trafficSlot_264 : decode b_Md_trafficSlot 264 = .ok (.invokestatic 173, 3) := by decide +kernel
theorem d_Md_trafficSlot_267 : decode b_Md_trafficSlot 267 = .ok (.ixor, 1) := by decide +kernel
theorem d_Md_trafficSlot_268 : decode b_Md_trafficSlot 268 = .ok (.ldc 205, 2) := by decide +kernel
theorem d_Md_trafficSlot_270 : decode b_Md_trafficSlot 270 = .ok (.iand, 1) := by decide +kernel
theorem d_Md_trafficSlot_271 : decode b_Md_trafficSlot 271 = .ok (.iastore, 1) := by decide +kernel
theorem d_Md_trafficSlot_272 : decode b_Md_trafficSlot 272 = .ok (.iinc 7 (1), 3) := by decide +kernel
theorem d_Md_trafficSlot_275 : decode b_Md_trafficSlot 275 = .ok (.goto (-106), 3) := by decide +kernel
theorem d_Md_trafficSlot_278 : decode b_Md_trafficSlot 278 = .ok (.return_, 1) := by decide +kernel
theorem d_Md_slot_0 : decode b_Md_slot 0 = .ok (.aload_n 0, 1) := by decide +kernel
theorem d_Md_slot_1 : decode b_Md_slot 1 = .ok (.getfield 122, 3) := by decide +kernel
theorem d_Md_slot_4 : decode b_Md_slot 4 = .ok (.iconst (4), 1) := by decide +kernel
theorem d_Md_slot_5 : decode b_Md_slot 5 = .ok (.irem, 1) := by decide +kernel
theorem d_Md_slot_6 : decode b_Md_slot 6 = .ok (.istore_n 1, 1) := by decide +kernel
theorem d_Md_slot_7 : decode b_Md_slot 7 = .ok (.iload_n 1, 1) := by decide +kernel
theorem d_Md_slot_8 : decode b_Md_slot 8 = .ok (.ifCond .ne (24), 3) := by decide +kernel
theorem d_Md_slot_11 : decode b_Md_slot 11 = .ok (.iconst (0), 1) := by decide +kernel
theorem d_Md_slot_12 : decode b_Md_slot 12 = .ok (.istore_n 2, 1) := by decide +kernel
theorem d_Md_slot_13 : decode b_Md_slot 13 = .ok (.iload_n 2, 1) := by decide +kernel
theorem d_Md_slot_14 : decode b_Md_slot 14 = .ok (.iconst (3), 1) := by decide +kernel
theorem d_Md_slot_15 : decode b_Md_slot 15 = .ok (.if_icmp .ge (14), 3) := by decide +kernel
theorem d_Md_slot_18 : decode b_Md_slot 18 = .ok (.aload_n 0, 1) := by decide +kernel
theorem d_Md_slot_19 : decode b_Md_slot 19 = .ok (.iload_n 2, 1) := by decide +kernel
theorem d_Md_slot_20 : decode b_Md_slot 20 = .ok (.invokevirtual 210, 3) := by decide +kernel
theorem d_Md_slot_23 : decode b_Md_slot 23 = .ok (.iinc 2 (1), 3) := by decide +kernel
theorem d_Md_slot_26 : decode b_Md_slot 26 = .ok (.goto (-13), 3) := by decide +kernel
theorem d_Md_slot_29 : decode b_Md_slot 29 = .ok (.goto (8), 3) := by decide +kernel
theorem d_Md_slot_32 : decode b_Md_slot 32 = .ok (.aload_n 0, 1) := by decide +kernel
theorem d_Md_slot_33 : decode b_Md_slot 33 = .ok (.iload_n 1, 1) := by decide +kernel
theorem d_Md_slot_34 : decode b_Md_slot 34 = .ok (.invokevirtual 213, 3) := by decide +kernel
theorem d_Md_slot_37 : decode b_Md_slot 37 = .ok (.iload_n 1, 1) := by decide +kernel
theorem d_Md_slot_38 : decode b_Md_slot 38 = .ok (.iconst (3), 1) := by decide +kernel
theorem d_Md_slot_39 : decode b_Md_slot 39 = .ok (.if_icmp .ne (48), 3) := by decide +kernel
theorem d_Md_slot_42 : decode b_Md_slot 42 = .ok (.iconst (0), 1) := by decide +kernel
theorem d_Md_slot_43 : decode b_Md_slot 43 = .ok (.istore_n 2, 1) := by decide +kernel
theorem d_Md_slot_44 : decode b_Md_slot 44 = .ok (.iload_n 2, 1) := by decide +kernel
theorem d_Md_slot_45 : decode b_Md_slot 45 = .ok (.iconst (4), 1) := by decide +kernel
theorem d_Md_slot_46 : decode b_Md_slot 46 = .ok (.if_icmp .ge (41), 3) := by decide +kernel
theorem d_Md_slot_49 : decode b_Md_slot 49 = .ok (.aload_n 0, 1) := by decide +kernel
theorem d_Md_slot_50 : decode b_Md_slot 50 = .ok (.getfield 101, 3) := by decide +kernel
theorem d_Md_slot_53 : decode b_Md_slot 53 = .ok (.iload_n 2, 1) := by decide +kernel
theorem d_Md_slot_54 : decode b_Md_slot 54 = .ok (.iaload, 1) := by decide +kernel
theorem d_Md_slot_55 : decode b_Md_slot 55 = .ok (.ifCond .le (26), 3) := by decide +kernel
theorem d_Md_slot_58 : decode b_Md_slot 58 = .ok (.aload_n 0, 1) := by decide +kernel
theorem d_Md_slot_59 : decode b_Md_slot 59 = .ok (.getfield 122, 3) := by decide +kernel
theorem d_Md_slot_62 : decode b_Md_slot 62 = .ok (.iconst (4), 1) := by decide +kernel
theorem d_Md_slot_63 : decode b_Md_slot 63 = .ok (.idiv, 1) := by decide +kernel
theorem d_Md_slot_64 : decode b_Md_slot 64 = .ok (.aload_n 0, 1) := by decide +kernel
theorem d_Md_slot_65 : decode b_Md_slot 65 = .ok (.getfield 107, 3) := by decide +kernel
theorem d_Md_slot_68 : decode b_Md_slot 68 = .ok (.iload_n 2, 1) := by decide +kernel
theorem d_Md_slot_69 : decode b_Md_slot 69 = .ok (.iaload, 1) := by decide +kernel
theorem d_Md_slot_70 : decode b_Md_slot 70 = .ok (.isub, 1) := by decide +kernel
theorem d_Md_slot_71 : decode b_Md_slot 71 = .ok (.bipush (8), 2) := by decide +kernel
theorem d_Md_slot_73 : decode b_Md_slot 73 = .ok (.if_icmp .lt (8), 3) := by decide +kernel
theorem d_Md_slot_76 : decode b_Md_slot 76 = .ok (.aload_n 0, 1) := by decide +kernel
theorem d_Md_slot_77 : decode b_Md_slot 77 = .ok (.iload_n 2, 1) := by decide +kernel
theorem d_Md_slot_78 : decode b_Md_slot 78 = .ok (.invokevirtual 207, 3) := by decide +kernel
theorem d_Md_slot_81 : decode b_Md_slot 81 = .ok (.iinc 2 (1), 3) := by decide +kernel
theorem d_Md_slot_84 : decode b_Md_slot 84 = .ok (.goto (-40), 3) := by decide +kernel
theorem d_Md_slot_87 : decode b_Md_slot 87 = .ok (.aload_n 0, 1) := by decide +kernel
theorem d_Md_slot_88 : decode b_Md_slot 88 = .ok (.dup, 1) := by decide +kernel
theorem d_Md_slot_89 : decode b_Md_slot 89 = .ok (.getfield 122, 3) := by decide +kernel
theorem d_Md_slot_92 : decode b_Md_slot 92 = .ok (.iconst (1), 1) := by decide +kernel
theorem d_Md_slot_93 : decode b_Md_slot 93 = .ok (.iadd, 1) := by decide +kernel
theorem d_Md_slot_94 : decode b_Md_slot 94 = .ok (.putfield 122, 3) := by decide +kernel
theorem d_Md_slot_97 : decode b_Md_slot 97 = .ok (.return_, 1) := by decide +kernel
def p_Md_controlSlot_86 (p1 : Int32) (post : SI → SJ → Prop) (k7 : Int32 → Int32 → Int32 → SI → SJ → Prop) (v2 : Int32) (v3 : Int32) (v4 : Int32) (I : SI) (J : SJ) : Prop :=
  ∀ x7, x7 = v4 + (1 : Int32) → k7 v2 v3 x7 I J
def p_Md_controlSlot_L7 (p1 : Int32) (post : SI → SJ → Prop) (k92 : Int32 → Int32 → SI → SJ → Prop) : Nat → Int32 → Int32 → Int32 → SI → SJ → Prop
  | 0, _, _, _, _, _ => False
  | n + 1, v2, v3, v4, I, J => (((8 : Int32) ≤ v4 → k92 v2 v3 I J) ∧ (¬ (8 : Int32) ≤ v4 → ∃ j4, v4 = nI j4 ∧ j4 < 8 ∧ ∀ I5, I5 = xu I (12) j4 (0 : Int32) → ∃ j6, v4 = nI j6 ∧ j6 < 8 ∧ ((¬ (I5 (3) j6) = p1 → p_Md_controlSlot_86 p1 post (p_Md_controlSlot_L7 p1 post k92 n) v2 v3 v4 I5 J) ∧ ((I5 (3) j6) = p1 → ∃ j8, v4 = nI j8 ∧ j8 < 8 ∧ (((I5 (7) j8) ≤ (0) → p_Md_controlSlot_86 p1 post (p_Md_controlSlot_L7 p1 post k92 n) v2 v3 v4 I5 J) ∧ (¬ (I5 (7) j8) ≤ (0) → ∃ j9, v4 = nI j9 ∧ j9 < 8 ∧ ((¬ (I5 (11) j9) = (0) → ∃ j10, v4 = nI j10 ∧ j10 < 8 ∧ ∃ j11, v4 = nI j11 ∧ j11 < 8 ∧ ∀ I12, I12 = xu I5 (11) j11 ((I5 (11) j10) - (1 : Int32)) → p_Md_controlSlot_86 p1 post (p_Md_controlSlot_L7 p1 post k92 n) v2 v3 v4 I12 J) ∧ ((I5 (11) j9) = (0) → ∃ j13, v4 = nI j13 ∧ j13 < 8 ∧ ∀ I14, I14 = xu I5 (12) j13 (1 : Int32) → ∀ x15, x15 = v2 + (1 : Int32) → p_Md_controlSlot_86 p1 post (p_Md_controlSlot_L7 p1 post k92 n) x15 v4 v4 I14 J))))))))
def p_Md_controlSlot_330 (p1 : Int32) (post : SI → SJ → Prop) (k297 : Int32 → SI → SJ → Prop) (v4 : Int32) (I : SI) (J : SJ) : Prop :=
  ∀ x27, x27 = v4 + (1 : Int32) → k297 x27 I J
def p_Md_controlSlot_L297 (p1 : Int32) (post : SI → SJ → Prop) : Nat → Int32 → SI → SJ → Prop
  | 0, _, _, _ => False
  | n + 1, v4, I, J => (((8 : Int32) ≤ v4 → post I J) ∧ (¬ (8 : Int32) ≤ v4 → ∃ j26, v4 = nI j26 ∧ j26 < 8 ∧ (((I (12) j26) = (0) → p_Md_controlSlot_330 p1 post (p_Md_controlSlot_L297 p1 post n) v4 I J) ∧ (¬ (I (12) j26) = (0) → ∃ j28, v4 = nI j28 ∧ j28 < 8 ∧ (((I (7) j28) ≤ (0) → p_Md_controlSlot_330 p1 post (p_Md_controlSlot_L297 p1 post n) v4 I J) ∧ (¬ (I (7) j28) ≤ (0) → p_Md_again v4 (fun I29 J30 => p_Md_controlSlot_330 p1 post (p_Md_controlSlot_L297 p1 post n) v4 I29 J30) I J))))))
def p_Md_controlSlot_294 (p1 : Int32) (post : SI → SJ → Prop) (I : SI) (J : SJ) : Prop :=
  ∀ x25, x25 = (0 : Int32) → ∃ n34, p_Md_controlSlot_L297 p1 post n34 x25 I J
def p_Md_controlSlot_L198 (p1 : Int32) (post : SI → SJ → Prop) (k241 : Int32 → SI → SJ → Prop) : Nat → Int32 → Int32 → SI → SJ → Prop
  | 0, _, _, _, _ => False
  | n + 1, v4, v5, I, J => ∃ j41, p1 = nI j41 ∧ j41 < 3 ∧ (((I (33) j41) ≤ v5 → k241 v4 I J) ∧ (¬ (I (33) j41) ≤ v5 → ∃ j42, (((9 : Int32) * p1) + v5) + (1 : Int32) = nI j42 ∧ j42 < 27 ∧ ∃ j43, ((9 : Int32) * p1) + v5 = nI j43 ∧ j43 < 27 ∧ ∀ I44, I44 = xu I (32) j43 (I (32) j42) → ∀ x45, x45 = v5 + (1 : Int32) → p_Md_controlSlot_L198 p1 post k241 n v4 x45 I44 J))
def p_Md_controlSlot_288 (p1 : Int32) (post : SI → SJ → Prop) (k244 : Int32 → Int32 → SI → SJ → Prop) (v4 : Int32) (v5 : Int32) (I : SI) (J : SJ) : Prop :=
  ∀ x52, x52 = v5 + (1 : Int32) → k244 v4 x52 I J
def p_Md_controlSlot_L244 (p1 : Int32) (post : SI → SJ → Prop) (k294 : SI → SJ → Prop) : Nat → Int32 → Int32 → SI → SJ → Prop
  | 0, _, _, _, _ => False
  | n + 1, v4, v5, I, J => (((8 : Int32) ≤ v5 → k294 I J) ∧ (¬ (8 : Int32) ≤ v5 → ∃ j51, v5 = nI j51 ∧ j51 < 8 ∧ ((¬ (I (3) j51) = p1 → p_Md_controlSlot_288 p1 post (p_Md_controlSlot_L244 p1 post k294 n) v4 v5 I J) ∧ ((I (3) j51) = p1 → p_Md_gets ((3 : Int32) + v5) v4 p1 (fun r55 I53 J54 => ((r55 < (0) → p_Md_controlSlot_288 p1 post (p_Md_controlSlot_L244 p1 post k294 n) v4 v5 I53 J54) ∧ (¬ r55 < (0) → p_Md_told v5 r55 (fun I56 J57 => p_Md_controlSlot_288 p1 post (p_Md_controlSlot_L244 p1 post k294 n) v4 v5 I56 J57) I53 J54))) I J))))
def p_Md_controlSlot_161 (p1 : Int32) (post : SI → SJ → Prop) (I : SI) (J : SJ) : Prop :=
  ∃ j24, p1 = nI j24 ∧ j24 < 3 ∧ (((I (33) j24) ≤ (0) → p_Md_controlSlot_294 p1 post I J) ∧ (¬ (I (33) j24) ≤ (0) → ∃ j35, (9 : Int32) * p1 = nI j35 ∧ j35 < 27 ∧ ∀ x36, x36 = I (32) j35 → ∃ j37, p1 = nI j37 ∧ j37 < 3 ∧ ∃ j38, p1 = nI j38 ∧ j38 < 3 ∧ ∀ I39, I39 = xu I (33) j38 ((I (33) j37) - (1 : Int32)) → ∀ x40, x40 = (0 : Int32) → ∃ n64, p_Md_controlSlot_L198 p1 post (fun z47 I48 J49 => ∀ x50, x50 = (0 : Int32) → ∃ n63, p_Md_controlSlot_L244 p1 post (fun I61 J62 => p_Md_controlSlot_294 p1 post I61 J62) n63 z47 x50 I48 J49) n64 x36 x40 I39 J))
def p_Md_controlSlot (p1 : Int32) (post : SI → SJ → Prop) (I : SI) (J : SJ) : Prop :=
  ∀ x1, x1 = (0 : Int32) → ∀ x2, x2 = (0 : Int32) → ∀ x3, x3 = (0 : Int32) → ∃ n83, p_Md_controlSlot_L7 p1 post (fun z20 z21 I22 J23 => ((¬ z20 = (1 : Int32) → p_Md_controlSlot_161 p1 post I22 J23) ∧ (z20 = (1 : Int32) → p_Md_message z21 (fun r68 I66 J67 => p_Md_gets p1 r68 p1 (fun r71 I69 J70 => ((r71 < (0) → p_Md_controlSlot_161 p1 post I69 J70) ∧ (¬ r71 < (0) → (((xsr r71 (16 : Int32)) < (1 : Int32) → p_Md_controlSlot_161 p1 post I69 J70) ∧ (¬ (xsr r71 (16 : Int32)) < (1 : Int32) → (((3 : Int32) < (xsr r71 (16 : Int32)) → p_Md_controlSlot_161 p1 post I69 J70) ∧ (¬ (3 : Int32) < (xsr r71 (16 : Int32)) → p_Md_control (8 : Int32) ((xsr r71 (13 : Int32)) &&& (7 : Int32)) (0 : Int32) (0 : Int32) (0 : Int32) (fun r74 I72 J73 => p_Md_sayFirst p1 r74 (fun I75 J76 => p_Md_switched p1 r71 (fun I77 J78 => p_Md_controlSlot_161 p1 post I77 J78) I75 J76) I72 J73) I69 J70))))))) I66 J67) I22 J23))) n83 x1 x2 x3 I J
abbrev rm_Md_controlSlot : Room := { frames := 5, cells := 0, slots := 0, locals := 130 }
def p_Md_trafficSlot_28 (p1 : Int32) (post : SI → SJ → Prop) (k2 : Int32 → SI → SJ → Prop) (v2 : Int32) (I : SI) (J : SJ) : Prop :=
  ∀ x3, x3 = v2 + (1 : Int32) → k2 x3 I J
def p_Md_trafficSlot_L2 (p1 : Int32) (post : SI → SJ → Prop) (k34 : Int32 → SI → SJ → Prop) : Nat → Int32 → SI → SJ → Prop
  | 0, _, _, _ => False
  | n + 1, v2, I, J => (((8 : Int32) ≤ v2 → k34 v2 I J) ∧ (¬ (8 : Int32) ≤ v2 → ∃ j2, v2 = nI j2 ∧ j2 < 8 ∧ ((¬ (I (13) j2) = (1 : Int32) → p_Md_trafficSlot_28 p1 post (p_Md_trafficSlot_L2 p1 post k34 n) v2 I J) ∧ ((I (13) j2) = (1 : Int32) → ∃ j4, v2 = nI j4 ∧ j4 < 8 ∧ (((I (14) j4) = p1 → k34 v2 I J) ∧ (¬ (I (14) j4) = p1 → p_Md_trafficSlot_28 p1 post (p_Md_trafficSlot_L2 p1 post k34 n) v2 I J))))))
def p_Md_trafficSlot_L117 (p1 : Int32) (post : SI → SJ → Prop) (k140 : Int32 → Int32 → SI → SJ → Prop) : Nat → Int32 → Int32 → SI → SJ → Prop
  | 0, _, _, _, _ => False
  | n + 1, v5, v6, I, J => (((4 : Int32) ≤ v6 → k140 v5 v6 I J) ∧ (¬ (4 : Int32) ≤ v6 → ∃ j26, v6 = nI j26 ∧ j26 < 4 ∧ (((I (27) j26) = p1 → k140 v5 v6 I J) ∧ (¬ (I (27) j26) = p1 → ∀ x27, x27 = v6 + (1 : Int32) → p_Md_trafficSlot_L117 p1 post k140 n v5 x27 I J))))
def p_Md_trafficSlot_272 (p1 : Int32) (post : SI → SJ → Prop) (k169 : Int32 → Int32 → SI → SJ → Prop) (v5 : Int32) (v7 : Int32) (I : SI) (J : SJ) : Prop :=
  ∀ x36, x36 = v7 + (1 : Int32) → k169 v5 x36 I J
def p_Md_trafficSlot_L169 (p1 : Int32) (post : SI → SJ → Prop) : Nat → Int32 → Int32 → SI → SJ → Prop
  | 0, _, _, _, _ => False
  | n + 1, v5, v7, I, J => (((8 : Int32) ≤ v7 → post I J) ∧ (¬ (8 : Int32) ≤ v7 → ∃ j35, v7 = nI j35 ∧ j35 < 8 ∧ ((¬ (I (13) j35) = (2 : Int32) → p_Md_trafficSlot_272 p1 post (p_Md_trafficSlot_L169 p1 post n) v5 v7 I J) ∧ ((I (13) j35) = (2 : Int32) → ∃ j37, v7 = nI j37 ∧ j37 < 8 ∧ ((¬ (I (14) j37) = p1 → p_Md_trafficSlot_272 p1 post (p_Md_trafficSlot_L169 p1 post n) v5 v7 I J) ∧ ((I (14) j37) = p1 → ∃ j38, v7 = nI j38 ∧ j38 < 8 ∧ p_Md_gets ((3 : Int32) + v7) v5 (I (3) j38) (fun r41 I39 J40 => ((r41 < (0) → p_Md_trafficSlot_272 p1 post (p_Md_trafficSlot_L169 p1 post n) v5 v7 I39 J40) ∧ (¬ r41 < (0) → ∃ j42, v7 = nI j42 ∧ j42 < 8 ∧ ∃ j43, v7 = nI j43 ∧ j43 < 8 ∧ ∀ I44, I44 = xu I39 (20) j43 ((I39 (20) j42) + (1 : Int32)) → ∃ j45, v7 = nI j45 ∧ j45 < 8 ∧ ∃ j46, I44 (15) j45 = nI j46 ∧ j46 < 4 ∧ p_Md_mix (I44 (26) j46) ((I44 0 36) / (4 : Int32)) (fun r49 I47 J48 => ∃ j50, v7 = nI j50 ∧ j50 < 8 ∧ ∀ I51, I51 = xu I47 (21) j50 ((r41 ^^^ r49) &&& (524287 : Int32)) → p_Md_trafficSlot_272 p1 post (p_Md_trafficSlot_L169 p1 post n) v5 v7 I51 J48) I44 J40))) I J))))))
def p_Md_trafficSlot_140 (p1 : Int32) (post : SI → SJ → Prop) (v5 : Int32) (v6 : Int32) (I : SI) (J : SJ) : Prop :=
  ((v5 < (0) → post I J) ∧ (¬ v5 < (0) → ((¬ v6 = (4 : Int32) → ((v5 < (524288 : Int32) → ∀ x34, x34 = (0 : Int32) → ∃ n56, p_Md_trafficSlot_L169 p1 post n56 v5 x34 I J) ∧ (¬ v5 < (524288 : Int32) → p_Md_releaseCall v6 (fun I57 J58 => post I57 J58) I J))) ∧ (v6 = (4 : Int32) → post I J))))
def p_Md_trafficSlot_104 (p1 : Int32) (post : SI → SJ → Prop) (v3 : Int32) (v4 : Int32) (I : SI) (J : SJ) : Prop :=
  p_Md_gets v3 v4 v3 (fun r24 I22 J23 => ∀ x25, x25 = (0 : Int32) → ∃ n62, p_Md_trafficSlot_L117 p1 post (fun z30 z31 I32 J33 => p_Md_trafficSlot_140 p1 post z30 z31 I32 J33) n62 r24 x25 I22 J23) I J
def p_Md_trafficSlot_34 (p1 : Int32) (post : SI → SJ → Prop) (v2 : Int32) (I : SI) (J : SJ) : Prop :=
  ((¬ v2 = (8 : Int32) → ∃ j11, v2 = nI j11 ∧ j11 < 8 ∧ ∀ x12, x12 = I (3) j11 → ∃ j13, v2 = nI j13 ∧ j13 < 8 ∧ ∃ j14, v2 = nI j14 ∧ j14 < 8 ∧ ∃ j15, I (15) j14 = nI j15 ∧ j15 < 4 ∧ p_Md_mix (I (26) j15) ((I 0 36) / (4 : Int32)) (fun r18 I16 J17 => ∀ x19, x19 = ((I (17) j13) ^^^ r18) &&& (524287 : Int32) → ∃ j20, v2 = nI j20 ∧ j20 < 8 ∧ ∃ j21, v2 = nI j21 ∧ j21 < 8 ∧ (((I16 (16) j20) = (I16 (15) j21) → p_Md_trafficSlot_104 p1 post x12 x19 I16 J17) ∧ (¬ (I16 (16) j20) = (I16 (15) j21) → ∀ x63, x63 = (524288 : Int32) → p_Md_idle v2 (fun I64 J65 => p_Md_trafficSlot_104 p1 post x12 x63 I64 J65) I16 J17))) I J) ∧ (v2 = (8 : Int32) → post I J))
def p_Md_trafficSlot (p1 : Int32) (post : SI → SJ → Prop) (I : SI) (J : SJ) : Prop :=
  ∀ x1, x1 = (0 : Int32) → ∃ n68, p_Md_trafficSlot_L2 p1 post (fun z8 I9 J10 => p_Md_trafficSlot_34 p1 post z8 I9 J10) n68 x1 I J
abbrev rm_Md_trafficSlot : Room := { frames := 5, cells := 0, slots := 0, locals := 130 }
def p_Md_slot_81 (post : SI → SJ → Prop) (k44 : Int32 → SI → SJ → Prop) (v2 : Int32) (I : SI) (J : SJ) : Prop :=
  ∀ x8, x8 = v2 + (1 : Int32) → k44 x8 I J
def p_Md_slot_L44 (post : SI → SJ → Prop) : Nat → Int32 → SI → SJ → Prop
  | 0, _, _, _ => False
  | n + 1, v2, I, J => (((4 : Int32) ≤ v2 → ∀ I6, I6 = xu I (0) 36 ((I 0 36) + (1 : Int32)) → post I6 J) ∧ (¬ (4 : Int32) ≤ v2 → ∃ j7, v2 = nI j7 ∧ j7 < 4 ∧ (((I (27) j7) ≤ (0) → p_Md_slot_81 post (p_Md_slot_L44 post n) v2 I J) ∧ (¬ (I (27) j7) ≤ (0) → ∃ j9, v2 = nI j9 ∧ j9 < 4 ∧ (((((I 0 36) / (4 : Int32)) - (I (29) j9)) < (8 : Int32) → p_Md_slot_81 post (p_Md_slot_L44 post n) v2 I J) ∧ (¬ (((I 0 36) / (4 : Int32)) - (I (29) j9)) < (8 : Int32) → p_Md_releaseCall v2 (fun I10 J11 => p_Md_slot_81 post (p_Md_slot_L44 post n) v2 I10 J11) I J))))))
def p_Md_slot_37 (post : SI → SJ → Prop) (v1 : Int32) (I : SI) (J : SJ) : Prop :=
  ((¬ v1 = (3 : Int32) → ∀ I4, I4 = xu I (0) 36 ((I 0 36) + (1 : Int32)) → post I4 J) ∧ (v1 = (3 : Int32) → ∀ x5, x5 = (0 : Int32) → ∃ n15, p_Md_slot_L44 post n15 x5 I J))
def p_Md_slot_L13 (post : SI → SJ → Prop) (k29 : Int32 → SI → SJ → Prop) : Nat → Int32 → Int32 → SI → SJ → Prop
  | 0, _, _, _, _ => False
  | n + 1, v1, v2, I, J => (((3 : Int32) ≤ v2 → k29 v1 I J) ∧ (¬ (3 : Int32) ≤ v2 → p_Md_controlSlot v2 (fun I18 J19 => ∀ x20, x20 = v2 + (1 : Int32) → p_Md_slot_L13 post k29 n v1 x20 I18 J19) I J))
def p_Md_slot (post : SI → SJ → Prop) (I : SI) (J : SJ) : Prop :=
  ∀ x1, x1 = xrm (I 0 36) (4 : Int32) → ((¬ x1 = (0) → p_Md_trafficSlot x1 (fun I2 J3 => p_Md_slot_37 post x1 I2 J3) I J) ∧ (x1 = (0) → ∀ x17, x17 = (0 : Int32) → ∃ n25, p_Md_slot_L13 post (fun z22 I23 J24 => p_Md_slot_37 post z22 I23 J24) n25 x1 x17 I J))
abbrev rm_Md_slot : Room := { frames := 6, cells := 0, slots := 0, locals := 158 }
set_option maxHeartbeats 4000000 in
set_option maxRecDepth 100000 in
theorem c_Md_controlSlot (l : Launch) (D : va_G) (κ : Nat → ClassId) {Θ : Nat → Nat} (hΘ : xJ 34 Θ) (sz : Nat) (p1 : Int32) (I : SI) (J : SJ) (post : SI → SJ → Prop) (h : p_Md_controlSlot p1 post I J) : Met l y_Md_controlSlot WS rm_Md_controlSlot (va_Pc [.ref (Θ (0)), .int p1] (xPR D clA (tysA κ) 34 Θ (eM Θ κ) sz I J)) (xQv D clA 34 Θ (eM Θ κ) sz post) 0 0 (xA 34 Θ sz) := by
  refine xMet (cc := b_Md_controlSlot) (maxL := 7) (ret := none) (by decide) q_Md_controlSlot.1 ?_
  intro p e s m args below meth c s₁ B hml hv
  obtain ⟨hargs, hsz, hP, hK, hN, hG⟩ := hv
  have hx := B.exec
  have hb := B.bytes
  have hr := B.returns
  have hlocks := B.notSynchronized
  have hts := atoms_spec (ws := WS) B.pre
  have hown : s.vm.findClass R_Md = some m.cls := findClass_of_methodNamed B.named
  have C : xC p m c b_Md_controlSlot 7 s args R_Md D clA (tysA κ) 34 Θ sz := ⟨⟨hx, hb, hml, hown, hts⟩, hK, hN, hG, hsz⟩
  have hS : va_S (xA 34 Θ sz) s.heap s.heap [] := va_S.rf
  have tJ86 : ∀ (k7 : Int32 → Int32 → Int32 → SI → SJ → Prop), (∀ (v2 : Int32) (v3 : Int32) (v4 : Int32) (I : SI) (J : SJ), k7 v2 v3 v4 I J → ∀ (H : Heap) (locs : List Loc) (ls : Array Slot), lv_has ls 7 [(0, .ref (Θ (0))), (1, .int p1), (2, .int v2), (3, .int v3), (4, .int v4)] → va_P D clA (xw 34 Θ (eM Θ κ) I J) H → va_S (xA 34 Θ sz) s.heap H locs → W p l e (headSpec WS rm_Md_controlSlot).room s m args below meth c H locs 0 0 (MQ below (xQv D clA 34 Θ (eM Θ κ) sz post) args s 0 0 (xA 34 Θ sz)) (F0 m 7 ls [])) → ∀ (v2 : Int32) (v3 : Int32) (v4 : Int32) (I : SI) (J : SJ), p_Md_controlSlot_86 p1 post k7 v2 v3 v4 I J → ∀ (H : Heap) (locs : List Loc) (ls : Array Slot), lv_has ls 7 [(0, .ref (Θ (0))), (1, .int p1), (2, .int v2), (3, .int v3), (4, .int v4)] → va_P D clA (xw 34 Θ (eM Θ κ) I J) H → va_S (xA 34 Θ sz) s.heap H locs → W p l e (headSpec WS rm_Md_controlSlot).room s m args below meth c H locs 0 0 (MQ below (xQv D clA 34 Θ (eM Θ κ) sz post) args s 0 0 (xA 34 Θ sz)) (F0 m 86 ls []) := by
    intro k7 hk7 v2 v3 v4 I J h H locs ls hl hP hS
    unfold p_Md_controlSlot_86 at h
    obtain ⟨x7, ex7⟩ : ∃ y : Int32, y = v4 + (1 : Int32) := ⟨_, rfl⟩
    have h := h x7 ex7
    refine lv_iinc (k := 4) (v := x7) hx hb d_Md_controlSlot_86 hl rfl (by rw [ex7]; rfl) (Nat.le_of_ble_eq_true rfl) (lv' := [(4, .int x7), (0, .ref (Θ (0))), (1, .int p1), (2, .int v2), (3, .int v3)]) rfl (fun ls hl => ?_)
    refine lv_goto hx hb d_Md_controlSlot_89 (tgt := 7) rfl ?_
    exact hk7 _ _ _ _ _ h _ _ _ (lv_sub hl [1, 2, 3, 4, 0] rfl) hP hS
  have tL7 : ∀ (k92 : Int32 → Int32 → SI → SJ → Prop), (∀ (v2 : Int32) (v3 : Int32) (I : SI) (J : SJ), k92 v2 v3 I J → ∀ (H : Heap) (locs : List Loc) (ls : Array Slot), lv_has ls 7 [(0, .ref (Θ (0))), (1, .int p1), (2, .int v2), (3, .int v3)] → va_P D clA (xw 34 Θ (eM Θ κ) I J) H → va_S (xA 34 Θ sz) s.heap H locs → W p l e (headSpec WS rm_Md_controlSlot).room s m args below meth c H locs 0 0 (MQ below (xQv D clA 34 Θ (eM Θ κ) sz post) args s 0 0 (xA 34 Θ sz)) (F0 m 92 ls [])) → ∀ (n : Nat) (v2 : Int32) (v3 : Int32) (v4 : Int32) (I : SI) (J : SJ), p_Md_controlSlot_L7 p1 post k92 n v2 v3 v4 I J → ∀ (H : Heap) (locs : List Loc) (ls : Array Slot), lv_has ls 7 [(0, .ref (Θ (0))), (1, .int p1), (2, .int v2), (3, .int v3), (4, .int v4)] → va_P D clA (xw 34 Θ (eM Θ κ) I J) H → va_S (xA 34 Θ sz) s.heap H locs → W p l e (headSpec WS rm_Md_controlSlot).room s m args below meth c H locs 0 0 (MQ below (xQv D clA 34 Θ (eM Θ κ) sz post) args s 0 0 (xA 34 Θ sz)) (F0 m 7 ls []) := by
    intro k92 hk92 n
    induction n with
    | zero =>
      intro v2 v3 v4 I J h H locs ls hl hP hS
      exact h.elim
    | succ n ih =>
      intro v2 v3 v4 I J h H locs ls hl hP hS
      unfold p_Md_controlSlot_L7 at h
      refine lv_iload hx hb d_Md_controlSlot_7 (lv_at hl 4 rfl) ?_
      refine lv_bipush (v := (8 : Int32)) hx hb d_Md_controlSlot_9 (by decide) ?_
      refine lv_icmp_ge hx hb d_Md_controlSlot_11 (tgt := 92) rfl (fun hc19 => ?_) (fun hc19 => ?_)
      · have h := h.1 hc19
        exact hk92 _ _ _ _ h _ _ _ (lv_sub hl [0, 1, 2, 3] rfl) hP hS
      · have h := h.2 hc19
        refine lv_aload_n hx hb d_Md_controlSlot_14 rfl (lv_at hl 0 rfl) ?_
        refine gfM_Md_54 C hP d_Md_controlSlot_15 ?_
        refine lv_iload hx hb d_Md_controlSlot_18 (lv_at hl 4 rfl) ?_
        refine lv_iconst (v := (0 : Int32)) hx hb d_Md_controlSlot_20 (by decide) ?_
        obtain ⟨j4, ej4, h_j4, h⟩ := h
        refine x_zast hx hb hK hΘ hP hS (12) 2 (Nat.le_of_ble_eq_true rfl) eM_sent rfl ej4 h_j4 (by decide) (by decide) d_Md_controlSlot_21 (fun H locs hP hS => ?_)
        obtain ⟨I5, eI5⟩ : ∃ y, y = xu I (12) j4 (0 : Int32) := ⟨_, rfl⟩
        have hP : va_P D clA (xw 34 Θ (eM Θ κ) I5 J) H := by rw [eI5]; exact hP
        have h := h I5 eI5
        refine lv_aload_n hx hb d_Md_controlSlot_22 rfl (lv_at hl 0 rfl) ?_
        refine gfM_Md_27 C hP d_Md_controlSlot_23 ?_
        refine lv_iload hx hb d_Md_controlSlot_26 (lv_at hl 4 rfl) ?_
        obtain ⟨j6, ej6, h_j6, h⟩ := h
        refine x_iald hx hb hK hP (3) 0 (Nat.le_of_ble_eq_true rfl) eM_cellOf rfl ej6 h_j6 (by decide) d_Md_controlSlot_28 ?_
        refine lv_iload_n hx hb d_Md_controlSlot_29 rfl (lv_at hl 1 rfl) ?_
        refine lv_icmp_ne hx hb d_Md_controlSlot_30 (tgt := 86) rfl (fun hc18 => ?_) (fun hc18 => ?_)
        · have h := h.1 hc18
          exact tJ86 _ ih _ _ _ _ _ h _ _ _ (lv_sub hl [0, 1, 2, 3, 4] rfl) hP hS
        · have h := h.2 hc18
          refine lv_aload_n hx hb d_Md_controlSlot_33 rfl (lv_at hl 0 rfl) ?_
          refine gfM_Md_39 C hP d_Md_controlSlot_34 ?_
          refine lv_iload hx hb d_Md_controlSlot_37 (lv_at hl 4 rfl) ?_
          obtain ⟨j8, ej8, h_j8, h⟩ := h
          refine x_iald hx hb hK hP (7) 0 (Nat.le_of_ble_eq_true rfl) eM_kind rfl ej8 h_j8 (by decide) d_Md_controlSlot_39 ?_
          refine lv_if_le hx hb d_Md_controlSlot_40 (tgt := 86) rfl (fun hc17 => ?_) (fun hc17 => ?_)
          · have h := h.1 hc17
            exact tJ86 _ ih _ _ _ _ _ h _ _ _ (lv_sub hl [0, 1, 2, 3, 4] rfl) hP hS
          · have h := h.2 hc17
            refine lv_aload_n hx hb d_Md_controlSlot_43 rfl (lv_at hl 0 rfl) ?_
            refine gfM_Md_51 C hP d_Md_controlSlot_44 ?_
            refine lv_iload hx hb d_Md_controlSlot_47 (lv_at hl 4 rfl) ?_
            obtain ⟨j9, ej9, h_j9, h⟩ := h
            refine x_iald hx hb hK hP (11) 0 (Nat.le_of_ble_eq_true rfl) eM_wait rfl ej9 h_j9 (by decide) d_Md_controlSlot_49 ?_
            refine lv_if_ne hx hb d_Md_controlSlot_50 (tgt := 70) rfl (fun hc16 => ?_) (fun hc16 => ?_)
            · have h := h.1 hc16
              refine lv_aload_n hx hb d_Md_controlSlot_70 rfl (lv_at hl 0 rfl) ?_
              refine gfM_Md_51 C hP d_Md_controlSlot_71 ?_
              refine lv_iload hx hb d_Md_controlSlot_74 (lv_at hl 4 rfl) ?_
              refine lv_aload_n hx hb d_Md_controlSlot_76 rfl (lv_at hl 0 rfl) ?_
              refine gfM_Md_51 C hP d_Md_controlSlot_77 ?_
              refine lv_iload hx hb d_Md_controlSlot_80 (lv_at hl 4 rfl) ?_
              obtain ⟨j10, ej10, h_j10, h⟩ := h
              refine x_iald hx hb hK hP (11) 0 (Nat.le_of_ble_eq_true rfl) eM_wait rfl ej10 h_j10 (by decide) d_Md_controlSlot_82 ?_
              refine lv_iconst (v := (1 : Int32)) hx hb d_Md_controlSlot_83 (by decide) ?_
              refine lv_isub hx hb d_Md_controlSlot_84 ?_
              obtain ⟨j11, ej11, h_j11, h⟩ := h
              refine x_iast hx hb hK hΘ hP hS (11) 0 (Nat.le_of_ble_eq_true rfl) eM_wait rfl ej11 h_j11 (by decide) d_Md_controlSlot_85 (fun H locs hP hS => ?_)
              obtain ⟨I12, eI12⟩ : ∃ y, y = xu I5 (11) j11 ((I5 (11) j10) - (1 : Int32)) := ⟨_, rfl⟩
              have hP : va_P D clA (xw 34 Θ (eM Θ κ) I12 J) H := by rw [eI12]; exact hP
              have h := h I12 eI12
              exact tJ86 _ ih _ _ _ _ _ h _ _ _ (lv_sub hl [0, 1, 2, 3, 4] rfl) hP hS
            · have h := h.2 hc16
              refine lv_aload_n hx hb d_Md_controlSlot_53 rfl (lv_at hl 0 rfl) ?_
              refine gfM_Md_54 C hP d_Md_controlSlot_54 ?_
              refine lv_iload hx hb d_Md_controlSlot_57 (lv_at hl 4 rfl) ?_
              refine lv_iconst (v := (1 : Int32)) hx hb d_Md_controlSlot_59 (by decide) ?_
              obtain ⟨j13, ej13, h_j13, h⟩ := h
              refine x_zast hx hb hK hΘ hP hS (12) 2 (Nat.le_of_ble_eq_true rfl) eM_sent rfl ej13 h_j13 (by decide) (by decide) d_Md_controlSlot_60 (fun H locs hP hS => ?_)
              obtain ⟨I14, eI14⟩ : ∃ y, y = xu I5 (12) j13 (1 : Int32) := ⟨_, rfl⟩
              have hP : va_P D clA (xw 34 Θ (eM Θ κ) I14 J) H := by rw [eI14]; exact hP
              have h := h I14 eI14
              obtain ⟨x15, ex15⟩ : ∃ y : Int32, y = v2 + (1 : Int32) := ⟨_, rfl⟩
              have h := h x15 ex15
              refine lv_iinc (k := 2) (v := x15) hx hb d_Md_controlSlot_61 hl rfl (by rw [ex15]; rfl) (Nat.le_of_ble_eq_true rfl) (lv' := [(2, .int x15), (0, .ref (Θ (0))), (1, .int p1), (3, .int v3), (4, .int v4)]) rfl (fun ls hl => ?_)
              refine lv_iload hx hb d_Md_controlSlot_64 (lv_at hl 4 rfl) ?_
              refine lv_istore_n hx hb d_Md_controlSlot_66 rfl hl (Nat.le_of_ble_eq_true rfl) (lv' := [(3, .int v4), (2, .int x15), (0, .ref (Θ (0))), (1, .int p1), (4, .int v4)]) rfl (fun ls hl => ?_)
              refine lv_goto hx hb d_Md_controlSlot_67 (tgt := 86) rfl ?_
              exact tJ86 _ ih _ _ _ _ _ h _ _ _ (lv_sub hl [2, 3, 1, 0, 4] rfl) hP hS
  have tJ330 : ∀ (k297 : Int32 → SI → SJ → Prop), (∀ (v4 : Int32) (I : SI) (J : SJ), k297 v4 I J → ∀ (H : Heap) (locs : List Loc) (ls : Array Slot), lv_has ls 7 [(0, .ref (Θ (0))), (4, .int v4)] → va_P D clA (xw 34 Θ (eM Θ κ) I J) H → va_S (xA 34 Θ sz) s.heap H locs → W p l e (headSpec WS rm_Md_controlSlot).room s m args below meth c H locs 0 0 (MQ below (xQv D clA 34 Θ (eM Θ κ) sz post) args s 0 0 (xA 34 Θ sz)) (F0 m 297 ls [])) → ∀ (v4 : Int32) (I : SI) (J : SJ), p_Md_controlSlot_330 p1 post k297 v4 I J → ∀ (H : Heap) (locs : List Loc) (ls : Array Slot), lv_has ls 7 [(0, .ref (Θ (0))), (4, .int v4)] → va_P D clA (xw 34 Θ (eM Θ κ) I J) H → va_S (xA 34 Θ sz) s.heap H locs → W p l e (headSpec WS rm_Md_controlSlot).room s m args below meth c H locs 0 0 (MQ below (xQv D clA 34 Θ (eM Θ κ) sz post) args s 0 0 (xA 34 Θ sz)) (F0 m 330 ls []) := by
    intro k297 hk297 v4 I J h H locs ls hl hP hS
    unfold p_Md_controlSlot_330 at h
    obtain ⟨x27, ex27⟩ : ∃ y : Int32, y = v4 + (1 : Int32) := ⟨_, rfl⟩
    have h := h x27 ex27
    refine lv_iinc (k := 1) (v := x27) hx hb d_Md_controlSlot_330 hl rfl (by rw [ex27]; rfl) (Nat.le_of_ble_eq_true rfl) (lv' := [(4, .int x27), (0, .ref (Θ (0)))]) rfl (fun ls hl => ?_)
    refine lv_goto hx hb d_Md_controlSlot_333 (tgt := 297) rfl ?_
    exact hk297 _ _ _ h _ _ _ (lv_sub hl [1, 0] rfl) hP hS
  have tL297 : ∀ (n : Nat) (v4 : Int32) (I : SI) (J : SJ), p_Md_controlSlot_L297 p1 post n v4 I J → ∀ (H : Heap) (locs : List Loc) (ls : Array Slot), lv_has ls 7 [(0, .ref (Θ (0))), (4, .int v4)] → va_P D clA (xw 34 Θ (eM Θ κ) I J) H → va_S (xA 34 Θ sz) s.heap H locs → W p l e (headSpec WS rm_Md_controlSlot).room s m args below meth c H locs 0 0 (MQ below (xQv D clA 34 Θ (eM Θ κ) sz post) args s 0 0 (xA 34 Θ sz)) (F0 m 297 ls []) := by
    intro n
    induction n with
    | zero =>
      intro v4 I J h H locs ls hl hP hS
      exact h.elim
    | succ n ih =>
      intro v4 I J h H locs ls hl hP hS
      unfold p_Md_controlSlot_L297 at h
      refine lv_iload hx hb d_Md_controlSlot_297 (lv_at hl 1 rfl) ?_
      refine lv_bipush (v := (8 : Int32)) hx hb d_Md_controlSlot_299 (by decide) ?_
      refine lv_icmp_ge hx hb d_Md_controlSlot_301 (tgt := 336) rfl (fun hc33 => ?_) (fun hc33 => ?_)
      · have h := h.1 hc33
        exact x_vret hx hb hr hlocks hP hS h d_Md_controlSlot_336
      · have h := h.2 hc33
        refine lv_aload_n hx hb d_Md_controlSlot_304 rfl (lv_at hl 0 rfl) ?_
        refine gfM_Md_54 C hP d_Md_controlSlot_305 ?_
        refine lv_iload hx hb d_Md_controlSlot_308 (lv_at hl 1 rfl) ?_
        obtain ⟨j26, ej26, h_j26, h⟩ := h
        refine x_zald hx hb hK hP (12) 2 (Nat.le_of_ble_eq_true rfl) eM_sent rfl ej26 h_j26 (by decide) d_Md_controlSlot_310 ?_
        refine lv_if_eq hx hb d_Md_controlSlot_311 (tgt := 330) rfl (fun hc32 => ?_) (fun hc32 => ?_)
        · have h := h.1 hc32
          exact tJ330 _ ih _ _ _ h _ _ _ (lv_sub hl [0, 1] rfl) hP hS
        · have h := h.2 hc32
          refine lv_aload_n hx hb d_Md_controlSlot_314 rfl (lv_at hl 0 rfl) ?_
          refine gfM_Md_39 C hP d_Md_controlSlot_315 ?_
          refine lv_iload hx hb d_Md_controlSlot_318 (lv_at hl 1 rfl) ?_
          obtain ⟨j28, ej28, h_j28, h⟩ := h
          refine x_iald hx hb hK hP (7) 0 (Nat.le_of_ble_eq_true rfl) eM_kind rfl ej28 h_j28 (by decide) d_Md_controlSlot_320 ?_
          refine lv_if_le hx hb d_Md_controlSlot_321 (tgt := 330) rfl (fun hc31 => ?_) (fun hc31 => ?_)
          · have h := h.1 hc31
            exact tJ330 _ ih _ _ _ h _ _ _ (lv_sub hl [0, 1] rfl) hP hS
          · have h := h.2 hc31
            refine lv_aload_n hx hb d_Md_controlSlot_324 rfl (lv_at hl 0 rfl) ?_
            refine lv_iload hx hb d_Md_controlSlot_325 (lv_at hl 1 rfl) ?_
            refine x_gv (x_V C hP hS (Nat.le_of_ble_eq_true rfl) (eM_Md _ _) rfl (c_Md_again l D κ hΘ sz v4 I J _ h) q_Md_again k_1030 sel_Md_again k_1028 rfl rfl ⟨Nat.le_of_ble_eq_true rfl, Nat.le_of_ble_eq_true rfl⟩ rfl hl.1 rfl (Nat.le_of_ble_eq_true rfl) d_Md_controlSlot_327) hS (fun I29 J30 h H locs hP hS => ?_)
            exact tJ330 _ ih _ _ _ h _ _ _ (lv_sub hl [0, 1] rfl) hP hS
  have tJ294 : ∀ (I : SI) (J : SJ), p_Md_controlSlot_294 p1 post I J → ∀ (H : Heap) (locs : List Loc) (ls : Array Slot), lv_has ls 7 [(0, .ref (Θ (0)))] → va_P D clA (xw 34 Θ (eM Θ κ) I J) H → va_S (xA 34 Θ sz) s.heap H locs → W p l e (headSpec WS rm_Md_controlSlot).room s m args below meth c H locs 0 0 (MQ below (xQv D clA 34 Θ (eM Θ κ) sz post) args s 0 0 (xA 34 Θ sz)) (F0 m 294 ls []) := by
    intro I J h H locs ls hl hP hS
    unfold p_Md_controlSlot_294 at h
    refine lv_iconst (v := (0 : Int32)) hx hb d_Md_controlSlot_294 (by decide) ?_
    refine lv_topi (fun x25 ex25 => ?_)
    have h := h x25 ex25
    refine lv_istore hx hb d_Md_controlSlot_295 hl (Nat.le_of_ble_eq_true rfl) (lv' := [(4, .int x25), (0, .ref (Θ (0)))]) rfl (fun ls hl => ?_)
    obtain ⟨n34, h⟩ := h
    refine tL297 n34 _ _ _ h _ _ _ (lv_sub hl [1, 0] rfl) hP hS
  have tL198 : ∀ (k241 : Int32 → SI → SJ → Prop), (∀ (v4 : Int32) (I : SI) (J : SJ), k241 v4 I J → ∀ (H : Heap) (locs : List Loc) (ls : Array Slot), lv_has ls 7 [(0, .ref (Θ (0))), (1, .int p1), (4, .int v4)] → va_P D clA (xw 34 Θ (eM Θ κ) I J) H → va_S (xA 34 Θ sz) s.heap H locs → W p l e (headSpec WS rm_Md_controlSlot).room s m args below meth c H locs 0 0 (MQ below (xQv D clA 34 Θ (eM Θ κ) sz post) args s 0 0 (xA 34 Θ sz)) (F0 m 241 ls [])) → ∀ (n : Nat) (v4 : Int32) (v5 : Int32) (I : SI) (J : SJ), p_Md_controlSlot_L198 p1 post k241 n v4 v5 I J → ∀ (H : Heap) (locs : List Loc) (ls : Array Slot), lv_has ls 7 [(0, .ref (Θ (0))), (1, .int p1), (4, .int v4), (5, .int v5)] → va_P D clA (xw 34 Θ (eM Θ κ) I J) H → va_S (xA 34 Θ sz) s.heap H locs → W p l e (headSpec WS rm_Md_controlSlot).room s m args below meth c H locs 0 0 (MQ below (xQv D clA 34 Θ (eM Θ κ) sz post) args s 0 0 (xA 34 Θ sz)) (F0 m 198 ls []) := by
    intro k241 hk241 n
    induction n with
    | zero =>
      intro v4 v5 I J h H locs ls hl hP hS
      exact h.elim
    | succ n ih =>
      intro v4 v5 I J h H locs ls hl hP hS
      unfold p_Md_controlSlot_L198 at h
      refine lv_iload hx hb d_Md_controlSlot_198 (lv_at hl 3 rfl) ?_
      refine lv_aload_n hx hb d_Md_controlSlot_200 rfl (lv_at hl 0 rfl) ?_
      refine gfM_Md_119 C hP d_Md_controlSlot_201 ?_
      refine lv_iload_n hx hb d_Md_controlSlot_204 rfl (lv_at hl 1 rfl) ?_
      obtain ⟨j41, ej41, h_j41, h⟩ := h
      refine x_iald hx hb hK hP (33) 0 (Nat.le_of_ble_eq_true rfl) eM_sayCount rfl ej41 h_j41 (by decide) d_Md_controlSlot_205 ?_
      refine lv_icmp_ge hx hb d_Md_controlSlot_206 (tgt := 241) rfl (fun hc46 => ?_) (fun hc46 => ?_)
      · have h := h.1 hc46
        exact hk241 _ _ _ h _ _ _ (lv_sub hl [0, 1, 2] rfl) hP hS
      · have h := h.2 hc46
        refine lv_aload_n hx hb d_Md_controlSlot_209 rfl (lv_at hl 0 rfl) ?_
        refine gfM_Md_116 C hP d_Md_controlSlot_210 ?_
        refine lv_bipush (v := (9 : Int32)) hx hb d_Md_controlSlot_213 (by decide) ?_
        refine lv_iload_n hx hb d_Md_controlSlot_215 rfl (lv_at hl 1 rfl) ?_
        refine lv_imul hx hb d_Md_controlSlot_216 ?_
        refine lv_iload hx hb d_Md_controlSlot_217 (lv_at hl 3 rfl) ?_
        refine lv_iadd hx hb d_Md_controlSlot_219 ?_
        refine lv_aload_n hx hb d_Md_controlSlot_220 rfl (lv_at hl 0 rfl) ?_
        refine gfM_Md_116 C hP d_Md_controlSlot_221 ?_
        refine lv_bipush (v := (9 : Int32)) hx hb d_Md_controlSlot_224 (by decide) ?_
        refine lv_iload_n hx hb d_Md_controlSlot_226 rfl (lv_at hl 1 rfl) ?_
        refine lv_imul hx hb d_Md_controlSlot_227 ?_
        refine lv_iload hx hb d_Md_controlSlot_228 (lv_at hl 3 rfl) ?_
        refine lv_iadd hx hb d_Md_controlSlot_230 ?_
        refine lv_iconst (v := (1 : Int32)) hx hb d_Md_controlSlot_231 (by decide) ?_
        refine lv_iadd hx hb d_Md_controlSlot_232 ?_
        obtain ⟨j42, ej42, h_j42, h⟩ := h
        refine x_iald hx hb hK hP (32) 0 (Nat.le_of_ble_eq_true rfl) eM_says rfl ej42 h_j42 (by decide) d_Md_controlSlot_233 ?_
        obtain ⟨j43, ej43, h_j43, h⟩ := h
        refine x_iast hx hb hK hΘ hP hS (32) 0 (Nat.le_of_ble_eq_true rfl) eM_says rfl ej43 h_j43 (by decide) d_Md_controlSlot_234 (fun H locs hP hS => ?_)
        obtain ⟨I44, eI44⟩ : ∃ y, y = xu I (32) j43 (I (32) j42) := ⟨_, rfl⟩
        have hP : va_P D clA (xw 34 Θ (eM Θ κ) I44 J) H := by rw [eI44]; exact hP
        have h := h I44 eI44
        obtain ⟨x45, ex45⟩ : ∃ y : Int32, y = v5 + (1 : Int32) := ⟨_, rfl⟩
        have h := h x45 ex45
        refine lv_iinc (k := 3) (v := x45) hx hb d_Md_controlSlot_235 hl rfl (by rw [ex45]; rfl) (Nat.le_of_ble_eq_true rfl) (lv' := [(5, .int x45), (0, .ref (Θ (0))), (1, .int p1), (4, .int v4)]) rfl (fun ls hl => ?_)
        refine lv_goto hx hb d_Md_controlSlot_238 (tgt := 198) rfl ?_
        exact ih _ _ _ _ h _ _ _ (lv_sub hl [1, 2, 3, 0] rfl) hP hS
  have tJ288 : ∀ (k244 : Int32 → Int32 → SI → SJ → Prop), (∀ (v4 : Int32) (v5 : Int32) (I : SI) (J : SJ), k244 v4 v5 I J → ∀ (H : Heap) (locs : List Loc) (ls : Array Slot), lv_has ls 7 [(0, .ref (Θ (0))), (1, .int p1), (4, .int v4), (5, .int v5)] → va_P D clA (xw 34 Θ (eM Θ κ) I J) H → va_S (xA 34 Θ sz) s.heap H locs → W p l e (headSpec WS rm_Md_controlSlot).room s m args below meth c H locs 0 0 (MQ below (xQv D clA 34 Θ (eM Θ κ) sz post) args s 0 0 (xA 34 Θ sz)) (F0 m 244 ls [])) → ∀ (v4 : Int32) (v5 : Int32) (I : SI) (J : SJ), p_Md_controlSlot_288 p1 post k244 v4 v5 I J → ∀ (H : Heap) (locs : List Loc) (ls : Array Slot), lv_has ls 7 [(0, .ref (Θ (0))), (1, .int p1), (4, .int v4), (5, .int v5)] → va_P D clA (xw 34 Θ (eM Θ κ) I J) H → va_S (xA 34 Θ sz) s.heap H locs → W p l e (headSpec WS rm_Md_controlSlot).room s m args below meth c H locs 0 0 (MQ below (xQv D clA 34 Θ (eM Θ κ) sz post) args s 0 0 (xA 34 Θ sz)) (F0 m 288 ls []) := by
    intro k244 hk244 v4 v5 I J h H locs ls hl hP hS
    unfold p_Md_controlSlot_288 at h
    obtain ⟨x52, ex52⟩ : ∃ y : Int32, y = v5 + (1 : Int32) := ⟨_, rfl⟩
    have h := h x52 ex52
    refine lv_iinc (k := 3) (v := x52) hx hb d_Md_controlSlot_288 hl rfl (by rw [ex52]; rfl) (Nat.le_of_ble_eq_true rfl) (lv' := [(5, .int x52), (0, .ref (Θ (0))), (1, .int p1), (4, .int v4)]) rfl (fun ls hl => ?_)
    refine lv_goto hx hb d_Md_controlSlot_291 (tgt := 244) rfl ?_
    exact hk244 _ _ _ _ h _ _ _ (lv_sub hl [1, 2, 3, 0] rfl) hP hS
  have tL244 : ∀ (k294 : SI → SJ → Prop), (∀ (I : SI) (J : SJ), k294 I J → ∀ (H : Heap) (locs : List Loc) (ls : Array Slot), lv_has ls 7 [(0, .ref (Θ (0)))] → va_P D clA (xw 34 Θ (eM Θ κ) I J) H → va_S (xA 34 Θ sz) s.heap H locs → W p l e (headSpec WS rm_Md_controlSlot).room s m args below meth c H locs 0 0 (MQ below (xQv D clA 34 Θ (eM Θ κ) sz post) args s 0 0 (xA 34 Θ sz)) (F0 m 294 ls [])) → ∀ (n : Nat) (v4 : Int32) (v5 : Int32) (I : SI) (J : SJ), p_Md_controlSlot_L244 p1 post k294 n v4 v5 I J → ∀ (H : Heap) (locs : List Loc) (ls : Array Slot), lv_has ls 7 [(0, .ref (Θ (0))), (1, .int p1), (4, .int v4), (5, .int v5)] → va_P D clA (xw 34 Θ (eM Θ κ) I J) H → va_S (xA 34 Θ sz) s.heap H locs → W p l e (headSpec WS rm_Md_controlSlot).room s m args below meth c H locs 0 0 (MQ below (xQv D clA 34 Θ (eM Θ κ) sz post) args s 0 0 (xA 34 Θ sz)) (F0 m 244 ls []) := by
    intro k294 hk294 n
    induction n with
    | zero =>
      intro v4 v5 I J h H locs ls hl hP hS
      exact h.elim
    | succ n ih =>
      intro v4 v5 I J h H locs ls hl hP hS
      unfold p_Md_controlSlot_L244 at h
      refine lv_iload hx hb d_Md_controlSlot_244 (lv_at hl 3 rfl) ?_
      refine lv_bipush (v := (8 : Int32)) hx hb d_Md_controlSlot_246 (by decide) ?_
      refine lv_icmp_ge hx hb d_Md_controlSlot_248 (tgt := 294) rfl (fun hc60 => ?_) (fun hc60 => ?_)
      · have h := h.1 hc60
        exact hk294 _ _ h _ _ _ (lv_sub hl [0] rfl) hP hS
      · have h := h.2 hc60
        refine lv_aload_n hx hb d_Md_controlSlot_251 rfl (lv_at hl 0 rfl) ?_
        refine gfM_Md_27 C hP d_Md_controlSlot_252 ?_
        refine lv_iload hx hb d_Md_controlSlot_255 (lv_at hl 3 rfl) ?_
        obtain ⟨j51, ej51, h_j51, h⟩ := h
        refine x_iald hx hb hK hP (3) 0 (Nat.le_of_ble_eq_true rfl) eM_cellOf rfl ej51 h_j51 (by decide) d_Md_controlSlot_257 ?_
        refine lv_iload_n hx hb d_Md_controlSlot_258 rfl (lv_at hl 1 rfl) ?_
        refine lv_icmp_ne hx hb d_Md_controlSlot_259 (tgt := 288) rfl (fun hc59 => ?_) (fun hc59 => ?_)
        · have h := h.1 hc59
          exact tJ288 _ ih _ _ _ _ h _ _ _ (lv_sub hl [0, 1, 2, 3] rfl) hP hS
        · have h := h.2 hc59
          refine lv_aload_n hx hb d_Md_controlSlot_262 rfl (lv_at hl 0 rfl) ?_
          refine lv_iconst (v := (3 : Int32)) hx hb d_Md_controlSlot_263 (by decide) ?_
          refine lv_iload hx hb d_Md_controlSlot_264 (lv_at hl 3 rfl) ?_
          refine lv_iadd hx hb d_Md_controlSlot_266 ?_
          refine lv_iload hx hb d_Md_controlSlot_267 (lv_at hl 2 rfl) ?_
          refine lv_iload_n hx hb d_Md_controlSlot_269 rfl (lv_at hl 1 rfl) ?_
          refine x_gi (x_V C hP hS (Nat.le_of_ble_eq_true rfl) (eM_Md _ _) rfl (c_Md_gets l D κ hΘ sz ((3 : Int32) + v5) v4 p1 I J _ h) q_Md_gets k_970 sel_Md_gets k_968 rfl rfl ⟨Nat.le_of_ble_eq_true rfl, Nat.le_of_ble_eq_true rfl⟩ rfl hl.1 rfl (Nat.le_of_ble_eq_true rfl) d_Md_controlSlot_270) hS (fun r55 I53 J54 h H locs hP hS => ?_)
          refine lv_istore hx hb d_Md_controlSlot_273 hl (Nat.le_of_ble_eq_true rfl) (lv' := [(6, .int r55), (0, .ref (Θ (0))), (1, .int p1), (4, .int v4), (5, .int v5)]) rfl (fun ls hl => ?_)
          refine lv_iload hx hb d_Md_controlSlot_275 (lv_at hl 0 rfl) ?_
          refine lv_if_lt hx hb d_Md_controlSlot_277 (tgt := 288) rfl (fun hc58 => ?_) (fun hc58 => ?_)
          · have h := h.1 hc58
            exact tJ288 _ ih _ _ _ _ h _ _ _ (lv_sub hl [1, 2, 3, 4] rfl) hP hS
          · have h := h.2 hc58
            refine lv_aload_n hx hb d_Md_controlSlot_280 rfl (lv_at hl 1 rfl) ?_
            refine lv_iload hx hb d_Md_controlSlot_281 (lv_at hl 4 rfl) ?_
            refine lv_iload hx hb d_Md_controlSlot_283 (lv_at hl 0 rfl) ?_
            refine x_gv (x_V C hP hS (Nat.le_of_ble_eq_true rfl) (eM_Md _ _) rfl (c_Md_told l D κ hΘ sz v5 r55 I53 J54 _ h) q_Md_told k_1026 sel_Md_told k_1024 rfl rfl ⟨Nat.le_of_ble_eq_true rfl, Nat.le_of_ble_eq_true rfl⟩ rfl hl.1 rfl (Nat.le_of_ble_eq_true rfl) d_Md_controlSlot_285) hS (fun I56 J57 h H locs hP hS => ?_)
            exact tJ288 _ ih _ _ _ _ h _ _ _ (lv_sub hl [1, 2, 3, 4] rfl) hP hS
  have tJ161 : ∀ (I : SI) (J : SJ), p_Md_controlSlot_161 p1 post I J → ∀ (H : Heap) (locs : List Loc) (ls : Array Slot), lv_has ls 7 [(0, .ref (Θ (0))), (1, .int p1)] → va_P D clA (xw 34 Θ (eM Θ κ) I J) H → va_S (xA 34 Θ sz) s.heap H locs → W p l e (headSpec WS rm_Md_controlSlot).room s m args below meth c H locs 0 0 (MQ below (xQv D clA 34 Θ (eM Θ κ) sz post) args s 0 0 (xA 34 Θ sz)) (F0 m 161 ls []) := by
    intro I J h H locs ls hl hP hS
    unfold p_Md_controlSlot_161 at h
    refine lv_aload_n hx hb d_Md_controlSlot_161 rfl (lv_at hl 0 rfl) ?_
    refine gfM_Md_119 C hP d_Md_controlSlot_162 ?_
    refine lv_iload_n hx hb d_Md_controlSlot_165 rfl (lv_at hl 1 rfl) ?_
    obtain ⟨j24, ej24, h_j24, h⟩ := h
    refine x_iald hx hb hK hP (33) 0 (Nat.le_of_ble_eq_true rfl) eM_sayCount rfl ej24 h_j24 (by decide) d_Md_controlSlot_166 ?_
    refine lv_if_le hx hb d_Md_controlSlot_167 (tgt := 294) rfl (fun hc65 => ?_) (fun hc65 => ?_)
    · have h := h.1 hc65
      exact tJ294 _ _ h _ _ _ (lv_sub hl [0] rfl) hP hS
    · have h := h.2 hc65
      refine lv_aload_n hx hb d_Md_controlSlot_170 rfl (lv_at hl 0 rfl) ?_
      refine gfM_Md_116 C hP d_Md_controlSlot_171 ?_
      refine lv_bipush (v := (9 : Int32)) hx hb d_Md_controlSlot_174 (by decide) ?_
      refine lv_iload_n hx hb d_Md_controlSlot_176 rfl (lv_at hl 1 rfl) ?_
      refine lv_imul hx hb d_Md_controlSlot_177 ?_
      obtain ⟨j35, ej35, h_j35, h⟩ := h
      refine x_iald hx hb hK hP (32) 0 (Nat.le_of_ble_eq_true rfl) eM_says rfl ej35 h_j35 (by decide) d_Md_controlSlot_178 ?_
      refine lv_topi (fun x36 ex36 => ?_)
      have h := h x36 ex36
      refine lv_istore hx hb d_Md_controlSlot_179 hl (Nat.le_of_ble_eq_true rfl) (lv' := [(4, .int x36), (0, .ref (Θ (0))), (1, .int p1)]) rfl (fun ls hl => ?_)
      refine lv_aload_n hx hb d_Md_controlSlot_181 rfl (lv_at hl 1 rfl) ?_
      refine gfM_Md_119 C hP d_Md_controlSlot_182 ?_
      refine lv_iload_n hx hb d_Md_controlSlot_185 rfl (lv_at hl 2 rfl) ?_
      refine lv_aload_n hx hb d_Md_controlSlot_186 rfl (lv_at hl 1 rfl) ?_
      refine gfM_Md_119 C hP d_Md_controlSlot_187 ?_
      refine lv_iload_n hx hb d_Md_controlSlot_190 rfl (lv_at hl 2 rfl) ?_
      obtain ⟨j37, ej37, h_j37, h⟩ := h
      refine x_iald hx hb hK hP (33) 0 (Nat.le_of_ble_eq_true rfl) eM_sayCount rfl ej37 h_j37 (by decide) d_Md_controlSlot_191 ?_
      refine lv_iconst (v := (1 : Int32)) hx hb d_Md_controlSlot_192 (by decide) ?_
      refine lv_isub hx hb d_Md_controlSlot_193 ?_
      obtain ⟨j38, ej38, h_j38, h⟩ := h
      refine x_iast hx hb hK hΘ hP hS (33) 0 (Nat.le_of_ble_eq_true rfl) eM_sayCount rfl ej38 h_j38 (by decide) d_Md_controlSlot_194 (fun H locs hP hS => ?_)
      obtain ⟨I39, eI39⟩ : ∃ y, y = xu I (33) j38 ((I (33) j37) - (1 : Int32)) := ⟨_, rfl⟩
      have hP : va_P D clA (xw 34 Θ (eM Θ κ) I39 J) H := by rw [eI39]; exact hP
      have h := h I39 eI39
      refine lv_iconst (v := (0 : Int32)) hx hb d_Md_controlSlot_195 (by decide) ?_
      refine lv_topi (fun x40 ex40 => ?_)
      have h := h x40 ex40
      refine lv_istore hx hb d_Md_controlSlot_196 hl (Nat.le_of_ble_eq_true rfl) (lv' := [(5, .int x40), (4, .int x36), (0, .ref (Θ (0))), (1, .int p1)]) rfl (fun ls hl => ?_)
      obtain ⟨n64, h⟩ := h
      refine tL198 _ ?_ n64 _ _ _ _ h _ _ _ (lv_sub hl [2, 3, 1, 0] rfl) hP hS
      · intro z47 I48 J49 h H locs ls hl hP hS
        refine lv_iconst (v := (0 : Int32)) hx hb d_Md_controlSlot_241 (by decide) ?_
        refine lv_topi (fun x50 ex50 => ?_)
        have h := h x50 ex50
        refine lv_istore hx hb d_Md_controlSlot_242 hl (Nat.le_of_ble_eq_true rfl) (lv' := [(5, .int x50), (0, .ref (Θ (0))), (1, .int p1), (4, .int z47)]) rfl (fun ls hl => ?_)
        obtain ⟨n63, h⟩ := h
        refine tL244 _ ?_ n63 _ _ _ _ h _ _ _ (lv_sub hl [1, 2, 3, 0] rfl) hP hS
        · intro I61 J62 h H locs ls hl hP hS
          exact tJ294 _ _ h _ _ _ (lv_sub hl [0] rfl) hP hS
  have hE := lg_entry_eq m [.ref (Θ (0)), .int p1] 7
  rw [← hargs] at hE
  rw [hE]
  have hl := lv_entry [.ref (Θ (0)), .int p1] (n := 7) (Nat.le_of_ble_eq_true rfl)
  generalize (lg_sl [.ref (Θ (0)), .int p1] ++ List.replicate (7 - (lg_sl [.ref (Θ (0)), .int p1]).length) Slot.unset).toArray = ls at hl ⊢
  have hl : lv_has ls 7 [(0, .ref (Θ (0))), (1, .int p1)] := hl
  unfold p_Md_controlSlot at h
  refine lv_iconst (v := (0 : Int32)) hx hb d_Md_controlSlot_0 (by decide) ?_
  refine lv_topi (fun x1 ex1 => ?_)
  have h := h x1 ex1
  refine lv_istore_n hx hb d_Md_controlSlot_1 rfl hl (Nat.le_of_ble_eq_true rfl) (lv' := [(2, .int x1), (0, .ref (Θ (0))), (1, .int p1)]) rfl (fun ls hl => ?_)
  refine lv_iconst (v := (0 : Int32)) hx hb d_Md_controlSlot_2 (by decide) ?_
  refine lv_topi (fun x2 ex2 => ?_)
  have h := h x2 ex2
  refine lv_istore_n hx hb d_Md_controlSlot_3 rfl hl (Nat.le_of_ble_eq_true rfl) (lv' := [(3, .int x2), (2, .int x1), (0, .ref (Θ (0))), (1, .int p1)]) rfl (fun ls hl => ?_)
  refine lv_iconst (v := (0 : Int32)) hx hb d_Md_controlSlot_4 (by decide) ?_
  refine lv_topi (fun x3 ex3 => ?_)
  have h := h x3 ex3
  refine lv_istore hx hb d_Md_controlSlot_5 hl (Nat.le_of_ble_eq_true rfl) (lv' := [(4, .int x3), (3, .int x2), (2, .int x1), (0, .ref (Θ (0))), (1, .int p1)]) rfl (fun ls hl => ?_)
  obtain ⟨n83, h⟩ := h
  refine tL7 _ ?_ n83 _ _ _ _ _ h _ _ _ (lv_sub hl [3, 4, 2, 1, 0] rfl) hP hS
  · intro z20 z21 I22 J23 h H locs ls hl hP hS
    refine lv_iload_n hx hb d_Md_controlSlot_92 rfl (lv_at hl 2 rfl) ?_
    refine lv_iconst (v := (1 : Int32)) hx hb d_Md_controlSlot_93 (by decide) ?_
    refine lv_icmp_ne hx hb d_Md_controlSlot_94 (tgt := 161) rfl (fun hc82 => ?_) (fun hc82 => ?_)
    · have h := h.1 hc82
      exact tJ161 _ _ h _ _ _ (lv_sub hl [0, 1] rfl) hP hS
    · have h := h.2 hc82
      refine lv_aload_n hx hb d_Md_controlSlot_97 rfl (lv_at hl 0 rfl) ?_
      refine lv_iload_n hx hb d_Md_controlSlot_98 rfl (lv_at hl 1 rfl) ?_
      refine lv_aload_n hx hb d_Md_controlSlot_99 rfl (lv_at hl 0 rfl) ?_
      refine lv_iload_n hx hb d_Md_controlSlot_100 rfl (lv_at hl 3 rfl) ?_
      refine x_gi (x_V C hP hS (Nat.le_of_ble_eq_true rfl) (eM_Md _ _) rfl (c_Md_message l D κ hΘ sz z21 I22 J23 _ h) q_Md_message k_958 sel_Md_message k_956 rfl rfl ⟨Nat.le_of_ble_eq_true rfl, Nat.le_of_ble_eq_true rfl⟩ rfl hl.1 rfl (Nat.le_of_ble_eq_true rfl) d_Md_controlSlot_101) hS (fun r68 I66 J67 h H locs hP hS => ?_)
      refine lv_iload_n hx hb d_Md_controlSlot_104 rfl (lv_at hl 1 rfl) ?_
      refine x_gi (x_V C hP hS (Nat.le_of_ble_eq_true rfl) (eM_Md _ _) rfl (c_Md_gets l D κ hΘ sz p1 r68 p1 I66 J67 _ h) q_Md_gets k_970 sel_Md_gets k_968 rfl rfl ⟨Nat.le_of_ble_eq_true rfl, Nat.le_of_ble_eq_true rfl⟩ rfl hl.1 rfl (Nat.le_of_ble_eq_true rfl) d_Md_controlSlot_105) hS (fun r71 I69 J70 h H locs hP hS => ?_)
      refine lv_istore hx hb d_Md_controlSlot_108 hl (Nat.le_of_ble_eq_true rfl) (lv' := [(4, .int r71), (0, .ref (Θ (0))), (1, .int p1), (2, .int z20), (3, .int z21)]) rfl (fun ls hl => ?_)
      refine lv_iload hx hb d_Md_controlSlot_110 (lv_at hl 0 rfl) ?_
      refine lv_if_lt hx hb d_Md_controlSlot_112 (tgt := 161) rfl (fun hc81 => ?_) (fun hc81 => ?_)
      · have h := h.1 hc81
        exact tJ161 _ _ h _ _ _ (lv_sub hl [1, 2] rfl) hP hS
      · have h := h.2 hc81
        refine lv_iload hx hb d_Md_controlSlot_115 (lv_at hl 0 rfl) ?_
        refine lv_bipush (v := (16 : Int32)) hx hb d_Md_controlSlot_117 (by decide) ?_
        refine lv_ishr hx hb d_Md_controlSlot_119 ?_
        refine lv_iconst (v := (1 : Int32)) hx hb d_Md_controlSlot_120 (by decide) ?_
        refine lv_icmp_lt hx hb d_Md_controlSlot_121 (tgt := 161) rfl (fun hc80 => ?_) (fun hc80 => ?_)
        · have h := h.1 hc80
          exact tJ161 _ _ h _ _ _ (lv_sub hl [1, 2] rfl) hP hS
        · have h := h.2 hc80
          refine lv_iload hx hb d_Md_controlSlot_124 (lv_at hl 0 rfl) ?_
          refine lv_bipush (v := (16 : Int32)) hx hb d_Md_controlSlot_126 (by decide) ?_
          refine lv_ishr hx hb d_Md_controlSlot_128 ?_
          refine lv_iconst (v := (3 : Int32)) hx hb d_Md_controlSlot_129 (by decide) ?_
          refine lv_icmp_gt hx hb d_Md_controlSlot_130 (tgt := 161) rfl (fun hc79 => ?_) (fun hc79 => ?_)
          · have h := h.1 hc79
            exact tJ161 _ _ h _ _ _ (lv_sub hl [1, 2] rfl) hP hS
          · have h := h.2 hc79
            refine lv_aload_n hx hb d_Md_controlSlot_133 rfl (lv_at hl 1 rfl) ?_
            refine lv_iload_n hx hb d_Md_controlSlot_134 rfl (lv_at hl 2 rfl) ?_
            refine lv_bipush (v := (8 : Int32)) hx hb d_Md_controlSlot_135 (by decide) ?_
            refine lv_iload hx hb d_Md_controlSlot_137 (lv_at hl 0 rfl) ?_
            refine lv_bipush (v := (13 : Int32)) hx hb d_Md_controlSlot_139 (by decide) ?_
            refine lv_ishr hx hb d_Md_controlSlot_141 ?_
            refine lv_bipush (v := (7 : Int32)) hx hb d_Md_controlSlot_142 (by decide) ?_
            refine lv_iand hx hb d_Md_controlSlot_144 ?_
            refine lv_iconst (v := (0 : Int32)) hx hb d_Md_controlSlot_145 (by decide) ?_
            refine lv_iconst (v := (0 : Int32)) hx hb d_Md_controlSlot_146 (by decide) ?_
            refine lv_iconst (v := (0 : Int32)) hx hb d_Md_controlSlot_147 (by decide) ?_
            refine x_gi (x_S C hP hS (c_Md_control l D κ hΘ sz (8 : Int32) ((xsr r71 (13 : Int32)) &&& (7 : Int32)) (0 : Int32) (0 : Int32) (0 : Int32) I69 J70 _ h) q_Md_control k_966 k_965 rfl rfl ⟨Nat.le_of_ble_eq_true rfl, Nat.le_of_ble_eq_true rfl⟩ rfl hl.1 rfl (Nat.le_of_ble_eq_true rfl) d_Md_controlSlot_148) hS (fun r74 I72 J73 h H locs hP hS => ?_)
            refine x_gv (x_V C hP hS (Nat.le_of_ble_eq_true rfl) (eM_Md _ _) rfl (c_Md_sayFirst l D κ hΘ sz p1 r74 I72 J73 _ h) q_Md_sayFirst k_998 sel_Md_sayFirst k_996 rfl rfl ⟨Nat.le_of_ble_eq_true rfl, Nat.le_of_ble_eq_true rfl⟩ rfl hl.1 rfl (Nat.le_of_ble_eq_true rfl) d_Md_controlSlot_151) hS (fun I75 J76 h H locs hP hS => ?_)
            refine lv_aload_n hx hb d_Md_controlSlot_154 rfl (lv_at hl 1 rfl) ?_
            refine lv_iload_n hx hb d_Md_controlSlot_155 rfl (lv_at hl 2 rfl) ?_
            refine lv_iload hx hb d_Md_controlSlot_156 (lv_at hl 0 rfl) ?_
            refine x_gv (x_V C hP hS (Nat.le_of_ble_eq_true rfl) (eM_Md _ _) rfl (c_Md_switched l D κ hΘ sz p1 r71 I75 J76 _ h) q_Md_switched k_1002 sel_Md_switched k_1000 rfl rfl ⟨Nat.le_of_ble_eq_true rfl, Nat.le_of_ble_eq_true rfl⟩ rfl hl.1 rfl (Nat.le_of_ble_eq_true rfl) d_Md_controlSlot_158) hS (fun I77 J78 h H locs hP hS => ?_)
            exact tJ161 _ _ h _ _ _ (lv_sub hl [1, 2] rfl) hP hS
set_option maxHeartbeats 4000000 in
set_option maxRecDepth 100000 in
theorem c_Md_trafficSlot (l : Launch) (D : va_G) (κ : Nat → ClassId) {Θ : Nat → Nat} (hΘ : xJ 34 Θ) (sz : Nat) (p1 : Int32) (I : SI) (J : SJ) (post : SI → SJ → Prop) (h : p_Md_trafficSlot p1 post I J) : Met l y_Md_trafficSlot WS rm_Md_trafficSlot (va_Pc [.ref (Θ (0)), .int p1] (xPR D clA (tysA κ) 34 Θ (eM Θ κ) sz I J)) (xQv D clA 34 Θ (eM Θ κ) sz post) 0 0 (xA 34 Θ sz) := by
  refine xMet (cc := b_Md_trafficSlot) (maxL := 9) (ret := none) (by decide) q_Md_trafficSlot.1 ?_
  intro p e s m args below meth c s₁ B hml hv
  obtain ⟨hargs, hsz, hP, hK, hN, hG⟩ := hv
  have hx := B.exec
  have hb := B.bytes
  have hr := B.returns
  have hlocks := B.notSynchronized
  have hts := atoms_spec (ws := WS) B.pre
  have hown : s.vm.findClass R_Md = some m.cls := findClass_of_methodNamed B.named
  have C : xC p m c b_Md_trafficSlot 9 s args R_Md D clA (tysA κ) 34 Θ sz := ⟨⟨hx, hb, hml, hown, hts⟩, hK, hN, hG, hsz⟩
  have hS : va_S (xA 34 Θ sz) s.heap s.heap [] := va_S.rf
  have tJ28 : ∀ (k2 : Int32 → SI → SJ → Prop), (∀ (v2 : Int32) (I : SI) (J : SJ), k2 v2 I J → ∀ (H : Heap) (locs : List Loc) (ls : Array Slot), lv_has ls 9 [(0, .ref (Θ (0))), (1, .int p1), (2, .int v2)] → va_P D clA (xw 34 Θ (eM Θ κ) I J) H → va_S (xA 34 Θ sz) s.heap H locs → W p l e (headSpec WS rm_Md_trafficSlot).room s m args below meth c H locs 0 0 (MQ below (xQv D clA 34 Θ (eM Θ κ) sz post) args s 0 0 (xA 34 Θ sz)) (F0 m 2 ls [])) → ∀ (v2 : Int32) (I : SI) (J : SJ), p_Md_trafficSlot_28 p1 post k2 v2 I J → ∀ (H : Heap) (locs : List Loc) (ls : Array Slot), lv_has ls 9 [(0, .ref (Θ (0))), (1, .int p1), (2, .int v2)] → va_P D clA (xw 34 Θ (eM Θ κ) I J) H → va_S (xA 34 Θ sz) s.heap H locs → W p l e (headSpec WS rm_Md_trafficSlot).room s m args below meth c H locs 0 0 (MQ below (xQv D clA 34 Θ (eM Θ κ) sz post) args s 0 0 (xA 34 Θ sz)) (F0 m 28 ls []) := by
    intro k2 hk2 v2 I J h H locs ls hl hP hS
    unfold p_Md_trafficSlot_28 at h
    obtain ⟨x3, ex3⟩ : ∃ y : Int32, y = v2 + (1 : Int32) := ⟨_, rfl⟩
    have h := h x3 ex3
    refine lv_iinc (k := 2) (v := x3) hx hb d_Md_trafficSlot_28 hl rfl (by rw [ex3]; rfl) (Nat.le_of_ble_eq_true rfl) (lv' := [(2, .int x3), (0, .ref (Θ (0))), (1, .int p1)]) rfl (fun ls hl => ?_)
    refine lv_goto hx hb d_Md_trafficSlot_31 (tgt := 2) rfl ?_
    exact hk2 _ _ _ h _ _ _ (lv_sub hl [1, 2, 0] rfl) hP hS
  have tL2 : ∀ (k34 : Int32 → SI → SJ → Prop), (∀ (v2 : Int32) (I : SI) (J : SJ), k34 v2 I J → ∀ (H : Heap) (locs : List Loc) (ls : Array Slot), lv_has ls 9 [(0, .ref (Θ (0))), (1, .int p1), (2, .int v2)] → va_P D clA (xw 34 Θ (eM Θ κ) I J) H → va_S (xA 34 Θ sz) s.heap H locs → W p l e (headSpec WS rm_Md_trafficSlot).room s m args below meth c H locs 0 0 (MQ below (xQv D clA 34 Θ (eM Θ κ) sz post) args s 0 0 (xA 34 Θ sz)) (F0 m 34 ls [])) → ∀ (n : Nat) (v2 : Int32) (I : SI) (J : SJ), p_Md_trafficSlot_L2 p1 post k34 n v2 I J → ∀ (H : Heap) (locs : List Loc) (ls : Array Slot), lv_has ls 9 [(0, .ref (Θ (0))), (1, .int p1), (2, .int v2)] → va_P D clA (xw 34 Θ (eM Θ κ) I J) H → va_S (xA 34 Θ sz) s.heap H locs → W p l e (headSpec WS rm_Md_trafficSlot).room s m args below meth c H locs 0 0 (MQ below (xQv D clA 34 Θ (eM Θ κ) sz post) args s 0 0 (xA 34 Θ sz)) (F0 m 2 ls []) := by
    intro k34 hk34 n
    induction n with
    | zero =>
      intro v2 I J h H locs ls hl hP hS
      exact h.elim
    | succ n ih =>
      intro v2 I J h H locs ls hl hP hS
      unfold p_Md_trafficSlot_L2 at h
      refine lv_iload_n hx hb d_Md_trafficSlot_2 rfl (lv_at hl 2 rfl) ?_
      refine lv_bipush (v := (8 : Int32)) hx hb d_Md_trafficSlot_3 (by decide) ?_
      refine lv_icmp_ge hx hb d_Md_trafficSlot_5 (tgt := 34) rfl (fun hc7 => ?_) (fun hc7 => ?_)
      · have h := h.1 hc7
        exact hk34 _ _ _ h _ _ _ (lv_sub hl [0, 1, 2] rfl) hP hS
      · have h := h.2 hc7
        refine lv_aload_n hx hb d_Md_trafficSlot_8 rfl (lv_at hl 0 rfl) ?_
        refine gfM_Md_58 C hP d_Md_trafficSlot_9 ?_
        refine lv_iload_n hx hb d_Md_trafficSlot_12 rfl (lv_at hl 2 rfl) ?_
        obtain ⟨j2, ej2, h_j2, h⟩ := h
        refine x_iald hx hb hK hP (13) 0 (Nat.le_of_ble_eq_true rfl) eM_doing rfl ej2 h_j2 (by decide) d_Md_trafficSlot_13 ?_
        refine lv_iconst (v := (1 : Int32)) hx hb d_Md_trafficSlot_14 (by decide) ?_
        refine lv_icmp_ne hx hb d_Md_trafficSlot_15 (tgt := 28) rfl (fun hc6 => ?_) (fun hc6 => ?_)
        · have h := h.1 hc6
          exact tJ28 _ ih _ _ _ h _ _ _ (lv_sub hl [0, 1, 2] rfl) hP hS
        · have h := h.2 hc6
          refine lv_aload_n hx hb d_Md_trafficSlot_18 rfl (lv_at hl 0 rfl) ?_
          refine gfM_Md_61 C hP d_Md_trafficSlot_19 ?_
          refine lv_iload_n hx hb d_Md_trafficSlot_22 rfl (lv_at hl 2 rfl) ?_
          obtain ⟨j4, ej4, h_j4, h⟩ := h
          refine x_iald hx hb hK hP (14) 0 (Nat.le_of_ble_eq_true rfl) eM_channel rfl ej4 h_j4 (by decide) d_Md_trafficSlot_23 ?_
          refine lv_iload_n hx hb d_Md_trafficSlot_24 rfl (lv_at hl 1 rfl) ?_
          refine lv_icmp_eq hx hb d_Md_trafficSlot_25 (tgt := 34) rfl (fun hc5 => ?_) (fun hc5 => ?_)
          · have h := h.1 hc5
            exact hk34 _ _ _ h _ _ _ (lv_sub hl [0, 1, 2] rfl) hP hS
          · have h := h.2 hc5
            exact tJ28 _ ih _ _ _ h _ _ _ (lv_sub hl [0, 1, 2] rfl) hP hS
  have tL117 : ∀ (k140 : Int32 → Int32 → SI → SJ → Prop), (∀ (v5 : Int32) (v6 : Int32) (I : SI) (J : SJ), k140 v5 v6 I J → ∀ (H : Heap) (locs : List Loc) (ls : Array Slot), lv_has ls 9 [(0, .ref (Θ (0))), (1, .int p1), (5, .int v5), (6, .int v6)] → va_P D clA (xw 34 Θ (eM Θ κ) I J) H → va_S (xA 34 Θ sz) s.heap H locs → W p l e (headSpec WS rm_Md_trafficSlot).room s m args below meth c H locs 0 0 (MQ below (xQv D clA 34 Θ (eM Θ κ) sz post) args s 0 0 (xA 34 Θ sz)) (F0 m 140 ls [])) → ∀ (n : Nat) (v5 : Int32) (v6 : Int32) (I : SI) (J : SJ), p_Md_trafficSlot_L117 p1 post k140 n v5 v6 I J → ∀ (H : Heap) (locs : List Loc) (ls : Array Slot), lv_has ls 9 [(0, .ref (Θ (0))), (1, .int p1), (5, .int v5), (6, .int v6)] → va_P D clA (xw 34 Θ (eM Θ κ) I J) H → va_S (xA 34 Θ sz) s.heap H locs → W p l e (headSpec WS rm_Md_trafficSlot).room s m args below meth c H locs 0 0 (MQ below (xQv D clA 34 Θ (eM Θ κ) sz post) args s 0 0 (xA 34 Θ sz)) (F0 m 117 ls []) := by
    intro k140 hk140 n
    induction n with
    | zero =>
      intro v5 v6 I J h H locs ls hl hP hS
      exact h.elim
    | succ n ih =>
      intro v5 v6 I J h H locs ls hl hP hS
      unfold p_Md_trafficSlot_L117 at h
      refine lv_iload hx hb d_Md_trafficSlot_117 (lv_at hl 3 rfl) ?_
      refine lv_iconst (v := (4 : Int32)) hx hb d_Md_trafficSlot_119 (by decide) ?_
      refine lv_icmp_ge hx hb d_Md_trafficSlot_120 (tgt := 140) rfl (fun hc29 => ?_) (fun hc29 => ?_)
      · have h := h.1 hc29
        exact hk140 _ _ _ _ h _ _ _ (lv_sub hl [0, 1, 2, 3] rfl) hP hS
      · have h := h.2 hc29
        refine lv_aload_n hx hb d_Md_trafficSlot_123 rfl (lv_at hl 0 rfl) ?_
        refine gfM_Md_101 C hP d_Md_trafficSlot_124 ?_
        refine lv_iload hx hb d_Md_trafficSlot_127 (lv_at hl 3 rfl) ?_
        obtain ⟨j26, ej26, h_j26, h⟩ := h
        refine x_iald hx hb hK hP (27) 0 (Nat.le_of_ble_eq_true rfl) eM_callChannel rfl ej26 h_j26 (by decide) d_Md_trafficSlot_129 ?_
        refine lv_iload_n hx hb d_Md_trafficSlot_130 rfl (lv_at hl 1 rfl) ?_
        refine lv_icmp_eq hx hb d_Md_trafficSlot_131 (tgt := 140) rfl (fun hc28 => ?_) (fun hc28 => ?_)
        · have h := h.1 hc28
          exact hk140 _ _ _ _ h _ _ _ (lv_sub hl [0, 1, 2, 3] rfl) hP hS
        · have h := h.2 hc28
          obtain ⟨x27, ex27⟩ : ∃ y : Int32, y = v6 + (1 : Int32) := ⟨_, rfl⟩
          have h := h x27 ex27
          refine lv_iinc (k := 3) (v := x27) hx hb d_Md_trafficSlot_134 hl rfl (by rw [ex27]; rfl) (Nat.le_of_ble_eq_true rfl) (lv' := [(6, .int x27), (0, .ref (Θ (0))), (1, .int p1), (5, .int v5)]) rfl (fun ls hl => ?_)
          refine lv_goto hx hb d_Md_trafficSlot_137 (tgt := 117) rfl ?_
          exact ih _ _ _ _ h _ _ _ (lv_sub hl [1, 2, 3, 0] rfl) hP hS
  have tJ272 : ∀ (k169 : Int32 → Int32 → SI → SJ → Prop), (∀ (v5 : Int32) (v7 : Int32) (I : SI) (J : SJ), k169 v5 v7 I J → ∀ (H : Heap) (locs : List Loc) (ls : Array Slot), lv_has ls 9 [(0, .ref (Θ (0))), (1, .int p1), (5, .int v5), (7, .int v7)] → va_P D clA (xw 34 Θ (eM Θ κ) I J) H → va_S (xA 34 Θ sz) s.heap H locs → W p l e (headSpec WS rm_Md_trafficSlot).room s m args below meth c H locs 0 0 (MQ below (xQv D clA 34 Θ (eM Θ κ) sz post) args s 0 0 (xA 34 Θ sz)) (F0 m 169 ls [])) → ∀ (v5 : Int32) (v7 : Int32) (I : SI) (J : SJ), p_Md_trafficSlot_272 p1 post k169 v5 v7 I J → ∀ (H : Heap) (locs : List Loc) (ls : Array Slot), lv_has ls 9 [(0, .ref (Θ (0))), (1, .int p1), (5, .int v5), (7, .int v7)] → va_P D clA (xw 34 Θ (eM Θ κ) I J) H → va_S (xA 34 Θ sz) s.heap H locs → W p l e (headSpec WS rm_Md_trafficSlot).room s m args below meth c H locs 0 0 (MQ below (xQv D clA 34 Θ (eM Θ κ) sz post) args s 0 0 (xA 34 Θ sz)) (F0 m 272 ls []) := by
    intro k169 hk169 v5 v7 I J h H locs ls hl hP hS
    unfold p_Md_trafficSlot_272 at h
    obtain ⟨x36, ex36⟩ : ∃ y : Int32, y = v7 + (1 : Int32) := ⟨_, rfl⟩
    have h := h x36 ex36
    refine lv_iinc (k := 3) (v := x36) hx hb d_Md_trafficSlot_272 hl rfl (by rw [ex36]; rfl) (Nat.le_of_ble_eq_true rfl) (lv' := [(7, .int x36), (0, .ref (Θ (0))), (1, .int p1), (5, .int v5)]) rfl (fun ls hl => ?_)
    refine lv_goto hx hb d_Md_trafficSlot_275 (tgt := 169) rfl ?_
    exact hk169 _ _ _ _ h _ _ _ (lv_sub hl [1, 2, 3, 0] rfl) hP hS
  have tL169 : ∀ (n : Nat) (v5 : Int32) (v7 : Int32) (I : SI) (J : SJ), p_Md_trafficSlot_L169 p1 post n v5 v7 I J → ∀ (H : Heap) (locs : List Loc) (ls : Array Slot), lv_has ls 9 [(0, .ref (Θ (0))), (1, .int p1), (5, .int v5), (7, .int v7)] → va_P D clA (xw 34 Θ (eM Θ κ) I J) H → va_S (xA 34 Θ sz) s.heap H locs → W p l e (headSpec WS rm_Md_trafficSlot).room s m args below meth c H locs 0 0 (MQ below (xQv D clA 34 Θ (eM Θ κ) sz post) args s 0 0 (xA 34 Θ sz)) (F0 m 169 ls []) := by
    intro n
    induction n with
    | zero =>
      intro v5 v7 I J h H locs ls hl hP hS
      exact h.elim
    | succ n ih =>
      intro v5 v7 I J h H locs ls hl hP hS
      unfold p_Md_trafficSlot_L169 at h
      refine lv_iload hx hb d_Md_trafficSlot_169 (lv_at hl 3 rfl) ?_
      refine lv_bipush (v := (8 : Int32)) hx hb d_Md_trafficSlot_171 (by decide) ?_
      refine lv_icmp_ge hx hb d_Md_trafficSlot_173 (tgt := 278) rfl (fun hc55 => ?_) (fun hc55 => ?_)
      · have h := h.1 hc55
        exact x_vret hx hb hr hlocks hP hS h d_Md_trafficSlot_278
      · have h := h.2 hc55
        refine lv_aload_n hx hb d_Md_trafficSlot_176 rfl (lv_at hl 0 rfl) ?_
        refine gfM_Md_58 C hP d_Md_trafficSlot_177 ?_
        refine lv_iload hx hb d_Md_trafficSlot_180 (lv_at hl 3 rfl) ?_
        obtain ⟨j35, ej35, h_j35, h⟩ := h
        refine x_iald hx hb hK hP (13) 0 (Nat.le_of_ble_eq_true rfl) eM_doing rfl ej35 h_j35 (by decide) d_Md_trafficSlot_182 ?_
        refine lv_iconst (v := (2 : Int32)) hx hb d_Md_trafficSlot_183 (by decide) ?_
        refine lv_icmp_ne hx hb d_Md_trafficSlot_184 (tgt := 272) rfl (fun hc54 => ?_) (fun hc54 => ?_)
        · have h := h.1 hc54
          exact tJ272 _ ih _ _ _ _ h _ _ _ (lv_sub hl [0, 1, 2, 3] rfl) hP hS
        · have h := h.2 hc54
          refine lv_aload_n hx hb d_Md_trafficSlot_187 rfl (lv_at hl 0 rfl) ?_
          refine gfM_Md_61 C hP d_Md_trafficSlot_188 ?_
          refine lv_iload hx hb d_Md_trafficSlot_191 (lv_at hl 3 rfl) ?_
          obtain ⟨j37, ej37, h_j37, h⟩ := h
          refine x_iald hx hb hK hP (14) 0 (Nat.le_of_ble_eq_true rfl) eM_channel rfl ej37 h_j37 (by decide) d_Md_trafficSlot_193 ?_
          refine lv_iload_n hx hb d_Md_trafficSlot_194 rfl (lv_at hl 1 rfl) ?_
          refine lv_icmp_ne hx hb d_Md_trafficSlot_195 (tgt := 272) rfl (fun hc53 => ?_) (fun hc53 => ?_)
          · have h := h.1 hc53
            exact tJ272 _ ih _ _ _ _ h _ _ _ (lv_sub hl [0, 1, 2, 3] rfl) hP hS
          · have h := h.2 hc53
            refine lv_aload_n hx hb d_Md_trafficSlot_198 rfl (lv_at hl 0 rfl) ?_
            refine lv_iconst (v := (3 : Int32)) hx hb d_Md_trafficSlot_199 (by decide) ?_
            refine lv_iload hx hb d_Md_trafficSlot_200 (lv_at hl 3 rfl) ?_
            refine lv_iadd hx hb d_Md_trafficSlot_202 ?_
            refine lv_iload hx hb d_Md_trafficSlot_203 (lv_at hl 2 rfl) ?_
            refine lv_aload_n hx hb d_Md_trafficSlot_205 rfl (lv_at hl 0 rfl) ?_
            refine gfM_Md_27 C hP d_Md_trafficSlot_206 ?_
            refine lv_iload hx hb d_Md_trafficSlot_209 (lv_at hl 3 rfl) ?_
            obtain ⟨j38, ej38, h_j38, h⟩ := h
            refine x_iald hx hb hK hP (3) 0 (Nat.le_of_ble_eq_true rfl) eM_cellOf rfl ej38 h_j38 (by decide) d_Md_trafficSlot_211 ?_
            refine x_gi (x_V C hP hS (Nat.le_of_ble_eq_true rfl) (eM_Md _ _) rfl (c_Md_gets l D κ hΘ sz ((3 : Int32) + v7) v5 (I (3) j38) I J _ h) q_Md_gets k_970 sel_Md_gets k_968 rfl rfl ⟨Nat.le_of_ble_eq_true rfl, Nat.le_of_ble_eq_true rfl⟩ rfl hl.1 rfl (Nat.le_of_ble_eq_true rfl) d_Md_trafficSlot_212) hS (fun r41 I39 J40 h H locs hP hS => ?_)
            refine lv_istore hx hb d_Md_trafficSlot_215 hl (Nat.le_of_ble_eq_true rfl) (lv' := [(8, .int r41), (0, .ref (Θ (0))), (1, .int p1), (5, .int v5), (7, .int v7)]) rfl (fun ls hl => ?_)
            refine lv_iload hx hb d_Md_trafficSlot_217 (lv_at hl 0 rfl) ?_
            refine lv_if_lt hx hb d_Md_trafficSlot_219 (tgt := 272) rfl (fun hc52 => ?_) (fun hc52 => ?_)
            · have h := h.1 hc52
              exact tJ272 _ ih _ _ _ _ h _ _ _ (lv_sub hl [1, 2, 3, 4] rfl) hP hS
            · have h := h.2 hc52
              refine lv_aload_n hx hb d_Md_trafficSlot_222 rfl (lv_at hl 1 rfl) ?_
              refine gfM_Md_79 C hP d_Md_trafficSlot_223 ?_
              refine lv_iload hx hb d_Md_trafficSlot_226 (lv_at hl 4 rfl) ?_
              refine lv_aload_n hx hb d_Md_trafficSlot_228 rfl (lv_at hl 1 rfl) ?_
              refine gfM_Md_79 C hP d_Md_trafficSlot_229 ?_
              refine lv_iload hx hb d_Md_trafficSlot_232 (lv_at hl 4 rfl) ?_
              obtain ⟨j42, ej42, h_j42, h⟩ := h
              refine x_iald hx hb hK hP (20) 0 (Nat.le_of_ble_eq_true rfl) eM_heard rfl ej42 h_j42 (by decide) d_Md_trafficSlot_234 ?_
              refine lv_iconst (v := (1 : Int32)) hx hb d_Md_trafficSlot_235 (by decide) ?_
              refine lv_iadd hx hb d_Md_trafficSlot_236 ?_
              obtain ⟨j43, ej43, h_j43, h⟩ := h
              refine x_iast hx hb hK hΘ hP hS (20) 0 (Nat.le_of_ble_eq_true rfl) eM_heard rfl ej43 h_j43 (by decide) d_Md_trafficSlot_237 (fun H locs hP hS => ?_)
              obtain ⟨I44, eI44⟩ : ∃ y, y = xu I39 (20) j43 ((I39 (20) j42) + (1 : Int32)) := ⟨_, rfl⟩
              have hP : va_P D clA (xw 34 Θ (eM Θ κ) I44 J40) H := by rw [eI44]; exact hP
              have h := h I44 eI44
              refine lv_aload_n hx hb d_Md_trafficSlot_238 rfl (lv_at hl 1 rfl) ?_
              refine gfM_Md_82 C hP d_Md_trafficSlot_239 ?_
              refine lv_iload hx hb d_Md_trafficSlot_242 (lv_at hl 4 rfl) ?_
              refine lv_iload hx hb d_Md_trafficSlot_244 (lv_at hl 0 rfl) ?_
              refine lv_aload_n hx hb d_Md_trafficSlot_246 rfl (lv_at hl 1 rfl) ?_
              refine gfM_Md_98 C hP d_Md_trafficSlot_247 ?_
              refine lv_aload_n hx hb d_Md_trafficSlot_250 rfl (lv_at hl 1 rfl) ?_
              refine gfM_Md_64 C hP d_Md_trafficSlot_251 ?_
              refine lv_iload hx hb d_Md_trafficSlot_254 (lv_at hl 4 rfl) ?_
              obtain ⟨j45, ej45, h_j45, h⟩ := h
              refine x_iald hx hb hK hP (15) 0 (Nat.le_of_ble_eq_true rfl) eM_inCall rfl ej45 h_j45 (by decide) d_Md_trafficSlot_256 ?_
              obtain ⟨j46, ej46, h_j46, h⟩ := h
              refine x_iald hx hb hK hP (26) 0 (Nat.le_of_ble_eq_true rfl) eM_groupKey rfl ej46 h_j46 (by decide) d_Md_trafficSlot_257 ?_
              refine lv_aload_n hx hb d_Md_trafficSlot_258 rfl (lv_at hl 1 rfl) ?_
              refine gfM_Md_122 C hP d_Md_trafficSlot_259 ?_
              refine lv_iconst (v := (4 : Int32)) hx hb d_Md_trafficSlot_262 (by decide) ?_
              refine lv_idiv hx hb d_Md_trafficSlot_263 (by decide) ?_
              refine x_gi (x_S C hP hS (c_Md_mix l D κ hΘ sz (I44 (26) j46) ((I44 0 36) / (4 : Int32)) I44 J40 _ h) q_Md_mix k_961 k_960 rfl rfl ⟨Nat.le_of_ble_eq_true rfl, Nat.le_of_ble_eq_true rfl⟩ rfl hl.1 rfl (Nat.le_of_ble_eq_true rfl) d_Md_trafficSlot_264) hS (fun r49 I47 J48 h H locs hP hS => ?_)
              refine lv_ixor hx hb d_Md_trafficSlot_267 ?_
              refine lv_ldc (v := (524287 : Int32)) hx hb hown (hts _ k_933) d_Md_trafficSlot_268 ?_
              refine lv_iand hx hb d_Md_trafficSlot_270 ?_
              obtain ⟨j50, ej50, h_j50, h⟩ := h
              refine x_iast hx hb hK hΘ hP hS (21) 0 (Nat.le_of_ble_eq_true rfl) eM_heardLast rfl ej50 h_j50 (by decide) d_Md_trafficSlot_271 (fun H locs hP hS => ?_)
              obtain ⟨I51, eI51⟩ : ∃ y, y = xu I47 (21) j50 ((r41 ^^^ r49) &&& (524287 : Int32)) := ⟨_, rfl⟩
              have hP : va_P D clA (xw 34 Θ (eM Θ κ) I51 J48) H := by rw [eI51]; exact hP
              have h := h I51 eI51
              exact tJ272 _ ih _ _ _ _ h _ _ _ (lv_sub hl [1, 2, 3, 4] rfl) hP hS
  have tJ140 : ∀ (v5 : Int32) (v6 : Int32) (I : SI) (J : SJ), p_Md_trafficSlot_140 p1 post v5 v6 I J → ∀ (H : Heap) (locs : List Loc) (ls : Array Slot), lv_has ls 9 [(0, .ref (Θ (0))), (1, .int p1), (5, .int v5), (6, .int v6)] → va_P D clA (xw 34 Θ (eM Θ κ) I J) H → va_S (xA 34 Θ sz) s.heap H locs → W p l e (headSpec WS rm_Md_trafficSlot).room s m args below meth c H locs 0 0 (MQ below (xQv D clA 34 Θ (eM Θ κ) sz post) args s 0 0 (xA 34 Θ sz)) (F0 m 140 ls []) := by
    intro v5 v6 I J h H locs ls hl hP hS
    unfold p_Md_trafficSlot_140 at h
    refine lv_iload hx hb d_Md_trafficSlot_140 (lv_at hl 2 rfl) ?_
    refine lv_if_lt hx hb d_Md_trafficSlot_142 (tgt := 151) rfl (fun hc61 => ?_) (fun hc61 => ?_)
    · have h := h.1 hc61
      exact x_vret hx hb hr hlocks hP hS h d_Md_trafficSlot_151
    · have h := h.2 hc61
      refine lv_iload hx hb d_Md_trafficSlot_145 (lv_at hl 3 rfl) ?_
      refine lv_iconst (v := (4 : Int32)) hx hb d_Md_trafficSlot_147 (by decide) ?_
      refine lv_icmp_ne hx hb d_Md_trafficSlot_148 (tgt := 152) rfl (fun hc60 => ?_) (fun hc60 => ?_)
      · have h := h.1 hc60
        refine lv_iload hx hb d_Md_trafficSlot_152 (lv_at hl 2 rfl) ?_
        refine lv_ldc (v := (524288 : Int32)) hx hb hown (hts _ k_1036) d_Md_trafficSlot_154 ?_
        refine lv_icmp_lt hx hb d_Md_trafficSlot_156 (tgt := 166) rfl (fun hc59 => ?_) (fun hc59 => ?_)
        · have h := h.1 hc59
          refine lv_iconst (v := (0 : Int32)) hx hb d_Md_trafficSlot_166 (by decide) ?_
          refine lv_topi (fun x34 ex34 => ?_)
          have h := h x34 ex34
          refine lv_istore hx hb d_Md_trafficSlot_167 hl (Nat.le_of_ble_eq_true rfl) (lv' := [(7, .int x34), (0, .ref (Θ (0))), (1, .int p1), (5, .int v5), (6, .int v6)]) rfl (fun ls hl => ?_)
          obtain ⟨n56, h⟩ := h
          refine tL169 n56 _ _ _ _ h _ _ _ (lv_sub hl [1, 2, 3, 0] rfl) hP hS
        · have h := h.2 hc59
          refine lv_aload_n hx hb d_Md_trafficSlot_159 rfl (lv_at hl 0 rfl) ?_
          refine lv_iload hx hb d_Md_trafficSlot_160 (lv_at hl 3 rfl) ?_
          refine x_gv (x_V C hP hS (Nat.le_of_ble_eq_true rfl) (eM_Md _ _) rfl (c_Md_releaseCall l D κ hΘ sz v6 I J _ h) q_Md_releaseCall k_1039 sel_Md_releaseCall k_1037 rfl rfl ⟨Nat.le_of_ble_eq_true rfl, Nat.le_of_ble_eq_true rfl⟩ rfl hl.1 rfl (Nat.le_of_ble_eq_true rfl) d_Md_trafficSlot_162) hS (fun I57 J58 h H locs hP hS => ?_)
          exact x_vret hx hb hr hlocks hP hS h d_Md_trafficSlot_165
      · have h := h.2 hc60
        exact x_vret hx hb hr hlocks hP hS h d_Md_trafficSlot_151
  have tJ104 : ∀ (v3 : Int32) (v4 : Int32) (I : SI) (J : SJ), p_Md_trafficSlot_104 p1 post v3 v4 I J → ∀ (H : Heap) (locs : List Loc) (ls : Array Slot), lv_has ls 9 [(0, .ref (Θ (0))), (1, .int p1), (3, .int v3), (4, .int v4)] → va_P D clA (xw 34 Θ (eM Θ κ) I J) H → va_S (xA 34 Θ sz) s.heap H locs → W p l e (headSpec WS rm_Md_trafficSlot).room s m args below meth c H locs 0 0 (MQ below (xQv D clA 34 Θ (eM Θ κ) sz post) args s 0 0 (xA 34 Θ sz)) (F0 m 104 ls []) := by
    intro v3 v4 I J h H locs ls hl hP hS
    unfold p_Md_trafficSlot_104 at h
    refine lv_aload_n hx hb d_Md_trafficSlot_104 rfl (lv_at hl 0 rfl) ?_
    refine lv_iload_n hx hb d_Md_trafficSlot_105 rfl (lv_at hl 2 rfl) ?_
    refine lv_iload hx hb d_Md_trafficSlot_106 (lv_at hl 3 rfl) ?_
    refine lv_iload_n hx hb d_Md_trafficSlot_108 rfl (lv_at hl 2 rfl) ?_
    refine x_gi (x_V C hP hS (Nat.le_of_ble_eq_true rfl) (eM_Md _ _) rfl (c_Md_gets l D κ hΘ sz v3 v4 v3 I J _ h) q_Md_gets k_970 sel_Md_gets k_968 rfl rfl ⟨Nat.le_of_ble_eq_true rfl, Nat.le_of_ble_eq_true rfl⟩ rfl hl.1 rfl (Nat.le_of_ble_eq_true rfl) d_Md_trafficSlot_109) hS (fun r24 I22 J23 h H locs hP hS => ?_)
    refine lv_istore hx hb d_Md_trafficSlot_112 hl (Nat.le_of_ble_eq_true rfl) (lv' := [(5, .int r24), (0, .ref (Θ (0))), (1, .int p1), (3, .int v3), (4, .int v4)]) rfl (fun ls hl => ?_)
    refine lv_iconst (v := (0 : Int32)) hx hb d_Md_trafficSlot_114 (by decide) ?_
    refine lv_topi (fun x25 ex25 => ?_)
    have h := h x25 ex25
    refine lv_istore hx hb d_Md_trafficSlot_115 hl (Nat.le_of_ble_eq_true rfl) (lv' := [(6, .int x25), (5, .int r24), (0, .ref (Θ (0))), (1, .int p1), (3, .int v3), (4, .int v4)]) rfl (fun ls hl => ?_)
    obtain ⟨n62, h⟩ := h
    refine tL117 _ ?_ n62 _ _ _ _ h _ _ _ (lv_sub hl [2, 3, 1, 0] rfl) hP hS
    · intro z30 z31 I32 J33 h H locs ls hl hP hS
      exact tJ140 _ _ _ _ h _ _ _ (lv_sub hl [0, 1, 2, 3] rfl) hP hS
  have tJ34 : ∀ (v2 : Int32) (I : SI) (J : SJ), p_Md_trafficSlot_34 p1 post v2 I J → ∀ (H : Heap) (locs : List Loc) (ls : Array Slot), lv_has ls 9 [(0, .ref (Θ (0))), (1, .int p1), (2, .int v2)] → va_P D clA (xw 34 Θ (eM Θ κ) I J) H → va_S (xA 34 Θ sz) s.heap H locs → W p l e (headSpec WS rm_Md_trafficSlot).room s m args below meth c H locs 0 0 (MQ below (xQv D clA 34 Θ (eM Θ κ) sz post) args s 0 0 (xA 34 Θ sz)) (F0 m 34 ls []) := by
    intro v2 I J h H locs ls hl hP hS
    unfold p_Md_trafficSlot_34 at h
    refine lv_iload_n hx hb d_Md_trafficSlot_34 rfl (lv_at hl 2 rfl) ?_
    refine lv_bipush (v := (8 : Int32)) hx hb d_Md_trafficSlot_35 (by decide) ?_
    refine lv_icmp_ne hx hb d_Md_trafficSlot_37 (tgt := 41) rfl (fun hc67 => ?_) (fun hc67 => ?_)
    · have h := h.1 hc67
      refine lv_aload_n hx hb d_Md_trafficSlot_41 rfl (lv_at hl 0 rfl) ?_
      refine gfM_Md_27 C hP d_Md_trafficSlot_42 ?_
      refine lv_iload_n hx hb d_Md_trafficSlot_45 rfl (lv_at hl 2 rfl) ?_
      obtain ⟨j11, ej11, h_j11, h⟩ := h
      refine x_iald hx hb hK hP (3) 0 (Nat.le_of_ble_eq_true rfl) eM_cellOf rfl ej11 h_j11 (by decide) d_Md_trafficSlot_46 ?_
      refine lv_topi (fun x12 ex12 => ?_)
      have h := h x12 ex12
      refine lv_istore_n hx hb d_Md_trafficSlot_47 rfl hl (Nat.le_of_ble_eq_true rfl) (lv' := [(3, .int x12), (0, .ref (Θ (0))), (1, .int p1), (2, .int v2)]) rfl (fun ls hl => ?_)
      refine lv_aload_n hx hb d_Md_trafficSlot_48 rfl (lv_at hl 1 rfl) ?_
      refine gfM_Md_70 C hP d_Md_trafficSlot_49 ?_
      refine lv_iload_n hx hb d_Md_trafficSlot_52 rfl (lv_at hl 3 rfl) ?_
      obtain ⟨j13, ej13, h_j13, h⟩ := h
      refine x_iald hx hb hK hP (17) 0 (Nat.le_of_ble_eq_true rfl) eM_speech rfl ej13 h_j13 (by decide) d_Md_trafficSlot_53 ?_
      refine lv_aload_n hx hb d_Md_trafficSlot_54 rfl (lv_at hl 1 rfl) ?_
      refine gfM_Md_98 C hP d_Md_trafficSlot_55 ?_
      refine lv_aload_n hx hb d_Md_trafficSlot_58 rfl (lv_at hl 1 rfl) ?_
      refine gfM_Md_64 C hP d_Md_trafficSlot_59 ?_
      refine lv_iload_n hx hb d_Md_trafficSlot_62 rfl (lv_at hl 3 rfl) ?_
      obtain ⟨j14, ej14, h_j14, h⟩ := h
      refine x_iald hx hb hK hP (15) 0 (Nat.le_of_ble_eq_true rfl) eM_inCall rfl ej14 h_j14 (by decide) d_Md_trafficSlot_63 ?_
      obtain ⟨j15, ej15, h_j15, h⟩ := h
      refine x_iald hx hb hK hP (26) 0 (Nat.le_of_ble_eq_true rfl) eM_groupKey rfl ej15 h_j15 (by decide) d_Md_trafficSlot_64 ?_
      refine lv_aload_n hx hb d_Md_trafficSlot_65 rfl (lv_at hl 1 rfl) ?_
      refine gfM_Md_122 C hP d_Md_trafficSlot_66 ?_
      refine lv_iconst (v := (4 : Int32)) hx hb d_Md_trafficSlot_69 (by decide) ?_
      refine lv_idiv hx hb d_Md_trafficSlot_70 (by decide) ?_
      refine x_gi (x_S C hP hS (c_Md_mix l D κ hΘ sz (I (26) j15) ((I 0 36) / (4 : Int32)) I J _ h) q_Md_mix k_961 k_960 rfl rfl ⟨Nat.le_of_ble_eq_true rfl, Nat.le_of_ble_eq_true rfl⟩ rfl hl.1 rfl (Nat.le_of_ble_eq_true rfl) d_Md_trafficSlot_71) hS (fun r18 I16 J17 h H locs hP hS => ?_)
      refine lv_ixor hx hb d_Md_trafficSlot_74 ?_
      refine lv_ldc (v := (524287 : Int32)) hx hb hown (hts _ k_933) d_Md_trafficSlot_75 ?_
      refine lv_iand hx hb d_Md_trafficSlot_77 ?_
      refine lv_topi (fun x19 ex19 => ?_)
      have h := h x19 ex19
      refine lv_istore hx hb d_Md_trafficSlot_78 hl (Nat.le_of_ble_eq_true rfl) (lv' := [(4, .int x19), (3, .int x12), (0, .ref (Θ (0))), (1, .int p1), (2, .int v2)]) rfl (fun ls hl => ?_)
      refine lv_aload_n hx hb d_Md_trafficSlot_80 rfl (lv_at hl 2 rfl) ?_
      refine gfM_Md_67 C hP d_Md_trafficSlot_81 ?_
      refine lv_iload_n hx hb d_Md_trafficSlot_84 rfl (lv_at hl 4 rfl) ?_
      obtain ⟨j20, ej20, h_j20, h⟩ := h
      refine x_iald hx hb hK hP (16) 0 (Nat.le_of_ble_eq_true rfl) eM_presses rfl ej20 h_j20 (by decide) d_Md_trafficSlot_85 ?_
      refine lv_aload_n hx hb d_Md_trafficSlot_86 rfl (lv_at hl 2 rfl) ?_
      refine gfM_Md_64 C hP d_Md_trafficSlot_87 ?_
      refine lv_iload_n hx hb d_Md_trafficSlot_90 rfl (lv_at hl 4 rfl) ?_
      obtain ⟨j21, ej21, h_j21, h⟩ := h
      refine x_iald hx hb hK hP (15) 0 (Nat.le_of_ble_eq_true rfl) eM_inCall rfl ej21 h_j21 (by decide) d_Md_trafficSlot_91 ?_
      refine lv_icmp_eq hx hb d_Md_trafficSlot_92 (tgt := 104) rfl (fun hc66 => ?_) (fun hc66 => ?_)
      · have h := h.1 hc66
        exact tJ104 _ _ _ _ h _ _ _ (lv_sub hl [2, 3, 1, 0] rfl) hP hS
      · have h := h.2 hc66
        refine lv_ldc (v := (524288 : Int32)) hx hb hown (hts _ k_1036) d_Md_trafficSlot_95 ?_
        refine lv_topi (fun x63 ex63 => ?_)
        have h := h x63 ex63
        refine lv_istore hx hb d_Md_trafficSlot_97 hl (Nat.le_of_ble_eq_true rfl) (lv' := [(4, .int x63), (3, .int x12), (0, .ref (Θ (0))), (1, .int p1), (2, .int v2)]) rfl (fun ls hl => ?_)
        refine lv_aload_n hx hb d_Md_trafficSlot_99 rfl (lv_at hl 2 rfl) ?_
        refine lv_iload_n hx hb d_Md_trafficSlot_100 rfl (lv_at hl 4 rfl) ?_
        refine x_gv (x_V C hP hS (Nat.le_of_ble_eq_true rfl) (eM_Md _ _) rfl (c_Md_idle l D κ hΘ sz v2 I16 J17 _ h) q_Md_idle k_907 sel_Md_idle k_905 rfl rfl ⟨Nat.le_of_ble_eq_true rfl, Nat.le_of_ble_eq_true rfl⟩ rfl hl.1 rfl (Nat.le_of_ble_eq_true rfl) d_Md_trafficSlot_101) hS (fun I64 J65 h H locs hP hS => ?_)
        exact tJ104 _ _ _ _ h _ _ _ (lv_sub hl [2, 3, 1, 0] rfl) hP hS
    · have h := h.2 hc67
      exact x_vret hx hb hr hlocks hP hS h d_Md_trafficSlot_40
  have hE := lg_entry_eq m [.ref (Θ (0)), .int p1] 9
  rw [← hargs] at hE
  rw [hE]
  have hl := lv_entry [.ref (Θ (0)), .int p1] (n := 9) (Nat.le_of_ble_eq_true rfl)
  generalize (lg_sl [.ref (Θ (0)), .int p1] ++ List.replicate (9 - (lg_sl [.ref (Θ (0)), .int p1]).length) Slot.unset).toArray = ls at hl ⊢
  have hl : lv_has ls 9 [(0, .ref (Θ (0))), (1, .int p1)] := hl
  unfold p_Md_trafficSlot at h
  refine lv_iconst (v := (0 : Int32)) hx hb d_Md_trafficSlot_0 (by decide) ?_
  refine lv_topi (fun x1 ex1 => ?_)
  have h := h x1 ex1
  refine lv_istore_n hx hb d_Md_trafficSlot_1 rfl hl (Nat.le_of_ble_eq_true rfl) (lv' := [(2, .int x1), (0, .ref (Θ (0))), (1, .int p1)]) rfl (fun ls hl => ?_)
  obtain ⟨n68, h⟩ := h
  refine tL2 _ ?_ n68 _ _ _ h _ _ _ (lv_sub hl [1, 2, 0] rfl) hP hS
  · intro z8 I9 J10 h H locs ls hl hP hS
    exact tJ34 _ _ _ h _ _ _ (lv_sub hl [0, 1, 2] rfl) hP hS
set_option maxHeartbeats 4000000 in
set_option maxRecDepth 100000 in
theorem c_Md_slot (l : Launch) (D : va_G) (κ : Nat → ClassId) {Θ : Nat → Nat} (hΘ : xJ 34 Θ) (sz : Nat) (I : SI) (J : SJ) (post : SI → SJ → Prop) (h : p_Md_slot post I J) : Met l y_Md_slot WS rm_Md_slot (va_Pc [.ref (Θ (0))] (xPR D clA (tysA κ) 34 Θ (eM Θ κ) sz I J)) (xQv D clA 34 Θ (eM Θ κ) sz post) 0 0 (xA 34 Θ sz) := by
  refine xMet (cc := b_Md_slot) (maxL := 3) (ret := none) (by decide) q_Md_slot.1 ?_
  intro p e s m args below meth c s₁ B hml hv
  obtain ⟨hargs, hsz, hP, hK, hN, hG⟩ := hv
  have hx := B.exec
  have hb := B.bytes
  have hr := B.returns
  have hlocks := B.notSynchronized
  have hts := atoms_spec (ws := WS) B.pre
  have hown : s.vm.findClass R_Md = some m.cls := findClass_of_methodNamed B.named
  have C : xC p m c b_Md_slot 3 s args R_Md D clA (tysA κ) 34 Θ sz := ⟨⟨hx, hb, hml, hown, hts⟩, hK, hN, hG, hsz⟩
  have hS : va_S (xA 34 Θ sz) s.heap s.heap [] := va_S.rf
  have tJ81 : ∀ (k44 : Int32 → SI → SJ → Prop), (∀ (v2 : Int32) (I : SI) (J : SJ), k44 v2 I J → ∀ (H : Heap) (locs : List Loc) (ls : Array Slot), lv_has ls 3 [(0, .ref (Θ (0))), (2, .int v2)] → va_P D clA (xw 34 Θ (eM Θ κ) I J) H → va_S (xA 34 Θ sz) s.heap H locs → W p l e (headSpec WS rm_Md_slot).room s m args below meth c H locs 0 0 (MQ below (xQv D clA 34 Θ (eM Θ κ) sz post) args s 0 0 (xA 34 Θ sz)) (F0 m 44 ls [])) → ∀ (v2 : Int32) (I : SI) (J : SJ), p_Md_slot_81 post k44 v2 I J → ∀ (H : Heap) (locs : List Loc) (ls : Array Slot), lv_has ls 3 [(0, .ref (Θ (0))), (2, .int v2)] → va_P D clA (xw 34 Θ (eM Θ κ) I J) H → va_S (xA 34 Θ sz) s.heap H locs → W p l e (headSpec WS rm_Md_slot).room s m args below meth c H locs 0 0 (MQ below (xQv D clA 34 Θ (eM Θ κ) sz post) args s 0 0 (xA 34 Θ sz)) (F0 m 81 ls []) := by
    intro k44 hk44 v2 I J h H locs ls hl hP hS
    unfold p_Md_slot_81 at h
    obtain ⟨x8, ex8⟩ : ∃ y : Int32, y = v2 + (1 : Int32) := ⟨_, rfl⟩
    have h := h x8 ex8
    refine lv_iinc (k := 1) (v := x8) hx hb d_Md_slot_81 hl rfl (by rw [ex8]; rfl) (Nat.le_of_ble_eq_true rfl) (lv' := [(2, .int x8), (0, .ref (Θ (0)))]) rfl (fun ls hl => ?_)
    refine lv_goto hx hb d_Md_slot_84 (tgt := 44) rfl ?_
    exact hk44 _ _ _ h _ _ _ (lv_sub hl [1, 0] rfl) hP hS
  have tL44 : ∀ (n : Nat) (v2 : Int32) (I : SI) (J : SJ), p_Md_slot_L44 post n v2 I J → ∀ (H : Heap) (locs : List Loc) (ls : Array Slot), lv_has ls 3 [(0, .ref (Θ (0))), (2, .int v2)] → va_P D clA (xw 34 Θ (eM Θ κ) I J) H → va_S (xA 34 Θ sz) s.heap H locs → W p l e (headSpec WS rm_Md_slot).room s m args below meth c H locs 0 0 (MQ below (xQv D clA 34 Θ (eM Θ κ) sz post) args s 0 0 (xA 34 Θ sz)) (F0 m 44 ls []) := by
    intro n
    induction n with
    | zero =>
      intro v2 I J h H locs ls hl hP hS
      exact h.elim
    | succ n ih =>
      intro v2 I J h H locs ls hl hP hS
      unfold p_Md_slot_L44 at h
      refine lv_iload_n hx hb d_Md_slot_44 rfl (lv_at hl 1 rfl) ?_
      refine lv_iconst (v := (4 : Int32)) hx hb d_Md_slot_45 (by decide) ?_
      refine lv_icmp_ge hx hb d_Md_slot_46 (tgt := 87) rfl (fun hc14 => ?_) (fun hc14 => ?_)
      · have h := h.1 hc14
        refine lv_aload_n hx hb d_Md_slot_87 rfl (lv_at hl 0 rfl) ?_
        refine lv_dup hx hb d_Md_slot_88 rfl ?_
        refine gfM_Md_122 C hP d_Md_slot_89 ?_
        refine lv_iconst (v := (1 : Int32)) hx hb d_Md_slot_92 (by decide) ?_
        refine lv_iadd hx hb d_Md_slot_93 ?_
        refine pfM_Md_122 C hΘ hP hS d_Md_slot_94 (fun H locs hP hS => ?_)
        obtain ⟨I6, eI6⟩ : ∃ y, y = xu I (0) 36 ((I 0 36) + (1 : Int32)) := ⟨_, rfl⟩
        have hP : va_P D clA (xw 34 Θ (eM Θ κ) I6 J) H := by rw [eI6]; exact hP
        have h := h I6 eI6
        exact x_vret hx hb hr hlocks hP hS h d_Md_slot_97
      · have h := h.2 hc14
        refine lv_aload_n hx hb d_Md_slot_49 rfl (lv_at hl 0 rfl) ?_
        refine gfM_Md_101 C hP d_Md_slot_50 ?_
        refine lv_iload_n hx hb d_Md_slot_53 rfl (lv_at hl 1 rfl) ?_
        obtain ⟨j7, ej7, h_j7, h⟩ := h
        refine x_iald hx hb hK hP (27) 0 (Nat.le_of_ble_eq_true rfl) eM_callChannel rfl ej7 h_j7 (by decide) d_Md_slot_54 ?_
        refine lv_if_le hx hb d_Md_slot_55 (tgt := 81) rfl (fun hc13 => ?_) (fun hc13 => ?_)
        · have h := h.1 hc13
          exact tJ81 _ ih _ _ _ h _ _ _ (lv_sub hl [0, 1] rfl) hP hS
        · have h := h.2 hc13
          refine lv_aload_n hx hb d_Md_slot_58 rfl (lv_at hl 0 rfl) ?_
          refine gfM_Md_122 C hP d_Md_slot_59 ?_
          refine lv_iconst (v := (4 : Int32)) hx hb d_Md_slot_62 (by decide) ?_
          refine lv_idiv hx hb d_Md_slot_63 (by decide) ?_
          refine lv_aload_n hx hb d_Md_slot_64 rfl (lv_at hl 0 rfl) ?_
          refine gfM_Md_107 C hP d_Md_slot_65 ?_
          refine lv_iload_n hx hb d_Md_slot_68 rfl (lv_at hl 1 rfl) ?_
          obtain ⟨j9, ej9, h_j9, h⟩ := h
          refine x_iald hx hb hK hP (29) 0 (Nat.le_of_ble_eq_true rfl) eM_since rfl ej9 h_j9 (by decide) d_Md_slot_69 ?_
          refine lv_isub hx hb d_Md_slot_70 ?_
          refine lv_bipush (v := (8 : Int32)) hx hb d_Md_slot_71 (by decide) ?_
          refine lv_icmp_lt hx hb d_Md_slot_73 (tgt := 81) rfl (fun hc12 => ?_) (fun hc12 => ?_)
          · have h := h.1 hc12
            exact tJ81 _ ih _ _ _ h _ _ _ (lv_sub hl [0, 1] rfl) hP hS
          · have h := h.2 hc12
            refine lv_aload_n hx hb d_Md_slot_76 rfl (lv_at hl 0 rfl) ?_
            refine lv_iload_n hx hb d_Md_slot_77 rfl (lv_at hl 1 rfl) ?_
            refine x_gv (x_V C hP hS (Nat.le_of_ble_eq_true rfl) (eM_Md _ _) rfl (c_Md_releaseCall l D κ hΘ sz v2 I J _ h) q_Md_releaseCall k_1039 sel_Md_releaseCall k_1037 rfl rfl ⟨Nat.le_of_ble_eq_true rfl, Nat.le_of_ble_eq_true rfl⟩ rfl hl.1 rfl (Nat.le_of_ble_eq_true rfl) d_Md_slot_78) hS (fun I10 J11 h H locs hP hS => ?_)
            exact tJ81 _ ih _ _ _ h _ _ _ (lv_sub hl [0, 1] rfl) hP hS
  have tJ37 : ∀ (v1 : Int32) (I : SI) (J : SJ), p_Md_slot_37 post v1 I J → ∀ (H : Heap) (locs : List Loc) (ls : Array Slot), lv_has ls 3 [(0, .ref (Θ (0))), (1, .int v1)] → va_P D clA (xw 34 Θ (eM Θ κ) I J) H → va_S (xA 34 Θ sz) s.heap H locs → W p l e (headSpec WS rm_Md_slot).room s m args below meth c H locs 0 0 (MQ below (xQv D clA 34 Θ (eM Θ κ) sz post) args s 0 0 (xA 34 Θ sz)) (F0 m 37 ls []) := by
    intro v1 I J h H locs ls hl hP hS
    unfold p_Md_slot_37 at h
    refine lv_iload_n hx hb d_Md_slot_37 rfl (lv_at hl 1 rfl) ?_
    refine lv_iconst (v := (3 : Int32)) hx hb d_Md_slot_38 (by decide) ?_
    refine lv_icmp_ne hx hb d_Md_slot_39 (tgt := 87) rfl (fun hc16 => ?_) (fun hc16 => ?_)
    · have h := h.1 hc16
      refine lv_aload_n hx hb d_Md_slot_87 rfl (lv_at hl 0 rfl) ?_
      refine lv_dup hx hb d_Md_slot_88 rfl ?_
      refine gfM_Md_122 C hP d_Md_slot_89 ?_
      refine lv_iconst (v := (1 : Int32)) hx hb d_Md_slot_92 (by decide) ?_
      refine lv_iadd hx hb d_Md_slot_93 ?_
      refine pfM_Md_122 C hΘ hP hS d_Md_slot_94 (fun H locs hP hS => ?_)
      obtain ⟨I4, eI4⟩ : ∃ y, y = xu I (0) 36 ((I 0 36) + (1 : Int32)) := ⟨_, rfl⟩
      have hP : va_P D clA (xw 34 Θ (eM Θ κ) I4 J) H := by rw [eI4]; exact hP
      have h := h I4 eI4
      exact x_vret hx hb hr hlocks hP hS h d_Md_slot_97
    · have h := h.2 hc16
      refine lv_iconst (v := (0 : Int32)) hx hb d_Md_slot_42 (by decide) ?_
      refine lv_topi (fun x5 ex5 => ?_)
      have h := h x5 ex5
      refine lv_istore_n hx hb d_Md_slot_43 rfl hl (Nat.le_of_ble_eq_true rfl) (lv' := [(2, .int x5), (0, .ref (Θ (0))), (1, .int v1)]) rfl (fun ls hl => ?_)
      obtain ⟨n15, h⟩ := h
      refine tL44 n15 _ _ _ h _ _ _ (lv_sub hl [1, 0] rfl) hP hS
  have tL13 : ∀ (k29 : Int32 → SI → SJ → Prop), (∀ (v1 : Int32) (I : SI) (J : SJ), k29 v1 I J → ∀ (H : Heap) (locs : List Loc) (ls : Array Slot), lv_has ls 3 [(0, .ref (Θ (0))), (1, .int v1)] → va_P D clA (xw 34 Θ (eM Θ κ) I J) H → va_S (xA 34 Θ sz) s.heap H locs → W p l e (headSpec WS rm_Md_slot).room s m args below meth c H locs 0 0 (MQ below (xQv D clA 34 Θ (eM Θ κ) sz post) args s 0 0 (xA 34 Θ sz)) (F0 m 29 ls [])) → ∀ (n : Nat) (v1 : Int32) (v2 : Int32) (I : SI) (J : SJ), p_Md_slot_L13 post k29 n v1 v2 I J → ∀ (H : Heap) (locs : List Loc) (ls : Array Slot), lv_has ls 3 [(0, .ref (Θ (0))), (1, .int v1), (2, .int v2)] → va_P D clA (xw 34 Θ (eM Θ κ) I J) H → va_S (xA 34 Θ sz) s.heap H locs → W p l e (headSpec WS rm_Md_slot).room s m args below meth c H locs 0 0 (MQ below (xQv D clA 34 Θ (eM Θ κ) sz post) args s 0 0 (xA 34 Θ sz)) (F0 m 13 ls []) := by
    intro k29 hk29 n
    induction n with
    | zero =>
      intro v1 v2 I J h H locs ls hl hP hS
      exact h.elim
    | succ n ih =>
      intro v1 v2 I J h H locs ls hl hP hS
      unfold p_Md_slot_L13 at h
      refine lv_iload_n hx hb d_Md_slot_13 rfl (lv_at hl 2 rfl) ?_
      refine lv_iconst (v := (3 : Int32)) hx hb d_Md_slot_14 (by decide) ?_
      refine lv_icmp_ge hx hb d_Md_slot_15 (tgt := 29) rfl (fun hc21 => ?_) (fun hc21 => ?_)
      · have h := h.1 hc21
        exact hk29 _ _ _ h _ _ _ (lv_sub hl [0, 1] rfl) hP hS
      · have h := h.2 hc21
        refine lv_aload_n hx hb d_Md_slot_18 rfl (lv_at hl 0 rfl) ?_
        refine lv_iload_n hx hb d_Md_slot_19 rfl (lv_at hl 2 rfl) ?_
        refine x_gv (x_V C hP hS (Nat.le_of_ble_eq_true rfl) (eM_Md _ _) rfl (c_Md_controlSlot l D κ hΘ sz v2 I J _ h) q_Md_controlSlot k_954 sel_Md_controlSlot k_952 rfl rfl ⟨Nat.le_of_ble_eq_true rfl, Nat.le_of_ble_eq_true rfl⟩ rfl hl.1 rfl (Nat.le_of_ble_eq_true rfl) d_Md_slot_20) hS (fun I18 J19 h H locs hP hS => ?_)
        obtain ⟨x20, ex20⟩ : ∃ y : Int32, y = v2 + (1 : Int32) := ⟨_, rfl⟩
        have h := h x20 ex20
        refine lv_iinc (k := 2) (v := x20) hx hb d_Md_slot_23 hl rfl (by rw [ex20]; rfl) (Nat.le_of_ble_eq_true rfl) (lv' := [(2, .int x20), (0, .ref (Θ (0))), (1, .int v1)]) rfl (fun ls hl => ?_)
        refine lv_goto hx hb d_Md_slot_26 (tgt := 13) rfl ?_
        exact ih _ _ _ _ h _ _ _ (lv_sub hl [1, 2, 0] rfl) hP hS
  have hE := lg_entry_eq m [.ref (Θ (0))] 3
  rw [← hargs] at hE
  rw [hE]
  have hl := lv_entry [.ref (Θ (0))] (n := 3) (Nat.le_of_ble_eq_true rfl)
  generalize (lg_sl [.ref (Θ (0))] ++ List.replicate (3 - (lg_sl [.ref (Θ (0))]).length) Slot.unset).toArray = ls at hl ⊢
  have hl : lv_has ls 3 [(0, .ref (Θ (0)))] := hl
  unfold p_Md_slot at h
  refine lv_aload_n hx hb d_Md_slot_0 rfl (lv_at hl 0 rfl) ?_
  refine gfM_Md_122 C hP d_Md_slot_1 ?_
  refine lv_iconst (v := (4 : Int32)) hx hb d_Md_slot_4 (by decide) ?_
  refine lv_irem hx hb d_Md_slot_5 (by decide) ?_
  refine lv_topi (fun x1 ex1 => ?_)
  have h := h x1 ex1
  refine lv_istore_n hx hb d_Md_slot_6 rfl hl (Nat.le_of_ble_eq_true rfl) (lv' := [(1, .int x1), (0, .ref (Θ (0)))]) rfl (fun ls hl => ?_)
  refine lv_iload_n hx hb d_Md_slot_7 rfl (lv_at hl 0 rfl) ?_
  refine lv_if_ne hx hb d_Md_slot_8 (tgt := 32) rfl (fun hc26 => ?_) (fun hc26 => ?_)
  · have h := h.1 hc26
    refine lv_aload_n hx hb d_Md_slot_32 rfl (lv_at hl 1 rfl) ?_
    refine lv_iload_n hx hb d_Md_slot_33 rfl (lv_at hl 0 rfl) ?_
    refine x_gv (x_V C hP hS (Nat.le_of_ble_eq_true rfl) (eM_Md _ _) rfl (c_Md_trafficSlot l D κ hΘ sz x1 I J _ h) q_Md_trafficSlot k_1034 sel_Md_trafficSlot k_1032 rfl rfl ⟨Nat.le_of_ble_eq_true rfl, Nat.le_of_ble_eq_true rfl⟩ rfl hl.1 rfl (Nat.le_of_ble_eq_true rfl) d_Md_slot_34) hS (fun I2 J3 h H locs hP hS => ?_)
    exact tJ37 _ _ _ h _ _ _ (lv_sub hl [1, 0] rfl) hP hS
  · have h := h.2 hc26
    refine lv_iconst (v := (0 : Int32)) hx hb d_Md_slot_11 (by decide) ?_
    refine lv_topi (fun x17 ex17 => ?_)
    have h := h x17 ex17
    refine lv_istore_n hx hb d_Md_slot_12 rfl hl (Nat.le_of_ble_eq_true rfl) (lv' := [(2, .int x17), (1, .int x1), (0, .ref (Θ (0)))]) rfl (fun ls hl => ?_)
    obtain ⟨n25, h⟩ := h
    refine tL13 _ ?_ n25 _ _ _ _ h _ _ _ (lv_sub hl [2, 1, 0] rfl) hP hS
    · intro z22 I23 J24 h H locs ls hl hP hS
      refine lv_goto hx hb d_Md_slot_29 (tgt := 37) rfl ?_
      exact tJ37 _ _ _ h _ _ _ (lv_sub hl [0, 1] rfl) hP hS
