theorem d_Md_multipleKey_0 : decode c_Md_multipleKey 0 = .ok (.aload_n 0, 1) := by decide +kernel
theorem d_Md_multipleKey_1 : decode c_Md_multipleKey 1 = .ok (.iconst 0, 1) := by decide +kernel
theorem d_Md_multipleKey_2 : decode c_Md_multipleKey 2 = .ok (.lconst 1, 1) := by decide +kernel
theorem d_Md_multipleKey_3 : decode c_Md_multipleKey 3 = .ok (.invokevirtual 159, 3) := by decide +kernel
theorem d_Md_multipleKey_6 : decode c_Md_multipleKey 6 = .ok (.aload_n 0, 1) := by decide +kernel
theorem d_Md_multipleKey_7 : decode c_Md_multipleKey 7 = .ok (.iconst 1, 1) := by decide +kernel
theorem d_Md_multipleKey_8 : decode c_Md_multipleKey 8 = .ok (.lconst 0, 1) := by decide +kernel
theorem d_Md_multipleKey_9 : decode c_Md_multipleKey 9 = .ok (.invokevirtual 159, 3) := by decide +kernel
theorem d_Md_multipleKey_12 : decode c_Md_multipleKey 12 = .ok (.aload_n 0, 1) := by decide +kernel
theorem d_Md_multipleKey_13 : decode c_Md_multipleKey 13 = .ok (.iconst 3, 1) := by decide +kernel
theorem d_Md_multipleKey_14 : decode c_Md_multipleKey 14 = .ok (.lconst 1, 1) := by decide +kernel
theorem d_Md_multipleKey_15 : decode c_Md_multipleKey 15 = .ok (.invokevirtual 159, 3) := by decide +kernel
theorem d_Md_multipleKey_18 : decode c_Md_multipleKey 18 = .ok (.aload_n 0, 1) := by decide +kernel
theorem d_Md_multipleKey_19 : decode c_Md_multipleKey 19 = .ok (.iconst 4, 1) := by decide +kernel
theorem d_Md_multipleKey_20 : decode c_Md_multipleKey 20 = .ok (.lconst 0, 1) := by decide +kernel
theorem d_Md_multipleKey_21 : decode c_Md_multipleKey 21 = .ok (.invokevirtual 159, 3) := by decide +kernel
theorem d_Md_multipleKey_24 : decode c_Md_multipleKey 24 = .ok (.aload_n 0, 1) := by decide +kernel
theorem d_Md_multipleKey_25 : decode c_Md_multipleKey 25 = .ok (.bipush 13, 2) := by decide +kernel
theorem d_Md_multipleKey_27 : decode c_Md_multipleKey 27 = .ok (.ldc2_w 163, 3) := by decide +kernel
theorem d_Md_multipleKey_30 : decode c_Md_multipleKey 30 = .ok (.invokevirtual 159, 3) := by decide +kernel
theorem d_Md_multipleKey_33 : decode c_Md_multipleKey 33 = .ok (.iconst 0, 1) := by decide +kernel
theorem d_Md_multipleKey_34 : decode c_Md_multipleKey 34 = .ok (.istore_n 1, 1) := by decide +kernel
theorem d_Md_multipleKey_35 : decode c_Md_multipleKey 35 = .ok (.iload_n 1, 1) := by decide +kernel
theorem d_Md_multipleKey_36 : decode c_Md_multipleKey 36 = .ok (.sipush 255, 3) := by decide +kernel
theorem d_Md_multipleKey_39 : decode c_Md_multipleKey 39 = .ok (.if_icmp .ge 59, 3) := by decide +kernel
theorem d_Md_multipleKey_42 : decode c_Md_multipleKey 42 = .ok (.aload_n 0, 1) := by decide +kernel
theorem d_Md_multipleKey_43 : decode c_Md_multipleKey 43 = .ok (.getfield 28, 3) := by decide +kernel
theorem d_Md_multipleKey_46 : decode c_Md_multipleKey 46 = .ok (.bipush 40, 2) := by decide +kernel
theorem d_Md_multipleKey_48 : decode c_Md_multipleKey 48 = .ok (.iload_n 1, 1) := by decide +kernel
theorem d_Md_multipleKey_49 : decode c_Md_multipleKey 49 = .ok (.bipush 26, 2) := by decide +kernel
theorem d_Md_multipleKey_51 : decode c_Md_multipleKey 51 = .ok (.idiv, 1) := by decide +kernel
theorem d_Md_multipleKey_52 : decode c_Md_multipleKey 52 = .ok (.iadd, 1) := by decide +kernel
theorem d_Md_multipleKey_53 : decode c_Md_multipleKey 53 = .ok (.aload_n 0, 1) := by decide +kernel
theorem d_Md_multipleKey_54 : decode c_Md_multipleKey 54 = .ok (.getfield 28, 3) := by decide +kernel
theorem d_Md_multipleKey_57 : decode c_Md_multipleKey 57 = .ok (.bipush 40, 2) := by decide +kernel
theorem d_Md_multipleKey_59 : decode c_Md_multipleKey 59 = .ok (.iload_n 1, 1) := by decide +kernel
theorem d_Md_multipleKey_60 : decode c_Md_multipleKey 60 = .ok (.bipush 26, 2) := by decide +kernel
theorem d_Md_multipleKey_62 : decode c_Md_multipleKey 62 = .ok (.idiv, 1) := by decide +kernel
theorem d_Md_multipleKey_63 : decode c_Md_multipleKey 63 = .ok (.iadd, 1) := by decide +kernel
theorem d_Md_multipleKey_64 : decode c_Md_multipleKey 64 = .ok (.laload, 1) := by decide +kernel
theorem d_Md_multipleKey_65 : decode c_Md_multipleKey 65 = .ok (.aload_n 0, 1) := by decide +kernel
theorem d_Md_multipleKey_66 : decode c_Md_multipleKey 66 = .ok (.getfield 7, 3) := by decide +kernel
theorem d_Md_multipleKey_69 : decode c_Md_multipleKey 69 = .ok (.bipush 56, 2) := by decide +kernel
theorem d_Md_multipleKey_71 : decode c_Md_multipleKey 71 = .ok (.iload_n 1, 1) := by decide +kernel
theorem d_Md_multipleKey_72 : decode c_Md_multipleKey 72 = .ok (.bipush 8, 2) := by decide +kernel
theorem d_Md_multipleKey_74 : decode c_Md_multipleKey 74 = .ok (.idiv, 1) := by decide +kernel
theorem d_Md_multipleKey_75 : decode c_Md_multipleKey 75 = .ok (.iadd, 1) := by decide +kernel
theorem d_Md_multipleKey_76 : decode c_Md_multipleKey 76 = .ok (.iaload, 1) := by decide +kernel
theorem d_Md_multipleKey_77 : decode c_Md_multipleKey 77 = .ok (.iload_n 1, 1) := by decide +kernel
theorem d_Md_multipleKey_78 : decode c_Md_multipleKey 78 = .ok (.bipush 8, 2) := by decide +kernel
theorem d_Md_multipleKey_80 : decode c_Md_multipleKey 80 = .ok (.irem, 1) := by decide +kernel
theorem d_Md_multipleKey_81 : decode c_Md_multipleKey 81 = .ok (.ishr, 1) := by decide +kernel
theorem d_Md_multipleKey_82 : decode c_Md_multipleKey 82 = .ok (.iconst 1, 1) := by decide +kernel
theorem d_Md_multipleKey_83 : decode c_Md_multipleKey 83 = .ok (.iand, 1) := by decide +kernel
theorem d_Md_multipleKey_84 : decode c_Md_multipleKey 84 = .ok (.i2l, 1) := by decide +kernel
theorem d_Md_multipleKey_85 : decode c_Md_multipleKey 85 = .ok (.iload_n 1, 1) := by decide +kernel
theorem d_Md_multipleKey_86 : decode c_Md_multipleKey 86 = .ok (.bipush 26, 2) := by decide +kernel
theorem d_Md_multipleKey_88 : decode c_Md_multipleKey 88 = .ok (.irem, 1) := by decide +kernel
theorem d_Md_multipleKey_89 : decode c_Md_multipleKey 89 = .ok (.lshl, 1) := by decide +kernel
theorem d_Md_multipleKey_90 : decode c_Md_multipleKey 90 = .ok (.lor, 1) := by decide +kernel
theorem d_Md_multipleKey_91 : decode c_Md_multipleKey 91 = .ok (.lastore, 1) := by decide +kernel
theorem d_Md_multipleKey_92 : decode c_Md_multipleKey 92 = .ok (.iinc 1 1, 3) := by decide +kernel
theorem d_Md_multipleKey_95 : decode c_Md_multipleKey 95 = .ok (.goto (-60), 3) := by decide +kernel
theorem d_Md_multipleKey_98 : decode c_Md_multipleKey 98 = .ok (.aload_n 0, 1) := by decide +kernel
theorem d_Md_multipleKey_99 : decode c_Md_multipleKey 99 = .ok (.iconst 2, 1) := by decide +kernel
theorem d_Md_multipleKey_100 : decode c_Md_multipleKey 100 = .ok (.iconst 4, 1) := by decide +kernel
theorem d_Md_multipleKey_101 : decode c_Md_multipleKey 101 = .ok (.invokevirtual 165, 3) := by decide +kernel
theorem d_Md_multipleKey_104 : decode c_Md_multipleKey 104 = .ok (.sipush 254, 3) := by decide +kernel
theorem d_Md_multipleKey_107 : decode c_Md_multipleKey 107 = .ok (.istore_n 1, 1) := by decide +kernel
theorem d_Md_multipleKey_108 : decode c_Md_multipleKey 108 = .ok (.iload_n 1, 1) := by decide +kernel
theorem d_Md_multipleKey_109 : decode c_Md_multipleKey 109 = .ok (.ifCond .lt 83, 3) := by decide +kernel
theorem d_Md_multipleKey_112 : decode c_Md_multipleKey 112 = .ok (.iload_n 1, 1) := by decide +kernel
theorem d_Md_multipleKey_113 : decode c_Md_multipleKey 113 = .ok (.sipush 254, 3) := by decide +kernel
theorem d_Md_multipleKey_116 : decode c_Md_multipleKey 116 = .ok (.if_icmp .eq 28, 3) := by decide +kernel
theorem d_Md_multipleKey_119 : decode c_Md_multipleKey 119 = .ok (.iload_n 1, 1) := by decide +kernel
theorem d_Md_multipleKey_120 : decode c_Md_multipleKey 120 = .ok (.iconst 2, 1) := by decide +kernel
theorem d_Md_multipleKey_121 : decode c_Md_multipleKey 121 = .ok (.if_icmp .le 27, 3) := by decide +kernel
theorem d_Md_multipleKey_124 : decode c_Md_multipleKey 124 = .ok (.aload_n 0, 1) := by decide +kernel
theorem d_Md_multipleKey_125 : decode c_Md_multipleKey 125 = .ok (.getfield 13, 3) := by decide +kernel
theorem d_Md_multipleKey_128 : decode c_Md_multipleKey 128 = .ok (.iload_n 1, 1) := by decide +kernel
theorem d_Md_multipleKey_129 : decode c_Md_multipleKey 129 = .ok (.bipush 8, 2) := by decide +kernel
theorem d_Md_multipleKey_131 : decode c_Md_multipleKey 131 = .ok (.idiv, 1) := by decide +kernel
theorem d_Md_multipleKey_132 : decode c_Md_multipleKey 132 = .ok (.iaload, 1) := by decide +kernel
theorem d_Md_multipleKey_133 : decode c_Md_multipleKey 133 = .ok (.iload_n 1, 1) := by decide +kernel
theorem d_Md_multipleKey_134 : decode c_Md_multipleKey 134 = .ok (.bipush 8, 2) := by decide +kernel
theorem d_Md_multipleKey_136 : decode c_Md_multipleKey 136 = .ok (.irem, 1) := by decide +kernel
theorem d_Md_multipleKey_137 : decode c_Md_multipleKey 137 = .ok (.ishr, 1) := by decide +kernel
theorem d_Md_multipleKey_138 : decode c_Md_multipleKey 138 = .ok (.iconst 1, 1) := by decide +kernel
theorem d_Md_multipleKey_139 : decode c_Md_multipleKey 139 = .ok (.iand, 1) := by decide +kernel
theorem d_Md_multipleKey_140 : decode c_Md_multipleKey 140 = .ok (.iconst 1, 1) := by decide +kernel
theorem d_Md_multipleKey_141 : decode c_Md_multipleKey 141 = .ok (.if_icmp .ne 7, 3) := by decide +kernel
theorem d_Md_multipleKey_144 : decode c_Md_multipleKey 144 = .ok (.iconst 1, 1) := by decide +kernel
theorem d_Md_multipleKey_145 : decode c_Md_multipleKey 145 = .ok (.goto 4, 3) := by decide +kernel
theorem d_Md_multipleKey_148 : decode c_Md_multipleKey 148 = .ok (.iconst 0, 1) := by decide +kernel
theorem d_Md_multipleKey_149 : decode c_Md_multipleKey 149 = .ok (.istore_n 2, 1) := by decide +kernel
theorem d_Md_multipleKey_150 : decode c_Md_multipleKey 150 = .ok (.iload_n 2, 1) := by decide +kernel
theorem d_Md_multipleKey_151 : decode c_Md_multipleKey 151 = .ok (.ifCond .eq 15, 3) := by decide +kernel
theorem d_Md_multipleKey_154 : decode c_Md_multipleKey 154 = .ok (.aload_n 0, 1) := by decide +kernel
theorem d_Md_multipleKey_155 : decode c_Md_multipleKey 155 = .ok (.iconst 0, 1) := by decide +kernel
theorem d_Md_multipleKey_156 : decode c_Md_multipleKey 156 = .ok (.iconst 2, 1) := by decide +kernel
theorem d_Md_multipleKey_157 : decode c_Md_multipleKey 157 = .ok (.invokevirtual 169, 3) := by decide +kernel
theorem d_Md_multipleKey_160 : decode c_Md_multipleKey 160 = .ok (.aload_n 0, 1) := by decide +kernel
theorem d_Md_multipleKey_161 : decode c_Md_multipleKey 161 = .ok (.iconst 1, 1) := by decide +kernel
theorem d_Md_multipleKey_162 : decode c_Md_multipleKey 162 = .ok (.iconst 3, 1) := by decide +kernel
theorem d_Md_multipleKey_163 : decode c_Md_multipleKey 163 = .ok (.invokevirtual 169, 3) := by decide +kernel
theorem d_Md_multipleKey_166 : decode c_Md_multipleKey 166 = .ok (.aload_n 0, 1) := by decide +kernel
theorem d_Md_multipleKey_167 : decode c_Md_multipleKey 167 = .ok (.invokevirtual 172, 3) := by decide +kernel
theorem d_Md_multipleKey_170 : decode c_Md_multipleKey 170 = .ok (.iload_n 2, 1) := by decide +kernel
theorem d_Md_multipleKey_171 : decode c_Md_multipleKey 171 = .ok (.ifCond .eq 15, 3) := by decide +kernel
theorem d_Md_multipleKey_174 : decode c_Md_multipleKey 174 = .ok (.aload_n 0, 1) := by decide +kernel
theorem d_Md_multipleKey_175 : decode c_Md_multipleKey 175 = .ok (.iconst 0, 1) := by decide +kernel
theorem d_Md_multipleKey_176 : decode c_Md_multipleKey 176 = .ok (.iconst 2, 1) := by decide +kernel
theorem d_Md_multipleKey_177 : decode c_Md_multipleKey 177 = .ok (.invokevirtual 169, 3) := by decide +kernel
theorem d_Md_multipleKey_180 : decode c_Md_multipleKey 180 = .ok (.aload_n 0, 1) := by decide +kernel
theorem d_Md_multipleKey_181 : decode c_Md_multipleKey 181 = .ok (.iconst 1, 1) := by decide +kernel
theorem d_Md_multipleKey_182 : decode c_Md_multipleKey 182 = .ok (.iconst 3, 1) := by decide +kernel
theorem d_Md_multipleKey_183 : decode c_Md_multipleKey 183 = .ok (.invokevirtual 169, 3) := by decide +kernel
theorem d_Md_multipleKey_186 : decode c_Md_multipleKey 186 = .ok (.iinc 1 (-1), 3) := by decide +kernel
theorem d_Md_multipleKey_189 : decode c_Md_multipleKey 189 = .ok (.goto (-81), 3) := by decide +kernel
theorem d_Md_multipleKey_192 : decode c_Md_multipleKey 192 = .ok (.aload_n 0, 1) := by decide +kernel
theorem d_Md_multipleKey_193 : decode c_Md_multipleKey 193 = .ok (.iconst 5, 1) := by decide +kernel
theorem d_Md_multipleKey_194 : decode c_Md_multipleKey 194 = .ok (.lconst 1, 1) := by decide +kernel
theorem d_Md_multipleKey_195 : decode c_Md_multipleKey 195 = .ok (.invokevirtual 159, 3) := by decide +kernel
theorem d_Md_multipleKey_198 : decode c_Md_multipleKey 198 = .ok (.sipush 254, 3) := by decide +kernel
theorem d_Md_multipleKey_201 : decode c_Md_multipleKey 201 = .ok (.istore_n 1, 1) := by decide +kernel
theorem d_Md_multipleKey_202 : decode c_Md_multipleKey 202 = .ok (.iload_n 1, 1) := by decide +kernel
theorem d_Md_multipleKey_203 : decode c_Md_multipleKey 203 = .ok (.ifCond .lt 33, 3) := by decide +kernel
theorem d_Md_multipleKey_206 : decode c_Md_multipleKey 206 = .ok (.aload_n 0, 1) := by decide +kernel
theorem d_Md_multipleKey_207 : decode c_Md_multipleKey 207 = .ok (.iconst 5, 1) := by decide +kernel
theorem d_Md_multipleKey_208 : decode c_Md_multipleKey 208 = .ok (.iconst 5, 1) := by decide +kernel
theorem d_Md_multipleKey_209 : decode c_Md_multipleKey 209 = .ok (.iconst 5, 1) := by decide +kernel
theorem d_Md_multipleKey_210 : decode c_Md_multipleKey 210 = .ok (.invokevirtual 152, 3) := by decide +kernel
theorem d_Md_multipleKey_213 : decode c_Md_multipleKey 213 = .ok (.iload_n 1, 1) := by decide +kernel
theorem d_Md_multipleKey_214 : decode c_Md_multipleKey 214 = .ok (.iconst 2, 1) := by decide +kernel
theorem d_Md_multipleKey_215 : decode c_Md_multipleKey 215 = .ok (.if_icmp .eq 15, 3) := by decide +kernel
theorem d_Md_multipleKey_218 : decode c_Md_multipleKey 218 = .ok (.iload_n 1, 1) := by decide +kernel
theorem d_Md_multipleKey_219 : decode c_Md_multipleKey 219 = .ok (.iconst 4, 1) := by decide +kernel
theorem d_Md_multipleKey_220 : decode c_Md_multipleKey 220 = .ok (.if_icmp .eq 10, 3) := by decide +kernel
theorem d_Md_multipleKey_223 : decode c_Md_multipleKey 223 = .ok (.aload_n 0, 1) := by decide +kernel
theorem d_Md_multipleKey_224 : decode c_Md_multipleKey 224 = .ok (.iconst 5, 1) := by decide +kernel
theorem d_Md_multipleKey_225 : decode c_Md_multipleKey 225 = .ok (.iconst 5, 1) := by decide +kernel
theorem d_Md_multipleKey_226 : decode c_Md_multipleKey 226 = .ok (.iconst 1, 1) := by decide +kernel
theorem d_Md_multipleKey_227 : decode c_Md_multipleKey 227 = .ok (.invokevirtual 152, 3) := by decide +kernel
theorem d_Md_multipleKey_230 : decode c_Md_multipleKey 230 = .ok (.iinc 1 (-1), 3) := by decide +kernel
theorem d_Md_multipleKey_233 : decode c_Md_multipleKey 233 = .ok (.goto (-31), 3) := by decide +kernel
theorem d_Md_multipleKey_236 : decode c_Md_multipleKey 236 = .ok (.aload_n 0, 1) := by decide +kernel
theorem d_Md_multipleKey_237 : decode c_Md_multipleKey 237 = .ok (.iconst 5, 1) := by decide +kernel
theorem d_Md_multipleKey_238 : decode c_Md_multipleKey 238 = .ok (.iconst 5, 1) := by decide +kernel
theorem d_Md_multipleKey_239 : decode c_Md_multipleKey 239 = .ok (.iconst 0, 1) := by decide +kernel
theorem d_Md_multipleKey_240 : decode c_Md_multipleKey 240 = .ok (.invokevirtual 152, 3) := by decide +kernel
theorem d_Md_multipleKey_243 : decode c_Md_multipleKey 243 = .ok (.aload_n 0, 1) := by decide +kernel
theorem d_Md_multipleKey_244 : decode c_Md_multipleKey 244 = .ok (.iconst 5, 1) := by decide +kernel
theorem d_Md_multipleKey_245 : decode c_Md_multipleKey 245 = .ok (.invokevirtual 175, 3) := by decide +kernel
theorem d_Md_multipleKey_248 : decode c_Md_multipleKey 248 = .ok (.iconst 0, 1) := by decide +kernel
theorem d_Md_multipleKey_249 : decode c_Md_multipleKey 249 = .ok (.istore_n 1, 1) := by decide +kernel
theorem d_Md_multipleKey_250 : decode c_Md_multipleKey 250 = .ok (.iload_n 1, 1) := by decide +kernel
theorem d_Md_multipleKey_251 : decode c_Md_multipleKey 251 = .ok (.bipush 32, 2) := by decide +kernel
theorem d_Md_multipleKey_253 : decode c_Md_multipleKey 253 = .ok (.if_icmp .ge 79, 3) := by decide +kernel
theorem d_Md_multipleKey_256 : decode c_Md_multipleKey 256 = .ok (.iconst 0, 1) := by decide +kernel
theorem d_Md_multipleKey_257 : decode c_Md_multipleKey 257 = .ok (.istore_n 2, 1) := by decide +kernel
theorem d_Md_multipleKey_258 : decode c_Md_multipleKey 258 = .ok (.iconst 0, 1) := by decide +kernel
theorem d_Md_multipleKey_259 : decode c_Md_multipleKey 259 = .ok (.istore_n 3, 1) := by decide +kernel
theorem d_Md_multipleKey_260 : decode c_Md_multipleKey 260 = .ok (.iload_n 3, 1) := by decide +kernel
theorem d_Md_multipleKey_261 : decode c_Md_multipleKey 261 = .ok (.bipush 8, 2) := by decide +kernel
theorem d_Md_multipleKey_263 : decode c_Md_multipleKey 263 = .ok (.if_icmp .ge 56, 3) := by decide +kernel
theorem d_Md_multipleKey_266 : decode c_Md_multipleKey 266 = .ok (.bipush 8, 2) := by decide +kernel
theorem d_Md_multipleKey_268 : decode c_Md_multipleKey 268 = .ok (.iload_n 1, 1) := by decide +kernel
theorem d_Md_multipleKey_269 : decode c_Md_multipleKey 269 = .ok (.imul, 1) := by decide +kernel
theorem d_Md_multipleKey_270 : decode c_Md_multipleKey 270 = .ok (.iload_n 3, 1) := by decide +kernel
theorem d_Md_multipleKey_271 : decode c_Md_multipleKey 271 = .ok (.iadd, 1) := by decide +kernel
theorem d_Md_multipleKey_272 : decode c_Md_multipleKey 272 = .ok (.istore 4, 2) := by decide +kernel
theorem d_Md_multipleKey_274 : decode c_Md_multipleKey 274 = .ok (.iload 4, 2) := by decide +kernel
theorem d_Md_multipleKey_276 : decode c_Md_multipleKey 276 = .ok (.sipush 255, 3) := by decide +kernel
theorem d_Md_multipleKey_279 : decode c_Md_multipleKey 279 = .ok (.if_icmp .ge 32, 3) := by decide +kernel
theorem d_Md_multipleKey_282 : decode c_Md_multipleKey 282 = .ok (.iload_n 2, 1) := by decide +kernel
theorem d_Md_multipleKey_283 : decode c_Md_multipleKey 283 = .ok (.aload_n 0, 1) := by decide +kernel
theorem d_Md_multipleKey_284 : decode c_Md_multipleKey 284 = .ok (.getfield 28, 3) := by decide +kernel
theorem d_Md_multipleKey_287 : decode c_Md_multipleKey 287 = .ok (.bipush 50, 2) := by decide +kernel
theorem d_Md_multipleKey_289 : decode c_Md_multipleKey 289 = .ok (.iload 4, 2) := by decide +kernel
theorem d_Md_multipleKey_291 : decode c_Md_multipleKey 291 = .ok (.bipush 26, 2) := by decide +kernel
theorem d_Md_multipleKey_293 : decode c_Md_multipleKey 293 = .ok (.idiv, 1) := by decide +kernel
theorem d_Md_multipleKey_294 : decode c_Md_multipleKey 294 = .ok (.iadd, 1) := by decide +kernel
theorem d_Md_multipleKey_295 : decode c_Md_multipleKey 295 = .ok (.laload, 1) := by decide +kernel
theorem d_Md_multipleKey_296 : decode c_Md_multipleKey 296 = .ok (.iload 4, 2) := by decide +kernel
theorem d_Md_multipleKey_298 : decode c_Md_multipleKey 298 = .ok (.bipush 26, 2) := by decide +kernel
theorem d_Md_multipleKey_300 : decode c_Md_multipleKey 300 = .ok (.irem, 1) := by decide +kernel
theorem d_Md_multipleKey_301 : decode c_Md_multipleKey 301 = .ok (.lshr, 1) := by decide +kernel
theorem d_Md_multipleKey_302 : decode c_Md_multipleKey 302 = .ok (.lconst 1, 1) := by decide +kernel
theorem d_Md_multipleKey_303 : decode c_Md_multipleKey 303 = .ok (.land, 1) := by decide +kernel
theorem d_Md_multipleKey_304 : decode c_Md_multipleKey 304 = .ok (.l2i, 1) := by decide +kernel
theorem d_Md_multipleKey_305 : decode c_Md_multipleKey 305 = .ok (.iload_n 3, 1) := by decide +kernel
theorem d_Md_multipleKey_306 : decode c_Md_multipleKey 306 = .ok (.ishl, 1) := by decide +kernel
theorem d_Md_multipleKey_307 : decode c_Md_multipleKey 307 = .ok (.ior, 1) := by decide +kernel
theorem d_Md_multipleKey_308 : decode c_Md_multipleKey 308 = .ok (.goto 4, 3) := by decide +kernel
theorem d_Md_multipleKey_311 : decode c_Md_multipleKey 311 = .ok (.iload_n 2, 1) := by decide +kernel
theorem d_Md_multipleKey_312 : decode c_Md_multipleKey 312 = .ok (.istore_n 2, 1) := by decide +kernel
theorem d_Md_multipleKey_313 : decode c_Md_multipleKey 313 = .ok (.iinc 3 1, 3) := by decide +kernel
theorem d_Md_multipleKey_316 : decode c_Md_multipleKey 316 = .ok (.goto (-56), 3) := by decide +kernel
theorem d_Md_multipleKey_319 : decode c_Md_multipleKey 319 = .ok (.aload_n 0, 1) := by decide +kernel
theorem d_Md_multipleKey_320 : decode c_Md_multipleKey 320 = .ok (.getfield 13, 3) := by decide +kernel
theorem d_Md_multipleKey_323 : decode c_Md_multipleKey 323 = .ok (.iload_n 1, 1) := by decide +kernel
theorem d_Md_multipleKey_324 : decode c_Md_multipleKey 324 = .ok (.iload_n 2, 1) := by decide +kernel
theorem d_Md_multipleKey_325 : decode c_Md_multipleKey 325 = .ok (.iastore, 1) := by decide +kernel
theorem d_Md_multipleKey_326 : decode c_Md_multipleKey 326 = .ok (.iinc 1 1, 3) := by decide +kernel
theorem d_Md_multipleKey_329 : decode c_Md_multipleKey 329 = .ok (.goto (-79), 3) := by decide +kernel
theorem d_Md_multipleKey_332 : decode c_Md_multipleKey 332 = .ok (.return_, 1) := by decide +kernel
set_option maxRecDepth 100000 in
set_option maxHeartbeats 4000000 in
/-- MULTIPLE -/
theorem m_Md_multipleKey (l : Launch) (G : wG) (A : Nat → Prop) (ad : Nat → Nat) (ev : Nat → va_E) (K X F : Nat → Nat) (fr wd : Row) (tl ol cd : Nat) (h37 : ev 37 = eO 5 [.ref (ad 38), .int (nI tl), .int (nI ol), .int (nI cd), .ref (ad 39), .ref (ad 40), .ref (ad 41), .ref (ad 42), .ref (ad 43), .ref (ad 44), .ref (ad 45), .ref (ad 46), .ref (ad 47), .ref (ad 48), .ref (ad 49), .ref (ad 50)]) (h38 : ev 38 = eI G 312 (ns F)) (h39 : ev 39 = eI G 32 (ns K)) (h44 : ev 44 = eJ G 160 fr) (h45 : ev 45 = eJ G 20 wd) (hF : ∀ j, j < 32 → F (56 + j) = X j) (hK : ∀ j, K j < 256) (hX : ∀ j, X j < 256) : wM l y_Md_multipleKey w_Md_multipleKey ({ frames := 9, cells := 0, slots := 0, locals := 300 }) G A 52 ad ev [.ref (ad 37)] (fun ov ev' => ov = none ∧ ∃ (w' r' : Row), ev' = (va_up (va_up (va_up ev 45 (eJ G 20 w')) 44 (eJ G 160 r')) 39 (eI G 32 (ns (MULM K X))))) := by
  refine wv_ofW (cc := c_Md_multipleKey) (maxL := 5) (ret := none) (by decide) rfl (Nat.le_of_ble_eq_true rfl) ?_
  intro p e s m below meth c ls hx hb hr hml hts hown hlocks hini h hl
  have hl : lv_has ls 5 [(0, .ref (ad 37))] := hl
  obtain ⟨R, hRfr⟩ : ∃ R, fr = flat R := ⟨_, flat_of fr⟩
  rw [hRfr] at h44
  refine lv_aload_n hx hb d_Md_multipleKey_0 rfl (lv_at hl 0 rfl) ?_
  refine lv_iconst (v := nI (0)) hx hb d_Md_multipleKey_1 (by decide) ?_
  refine lv_lconst (v := 1) hx hb d_Md_multipleKey_2 (by decide) ?_
  refine wv_V (As := [.int (nI (0)), .long (1)]) (rest := []) (k := 2) ⟨hx, hb, hml, hown, hts⟩ h 37 (by decide) (C := "NonceBoxModel") h37 rfl (m_Md_set l G A ad ev 0 1 R tl ol cd h37 h44 (by decide)) kc_Md_set kl_Md_159 km_Md_set kv_Md_set ki_Md (by decide +kernel) ⟨rfl, rfl, Nat.le_of_ble_eq_true rfl, Nat.le_of_ble_eq_true rfl⟩ hl.1 rfl rfl (Nat.le_of_ble_eq_true rfl) ⟨Nat.le_refl _, Nat.le_refl _⟩ d_Md_multipleKey_3 ?_
  intro ov ev1 H locs hp h
  rw [hp.1]
  refine W.eq (g2 := F0 m 6 ls []) rfl ?_
  have o1 : ev1 = (va_up ev 44 (eJ G 160 (flat (va_up R 0 (rowL 1))))) := hp.2
  have t1_44 : ev1 44 = eJ G 160 (flat (va_up R 0 (rowL 1))) := by rw [o1, va_up_self]
  have t1_38 := (show ev1 38 = ev 38 by rw [o1, va_up_ne _ _ (by decide)]).trans h38
  have t1_39 := (show ev1 39 = ev 39 by rw [o1, va_up_ne _ _ (by decide)]).trans h39
  have t1_45 := (show ev1 45 = ev 45 by rw [o1, va_up_ne _ _ (by decide)]).trans h45
  have t1_37 := (show ev1 37 = ev 37 by rw [o1, va_up_ne _ _ (by decide)]).trans h37
  obtain ⟨R1, hR1⟩ : ∃ z, z = va_up R 0 (rowL 1) := ⟨_, rfl⟩
  rw [← hR1] at t1_44
  have n_R1_0 : Rm (R1 0) (1) := by rw [hR1, va_up_self]; exact (rowL_R (v := 1) (by decide) (by decide))
  refine lv_aload_n hx hb d_Md_multipleKey_6 rfl (lv_at hl 0 rfl) ?_
  refine lv_iconst (v := nI (1)) hx hb d_Md_multipleKey_7 (by decide) ?_
  refine lv_lconst (v := 0) hx hb d_Md_multipleKey_8 (by decide) ?_
  refine wv_V (As := [.int (nI (1)), .long (0)]) (rest := []) (k := 2) ⟨hx, hb, hml, hown, hts⟩ h 37 (by decide) (C := "NonceBoxModel") t1_37 rfl (m_Md_set l G A ad ev1 1 0 R1 tl ol cd t1_37 t1_44 (by decide)) kc_Md_set kl_Md_159 km_Md_set kv_Md_set ki_Md (by decide +kernel) ⟨rfl, rfl, Nat.le_of_ble_eq_true rfl, Nat.le_of_ble_eq_true rfl⟩ hl.1 rfl rfl (Nat.le_of_ble_eq_true rfl) ⟨Nat.le_refl _, Nat.le_refl _⟩ d_Md_multipleKey_9 ?_
  intro ov ev2 H locs hp h
  rw [hp.1]
  refine W.eq (g2 := F0 m 12 ls []) rfl ?_
  have o2 : ev2 = (va_up ev1 44 (eJ G 160 (flat (va_up R1 1 (rowL 0))))) := hp.2
  have t2_44 : ev2 44 = eJ G 160 (flat (va_up R1 1 (rowL 0))) := by rw [o2, va_up_self]
  have t2_38 := (show ev2 38 = ev1 38 by rw [o2, va_up_ne _ _ (by decide)]).trans t1_38
  have t2_39 := (show ev2 39 = ev1 39 by rw [o2, va_up_ne _ _ (by decide)]).trans t1_39
  have t2_45 := (show ev2 45 = ev1 45 by rw [o2, va_up_ne _ _ (by decide)]).trans t1_45
  have t2_37 := (show ev2 37 = ev1 37 by rw [o2, va_up_ne _ _ (by decide)]).trans t1_37
  obtain ⟨R2, hR2⟩ : ∃ z, z = va_up R1 1 (rowL 0) := ⟨_, rfl⟩
  rw [← hR2] at t2_44
  have n_R2_0 : Rm (R2 0) (1) := by rw [hR2, va_up_ne _ _ (by decide)]; exact n_R1_0
  have n_R2_1 : Rm (R2 1) (0) := by rw [hR2, va_up_self]; exact (rowL_R (v := 0) (by decide) (by decide))
  refine lv_aload_n hx hb d_Md_multipleKey_12 rfl (lv_at hl 0 rfl) ?_
  refine lv_iconst (v := nI (3)) hx hb d_Md_multipleKey_13 (by decide) ?_
  refine lv_lconst (v := 1) hx hb d_Md_multipleKey_14 (by decide) ?_
  refine wv_V (As := [.int (nI (3)), .long (1)]) (rest := []) (k := 2) ⟨hx, hb, hml, hown, hts⟩ h 37 (by decide) (C := "NonceBoxModel") t2_37 rfl (m_Md_set l G A ad ev2 3 1 R2 tl ol cd t2_37 t2_44 (by decide)) kc_Md_set kl_Md_159 km_Md_set kv_Md_set ki_Md (by decide +kernel) ⟨rfl, rfl, Nat.le_of_ble_eq_true rfl, Nat.le_of_ble_eq_true rfl⟩ hl.1 rfl rfl (Nat.le_of_ble_eq_true rfl) ⟨Nat.le_refl _, Nat.le_refl _⟩ d_Md_multipleKey_15 ?_
  intro ov ev3 H locs hp h
  rw [hp.1]
  refine W.eq (g2 := F0 m 18 ls []) rfl ?_
  have o3 : ev3 = (va_up ev2 44 (eJ G 160 (flat (va_up R2 3 (rowL 1))))) := hp.2
  have t3_44 : ev3 44 = eJ G 160 (flat (va_up R2 3 (rowL 1))) := by rw [o3, va_up_self]
  have t3_38 := (show ev3 38 = ev2 38 by rw [o3, va_up_ne _ _ (by decide)]).trans t2_38
  have t3_39 := (show ev3 39 = ev2 39 by rw [o3, va_up_ne _ _ (by decide)]).trans t2_39
  have t3_45 := (show ev3 45 = ev2 45 by rw [o3, va_up_ne _ _ (by decide)]).trans t2_45
  have t3_37 := (show ev3 37 = ev2 37 by rw [o3, va_up_ne _ _ (by decide)]).trans t2_37
  obtain ⟨R3, hR3⟩ : ∃ z, z = va_up R2 3 (rowL 1) := ⟨_, rfl⟩
  rw [← hR3] at t3_44
  have n_R3_0 : Rm (R3 0) (1) := by rw [hR3, va_up_ne _ _ (by decide)]; exact n_R2_0
  have n_R3_1 : Rm (R3 1) (0) := by rw [hR3, va_up_ne _ _ (by decide)]; exact n_R2_1
  have n_R3_3 : Rm (R3 3) (1) := by rw [hR3, va_up_self]; exact (rowL_R (v := 1) (by decide) (by decide))
  refine lv_aload_n hx hb d_Md_multipleKey_18 rfl (lv_at hl 0 rfl) ?_
  refine lv_iconst (v := nI (4)) hx hb d_Md_multipleKey_19 (by decide) ?_
  refine lv_lconst (v := 0) hx hb d_Md_multipleKey_20 (by decide) ?_
  refine wv_V (As := [.int (nI (4)), .long (0)]) (rest := []) (k := 2) ⟨hx, hb, hml, hown, hts⟩ h 37 (by decide) (C := "NonceBoxModel") t3_37 rfl (m_Md_set l G A ad ev3 4 0 R3 tl ol cd t3_37 t3_44 (by decide)) kc_Md_set kl_Md_159 km_Md_set kv_Md_set ki_Md (by decide +kernel) ⟨rfl, rfl, Nat.le_of_ble_eq_true rfl, Nat.le_of_ble_eq_true rfl⟩ hl.1 rfl rfl (Nat.le_of_ble_eq_true rfl) ⟨Nat.le_refl _, Nat.le_refl _⟩ d_Md_multipleKey_21 ?_
  intro ov ev4 H locs hp h
  rw [hp.1]
  refine W.eq (g2 := F0 m 24 ls []) rfl ?_
  have o4 : ev4 = (va_up ev3 44 (eJ G 160 (flat (va_up R3 4 (rowL 0))))) := hp.2
  have t4_44 : ev4 44 = eJ G 160 (flat (va_up R3 4 (rowL 0))) := by rw [o4, va_up_self]
  have t4_38 := (show ev4 38 = ev3 38 by rw [o4, va_up_ne _ _ (by decide)]).trans t3_38
  have t4_39 := (show ev4 39 = ev3 39 by rw [o4, va_up_ne _ _ (by decide)]).trans t3_39
  have t4_45 := (show ev4 45 = ev3 45 by rw [o4, va_up_ne _ _ (by decide)]).trans t3_45
  have t4_37 := (show ev4 37 = ev3 37 by rw [o4, va_up_ne _ _ (by decide)]).trans t3_37
  obtain ⟨R4, hR4⟩ : ∃ z, z = va_up R3 4 (rowL 0) := ⟨_, rfl⟩
  rw [← hR4] at t4_44
  have n_R4_0 : Rm (R4 0) (1) := by rw [hR4, va_up_ne _ _ (by decide)]; exact n_R3_0
  have n_R4_1 : Rm (R4 1) (0) := by rw [hR4, va_up_ne _ _ (by decide)]; exact n_R3_1
  have n_R4_3 : Rm (R4 3) (1) := by rw [hR4, va_up_ne _ _ (by decide)]; exact n_R3_3
  have n_R4_4 : Rm (R4 4) (0) := by rw [hR4, va_up_self]; exact (rowL_R (v := 0) (by decide) (by decide))
  have e4 : R4 4 = fun _ => 0 := by rw [hR4, va_up_self, rowL_0]
  refine lv_aload_n hx hb d_Md_multipleKey_24 rfl (lv_at hl 0 rfl) ?_
  refine lv_bipush (v := nI (13)) hx hb d_Md_multipleKey_25 (by decide) ?_
  refine lv_ldc2 (v := 121665) hx hb hown (hts _ (List.mem_cons_of_mem _ ko_Md_163)) d_Md_multipleKey_27 ?_
  refine wv_V (As := [.int (nI (13)), .long (121665)]) (rest := []) (k := 2) ⟨hx, hb, hml, hown, hts⟩ h 37 (by decide) (C := "NonceBoxModel") t4_37 rfl (m_Md_set l G A ad ev4 13 121665 R4 tl ol cd t4_37 t4_44 (by decide)) kc_Md_set kl_Md_159 km_Md_set kv_Md_set ki_Md (by decide +kernel) ⟨rfl, rfl, Nat.le_of_ble_eq_true rfl, Nat.le_of_ble_eq_true rfl⟩ hl.1 rfl rfl (Nat.le_of_ble_eq_true rfl) ⟨Nat.le_refl _, Nat.le_refl _⟩ d_Md_multipleKey_30 ?_
  intro ov ev5 H locs hp h
  rw [hp.1]
  refine W.eq (g2 := F0 m 33 ls []) rfl ?_
  have o5 : ev5 = (va_up ev4 44 (eJ G 160 (flat (va_up R4 13 (rowL 121665))))) := hp.2
  have t5_44 : ev5 44 = eJ G 160 (flat (va_up R4 13 (rowL 121665))) := by rw [o5, va_up_self]
  have t5_38 := (show ev5 38 = ev4 38 by rw [o5, va_up_ne _ _ (by decide)]).trans t4_38
  have t5_39 := (show ev5 39 = ev4 39 by rw [o5, va_up_ne _ _ (by decide)]).trans t4_39
  have t5_45 := (show ev5 45 = ev4 45 by rw [o5, va_up_ne _ _ (by decide)]).trans t4_45
  have t5_37 := (show ev5 37 = ev4 37 by rw [o5, va_up_ne _ _ (by decide)]).trans t4_37
  obtain ⟨R5, hR5⟩ : ∃ z, z = va_up R4 13 (rowL 121665) := ⟨_, rfl⟩
  rw [← hR5] at t5_44
  have n_R5_0 : Rm (R5 0) (1) := by rw [hR5, va_up_ne _ _ (by decide)]; exact n_R4_0
  have n_R5_1 : Rm (R5 1) (0) := by rw [hR5, va_up_ne _ _ (by decide)]; exact n_R4_1
  have n_R5_3 : Rm (R5 3) (1) := by rw [hR5, va_up_ne _ _ (by decide)]; exact n_R4_3
  have n_R5_4 : Rm (R5 4) (0) := by rw [hR5, va_up_ne _ _ (by decide)]; exact n_R4_4
  have n_R5_13 : Rm (R5 13) (121665) := by rw [hR5, va_up_self]; exact (rowL_R (v := 121665) (by decide) (by decide))
  have e4 : R5 4 = fun _ => 0 := by rw [hR5, va_up_ne _ _ (by decide), e4]
  refine lv_iconst (v := nI (0)) hx hb d_Md_multipleKey_33 (by decide) ?_
  refine lv_istore_n (lv' := [(1, .int (nI (0))), (0, .ref (ad 37))]) hx hb d_Md_multipleKey_34 rfl hl (by decide) rfl (fun ls hl => ?_)
  have loop6 : ∀ (d k : Nat), k + d = 255 →  ∀ (ev6 : Nat → va_E) (H : Heap) (locs : List Loc) (ls : Array Slot), ev6 = (va_up ev5 44 (eJ G 160 (flat (va_up R5 4 (adBit (fun _ => 0) (PNTB X) k))))) → wT G A 52 ad ev6 s H locs → lv_has ls 5 [(1, .int (nI (k))), (0, .ref (ad 37))] → W p l e ({ frames := 9, cells := 0, slots := 0, locals := 300 }) s m ([.ref (ad 37)] : List Value).toArray below meth c H locs 0 0 (MQ below (wQc G A 52 ad (fun ov ev' => ov = none ∧ ∃ (w' r' : Row), ev' = (va_up (va_up (va_up ev 45 (eJ G 20 w')) 44 (eJ G 160 r')) 39 (eI G 32 (ns (MULM K X)))))) ([.ref (ad 37)] : List Value).toArray s 0 0 A) (F0 m 35 ls []) := by
    intro d
    induction d with
    | zero =>
      intro k hk_k  ev6 H locs ls  o6 h hl
      have t6_44 : ev6 44 = eJ G 160 (flat (va_up R5 4 (adBit (fun _ => 0) (PNTB X) k))) := by rw [o6, va_up_self]
      have t6_38 := (show ev6 38 = ev5 38 by rw [o6, va_up_ne _ _ (by decide)]).trans t5_38
      have t6_39 := (show ev6 39 = ev5 39 by rw [o6, va_up_ne _ _ (by decide)]).trans t5_39
      have t6_45 := (show ev6 45 = ev5 45 by rw [o6, va_up_ne _ _ (by decide)]).trans t5_45
      have t6_37 := (show ev6 37 = ev5 37 by rw [o6, va_up_ne _ _ (by decide)]).trans t5_37
      refine lv_iload_n hx hb d_Md_multipleKey_35 rfl (lv_at hl 0 rfl) ?_
      refine lv_sipush (v := nI (255)) hx hb d_Md_multipleKey_36 (by decide) ?_
      refine lv_icmp_ge (tgt := 98) hx hb d_Md_multipleKey_39 (by decide) (fun _ => ?_) (fun hc => absurd ((nI_leI (by omega) (by omega)).mpr (by omega)) hc)
      rw [show k = 255 by omega] at t6_44
      obtain ⟨R6, hR6⟩ : ∃ z, z = va_up R5 4 (adBit (fun _ => 0) (PNTB X) 255) := ⟨_, rfl⟩
      rw [← hR6] at t6_44
      have n_R6_0 : Rm (R6 0) (1) := by rw [hR6, va_up_ne _ _ (by decide)]; exact n_R5_0
      have n_R6_1 : Rm (R6 1) (0) := by rw [hR6, va_up_ne _ _ (by decide)]; exact n_R5_1
      have n_R6_3 : Rm (R6 3) (1) := by rw [hR6, va_up_ne _ _ (by decide)]; exact n_R5_3
      have n_R6_13 : Rm (R6 13) (121665) := by rw [hR6, va_up_ne _ _ (by decide)]; exact n_R5_13
      have n_R6_4 : Rm (R6 4) (uI X) := by rw [hR6, va_up_self]; exact uT_R hX
      refine lv_aload_n hx hb d_Md_multipleKey_98 rfl (lv_at hl 1 rfl) ?_
      refine lv_iconst (v := nI (2)) hx hb d_Md_multipleKey_99 (by decide) ?_
      refine lv_iconst (v := nI (4)) hx hb d_Md_multipleKey_100 (by decide) ?_
      refine wv_V (As := [.int (nI (2)), .int (nI (4))]) (rest := []) (k := 2) ⟨hx, hb, hml, hown, hts⟩ h 37 (by decide) (C := "NonceBoxModel") t6_37 rfl (m_Md_copy l G A ad ev6 2 4 R6 tl ol cd t6_37 t6_44 (by decide) (by decide)) kc_Md_copy kl_Md_165 km_Md_copy kv_Md_copy ki_Md (by decide +kernel) ⟨rfl, rfl, Nat.le_of_ble_eq_true rfl, Nat.le_of_ble_eq_true rfl⟩ hl.1 rfl rfl (Nat.le_of_ble_eq_true rfl) ⟨Nat.le_refl _, Nat.le_refl _⟩ d_Md_multipleKey_101 ?_
      intro ov ev7 H locs hp h
      rw [hp.1]
      refine W.eq (g2 := F0 m 104 ls []) rfl ?_
      have o7 : ev7 = (va_up ev6 44 (eJ G 160 (flat (va_up R6 2 (R6 4))))) := hp.2
      have t7_44 : ev7 44 = eJ G 160 (flat (va_up R6 2 (R6 4))) := by rw [o7, va_up_self]
      have t7_38 := (show ev7 38 = ev6 38 by rw [o7, va_up_ne _ _ (by decide)]).trans t6_38
      have t7_39 := (show ev7 39 = ev6 39 by rw [o7, va_up_ne _ _ (by decide)]).trans t6_39
      have t7_45 := (show ev7 45 = ev6 45 by rw [o7, va_up_ne _ _ (by decide)]).trans t6_45
      have t7_37 := (show ev7 37 = ev6 37 by rw [o7, va_up_ne _ _ (by decide)]).trans t6_37
      obtain ⟨R7, hR7⟩ : ∃ z, z = va_up R6 2 (R6 4) := ⟨_, rfl⟩
      rw [← hR7] at t7_44
      have n_R7_0 : Rm (R7 0) (1) := by rw [hR7, va_up_ne _ _ (by decide)]; exact n_R6_0
      have n_R7_1 : Rm (R7 1) (0) := by rw [hR7, va_up_ne _ _ (by decide)]; exact n_R6_1
      have n_R7_3 : Rm (R7 3) (1) := by rw [hR7, va_up_ne _ _ (by decide)]; exact n_R6_3
      have n_R7_13 : Rm (R7 13) (121665) := by rw [hR7, va_up_ne _ _ (by decide)]; exact n_R6_13
      have n_R7_4 : Rm (R7 4) (uI X) := by rw [hR7, va_up_ne _ _ (by decide)]; exact n_R6_4
      have n_R7_2 : Rm (R7 2) (uI X) := by rw [hR7, va_up_self]; exact n_R6_4
      refine lv_sipush (v := nI (254)) hx hb d_Md_multipleKey_104 (by decide) ?_
      refine lv_istore_n (lv' := [(1, .int (nI (254))), (0, .ref (ad 37))]) hx hb d_Md_multipleKey_107 rfl hl (by decide) rfl (fun ls hl => ?_)
      have loop8 : ∀ (d m0 : Nat), m0 + d = 255 → ∀ (Wx : Row) (Rx : Nat → Row),  ∀ (ev8 : Nat → va_E) (H : Heap) (locs : List Loc) (ls : Array Slot), LI X (KEYB K) Rx m0 → ev8 = (va_up (va_up ev7 45 (eJ G 20 Wx)) 44 (eJ G 160 (flat Rx))) → wT G A 52 ad ev8 s H locs → lv_has ls 5 [(1, .int (dn d)), (0, .ref (ad 37))] → W p l e ({ frames := 9, cells := 0, slots := 0, locals := 300 }) s m ([.ref (ad 37)] : List Value).toArray below meth c H locs 0 0 (MQ below (wQc G A 52 ad (fun ov ev' => ov = none ∧ ∃ (w' r' : Row), ev' = (va_up (va_up (va_up ev 45 (eJ G 20 w')) 44 (eJ G 160 r')) 39 (eI G 32 (ns (MULM K X)))))) ([.ref (ad 37)] : List Value).toArray s 0 0 A) (F0 m 108 ls []) := by
        intro d
        induction d with
        | zero =>
          intro m0 hk_m0 Wx Rx ev8 H locs ls hLI o8 h hl
          have hl : lv_has ls 5 [(1, .int ((-1 : Int32))), (0, .ref (ad 37))] := hl
          have t8_45 : ev8 45 = eJ G 20 Wx := by rw [o8, va_up_ne _ _ (by decide), va_up_self]
          have t8_44 : ev8 44 = eJ G 160 (flat Rx) := by rw [o8, va_up_self]
          have t8_38 := (show ev8 38 = ev7 38 by rw [o8, va_up_ne _ _ (by decide), va_up_ne _ _ (by decide)]).trans t7_38
          have t8_39 := (show ev8 39 = ev7 39 by rw [o8, va_up_ne _ _ (by decide), va_up_ne _ _ (by decide)]).trans t7_39
          have t8_37 := (show ev8 37 = ev7 37 by rw [o8, va_up_ne _ _ (by decide), va_up_ne _ _ (by decide)]).trans t7_37
          refine lv_iload_n hx hb d_Md_multipleKey_108 rfl (lv_at hl 0 rfl) ?_
          refine lv_if_lt (tgt := 192) hx hb d_Md_multipleKey_109 (by decide) (fun _ => ?_) (fun hc => absurd (by decide) hc)
          rw [show m0 = 255 by omega] at hLI
          obtain ⟨l0, l1, l2, l3, l4, l13⟩ := hLI
          refine lv_aload_n hx hb d_Md_multipleKey_192 rfl (lv_at hl 1 rfl) ?_
          refine lv_iconst (v := nI (5)) hx hb d_Md_multipleKey_193 (by decide) ?_
          refine lv_lconst (v := 1) hx hb d_Md_multipleKey_194 (by decide) ?_
          refine wv_V (As := [.int (nI (5)), .long (1)]) (rest := []) (k := 2) ⟨hx, hb, hml, hown, hts⟩ h 37 (by decide) (C := "NonceBoxModel") t8_37 rfl (m_Md_set l G A ad ev8 5 1 Rx tl ol cd t8_37 t8_44 (by decide)) kc_Md_set kl_Md_159 km_Md_set kv_Md_set ki_Md (by decide +kernel) ⟨rfl, rfl, Nat.le_of_ble_eq_true rfl, Nat.le_of_ble_eq_true rfl⟩ hl.1 rfl rfl (Nat.le_of_ble_eq_true rfl) ⟨Nat.le_refl _, Nat.le_refl _⟩ d_Md_multipleKey_195 ?_
          intro ov ev9 H locs hp h
          rw [hp.1]
          refine W.eq (g2 := F0 m 198 ls []) rfl ?_
          have o9 : ev9 = (va_up ev8 44 (eJ G 160 (flat (va_up Rx 5 (rowL 1))))) := hp.2
          have t9_44 : ev9 44 = eJ G 160 (flat (va_up Rx 5 (rowL 1))) := by rw [o9, va_up_self]
          have t9_38 := (show ev9 38 = ev8 38 by rw [o9, va_up_ne _ _ (by decide)]).trans t8_38
          have t9_39 := (show ev9 39 = ev8 39 by rw [o9, va_up_ne _ _ (by decide)]).trans t8_39
          have t9_45 := (show ev9 45 = ev8 45 by rw [o9, va_up_ne _ _ (by decide)]).trans t8_45
          have t9_37 := (show ev9 37 = ev8 37 by rw [o9, va_up_ne _ _ (by decide)]).trans t8_37
          obtain ⟨S1, hS1⟩ : ∃ z, z = va_up Rx 5 (rowL 1) := ⟨_, rfl⟩
          rw [← hS1] at t9_44
          have n_S1_0 : Rm (S1 0) ((ladI (uI X) (KEYB K) 255).1) := by rw [hS1, va_up_ne _ _ (by decide)]; exact l0
          have n_S1_1 : Rm (S1 1) ((ladI (uI X) (KEYB K) 255).2.1) := by rw [hS1, va_up_ne _ _ (by decide)]; exact l1
          have n_S1_5 : Rm (S1 5) (1) := by rw [hS1, va_up_self]; exact (rowL_R (v := 1) (by decide) (by decide))
          refine lv_sipush (v := nI (254)) hx hb d_Md_multipleKey_198 (by decide) ?_
          refine lv_istore_n (lv' := [(1, .int (nI (254))), (0, .ref (ad 37))]) hx hb d_Md_multipleKey_201 rfl hl (by decide) rfl (fun ls hl => ?_)
          have loop10 : ∀ (d n0 : Nat), n0 + d = 255 → ∀ (Wy : Row) (Ry : Nat → Row),  ∀ (ev10 : Nat → va_E) (H : Heap) (locs : List Loc) (ls : Array Slot), (Rm (Ry 0) ((ladI (uI X) (KEYB K) 255).1) ∧ Rm (Ry 1) ((ladI (uI X) (KEYB K) 255).2.1) ∧ Rm (Ry 5) (jvI ((ladI (uI X) (KEYB K) 255).2.1) n0)) → ev10 = (va_up (va_up ev9 45 (eJ G 20 Wy)) 44 (eJ G 160 (flat Ry))) → wT G A 52 ad ev10 s H locs → lv_has ls 5 [(1, .int (dn d)), (0, .ref (ad 37))] → W p l e ({ frames := 9, cells := 0, slots := 0, locals := 300 }) s m ([.ref (ad 37)] : List Value).toArray below meth c H locs 0 0 (MQ below (wQc G A 52 ad (fun ov ev' => ov = none ∧ ∃ (w' r' : Row), ev' = (va_up (va_up (va_up ev 45 (eJ G 20 w')) 44 (eJ G 160 r')) 39 (eI G 32 (ns (MULM K X)))))) ([.ref (ad 37)] : List Value).toArray s 0 0 A) (F0 m 202 ls []) := by
            intro d
            induction d with
            | zero =>
              intro n0 hk_n0 Wy Ry ev10 H locs ls hJI o10 h hl
              have hl : lv_has ls 5 [(1, .int ((-1 : Int32))), (0, .ref (ad 37))] := hl
              have t10_45 : ev10 45 = eJ G 20 Wy := by rw [o10, va_up_ne _ _ (by decide), va_up_self]
              have t10_44 : ev10 44 = eJ G 160 (flat Ry) := by rw [o10, va_up_self]
              have t10_38 := (show ev10 38 = ev9 38 by rw [o10, va_up_ne _ _ (by decide), va_up_ne _ _ (by decide)]).trans t9_38
              have t10_39 := (show ev10 39 = ev9 39 by rw [o10, va_up_ne _ _ (by decide), va_up_ne _ _ (by decide)]).trans t9_39
              have t10_37 := (show ev10 37 = ev9 37 by rw [o10, va_up_ne _ _ (by decide), va_up_ne _ _ (by decide)]).trans t9_37
              refine lv_iload_n hx hb d_Md_multipleKey_202 rfl (lv_at hl 0 rfl) ?_
              refine lv_if_lt (tgt := 236) hx hb d_Md_multipleKey_203 (by decide) (fun _ => ?_) (fun hc => absurd (by decide) hc)
              rw [show n0 = 254 + 1 by omega, jv_iv] at hJI
              obtain ⟨j0, j1, j5⟩ := hJI
              refine lv_aload_n hx hb d_Md_multipleKey_236 rfl (lv_at hl 1 rfl) ?_
              refine lv_iconst (v := nI (5)) hx hb d_Md_multipleKey_237 (by decide) ?_
              refine lv_iconst (v := nI (5)) hx hb d_Md_multipleKey_238 (by decide) ?_
              refine lv_iconst (v := nI (0)) hx hb d_Md_multipleKey_239 (by decide) ?_
              refine wv_V (As := [.int (nI (5)), .int (nI (5)), .int (nI (0))]) (rest := []) (k := 3) ⟨hx, hb, hml, hown, hts⟩ h 37 (by decide) (C := "NonceBoxModel") t10_37 rfl (m_Md_times l G A ad ev10 5 5 0 Wy Ry tl ol cd t10_37 t10_44 t10_45 (by decide) (by decide) (by decide)) kc_Md_times kl_Md_152 km_Md_times kv_Md_times ki_Md (by decide +kernel) ⟨rfl, rfl, Nat.le_of_ble_eq_true rfl, Nat.le_of_ble_eq_true rfl⟩ hl.1 rfl rfl (Nat.le_of_ble_eq_true rfl) ⟨Nat.le_refl _, Nat.le_refl _⟩ d_Md_multipleKey_240 ?_
              intro ov ev11 H locs hp h
              rw [hp.1]
              refine W.eq (g2 := F0 m 243 ls []) rfl ?_
              have o11 : ev11 = (va_up (va_up ev10 45 (eJ G 20 (wdC (Ry 5) (Ry 0) 10))) 44 (eJ G 160 (flat (va_up Ry 5 (rtm (Ry 5) (Ry 0)))))) := hp.2
              have t11_45 : ev11 45 = eJ G 20 (wdC (Ry 5) (Ry 0) 10) := by rw [o11, va_up_ne _ _ (by decide), va_up_self]
              have t11_44 : ev11 44 = eJ G 160 (flat (va_up Ry 5 (rtm (Ry 5) (Ry 0)))) := by rw [o11, va_up_self]
              have t11_38 := (show ev11 38 = ev10 38 by rw [o11, va_up_ne _ _ (by decide), va_up_ne _ _ (by decide)]).trans t10_38
              have t11_39 := (show ev11 39 = ev10 39 by rw [o11, va_up_ne _ _ (by decide), va_up_ne _ _ (by decide)]).trans t10_39
              have t11_37 := (show ev11 37 = ev10 37 by rw [o11, va_up_ne _ _ (by decide), va_up_ne _ _ (by decide)]).trans t10_37
              obtain ⟨T1, hT1⟩ : ∃ z, z = va_up Ry 5 (rtm (Ry 5) (Ry 0)) := ⟨_, rfl⟩
              rw [← hT1] at t11_44
              have n_T1_0 : Rm (T1 0) ((ladI (uI X) (KEYB K) 255).1) := by rw [hT1, va_up_ne _ _ (by decide)]; exact j0
              have n_T1_1 : Rm (T1 1) ((ladI (uI X) (KEYB K) 255).2.1) := by rw [hT1, va_up_ne _ _ (by decide)]; exact j1
              have n_T1_5 : Rm (T1 5) (ivI (ladI (uI X) (KEYB K) 255).2.1 254 * (ladI (uI X) (KEYB K) 255).1) := by rw [hT1, va_up_self]; exact Rm_tm j5 j0
              refine lv_aload_n hx hb d_Md_multipleKey_243 rfl (lv_at hl 1 rfl) ?_
              refine lv_iconst (v := nI (5)) hx hb d_Md_multipleKey_244 (by decide) ?_
              refine wv_V (As := [.int (nI (5))]) (rest := []) (k := 1) ⟨hx, hb, hml, hown, hts⟩ h 37 (by decide) (C := "NonceBoxModel") t11_37 rfl (m_Md_finish l G A ad ev11 5 T1 tl ol cd t11_37 t11_44 (by decide)) kc_Md_finish kl_Md_175 km_Md_finish kv_Md_finish ki_Md (by decide +kernel) ⟨rfl, rfl, Nat.le_of_ble_eq_true rfl, Nat.le_of_ble_eq_true rfl⟩ hl.1 rfl rfl (Nat.le_of_ble_eq_true rfl) ⟨Nat.le_refl _, Nat.le_refl _⟩ d_Md_multipleKey_245 ?_
              intro ov ev12 H locs hp h
              rw [hp.1]
              refine W.eq (g2 := F0 m 248 ls []) rfl ?_
              have o12 : ev12 = (va_up ev11 44 (eJ G 160 (flat (va_up T1 5 (fnT (T1 5)))))) := hp.2
              have t12_44 : ev12 44 = eJ G 160 (flat (va_up T1 5 (fnT (T1 5)))) := by rw [o12, va_up_self]
              have t12_38 := (show ev12 38 = ev11 38 by rw [o12, va_up_ne _ _ (by decide)]).trans t11_38
              have t12_39 := (show ev12 39 = ev11 39 by rw [o12, va_up_ne _ _ (by decide)]).trans t11_39
              have t12_45 := (show ev12 45 = ev11 45 by rw [o12, va_up_ne _ _ (by decide)]).trans t11_45
              have t12_37 := (show ev12 37 = ev11 37 by rw [o12, va_up_ne _ _ (by decide)]).trans t11_37
              obtain ⟨f5, hf5⟩ : ∃ z, z = fnT (T1 5) := ⟨_, rfl⟩
              rw [← hf5] at t12_44
              obtain ⟨hD, hvr, hvc⟩ := fnT_spec n_T1_5.1
              rw [← hf5] at hD hvr hvc
              have hmr : 0 ≤ mulI K X ∧ mulI K X < 57896044618658097711785492504343953926634992332820282019728792003956564819949 := ⟨Int.emod_nonneg _ (by decide), Int.emod_lt_of_pos _ (by decide)⟩
              have hvV : vI f5 10 = mulI K X := cg_u (cg_t hvc (cg_t n_T1_5.2 (by rw [Int.mul_comm]; exact cg_s (cg_e _ _)))) hvr hmr
              obtain ⟨V, hV⟩ : ∃ V : Nat, (V : Int) = vI f5 10 := ⟨(vI f5 10).toNat, Int.toNat_of_nonneg hvr.1⟩
              have hVlt : V < 57896044618658097711785492504343953926634992332820282019728792003956564819968 := by
                rw [← hV] at hvr
                omega
              have hT : ∀ j, MULM K X j = V / 2 ^ (8 * j) % 256 := by
                intro j
                unfold MULM
                rw [← hvV, ← hV]
                have e : (((V : Nat) : Int) / 2 ^ (8 * j) % 256) = ((V / 2 ^ (8 * j) % 256 : Nat) : Int) := by
                  rw [Int.natCast_emod, Int.natCast_ediv, Int.natCast_pow]
                  rfl
                rw [e]
                rfl
              have hVb : ∀ t, t < 260 → (sar (f5 (t / 26)) (t % 26) &&& 1).toInt32 = nI (V / 2 ^ t % 2) := by
                intro t ht
                rw [bit_i hD (by omega), ← hV]
                congr 1
              refine lv_iconst (v := nI (0)) hx hb d_Md_multipleKey_248 (by decide) ?_
              refine lv_istore_n (lv' := [(1, .int (nI (0))), (0, .ref (ad 37))]) hx hb d_Md_multipleKey_249 rfl hl (by decide) rfl (fun ls hl => ?_)
              have loop13 : ∀ (d k : Nat), k + d = 32 →  ∀ (ev13 : Nat → va_E) (H : Heap) (locs : List Loc) (ls : Array Slot), ev13 = (va_up ev12 39 (eI G 32 (ns (fil 0 k (MULM K X) K)))) → wT G A 52 ad ev13 s H locs → lv_has ls 5 [(1, .int (nI (k))), (0, .ref (ad 37))] → W p l e ({ frames := 9, cells := 0, slots := 0, locals := 300 }) s m ([.ref (ad 37)] : List Value).toArray below meth c H locs 0 0 (MQ below (wQc G A 52 ad (fun ov ev' => ov = none ∧ ∃ (w' r' : Row), ev' = (va_up (va_up (va_up ev 45 (eJ G 20 w')) 44 (eJ G 160 r')) 39 (eI G 32 (ns (MULM K X)))))) ([.ref (ad 37)] : List Value).toArray s 0 0 A) (F0 m 250 ls []) := by
                intro d
                induction d with
                | zero =>
                  intro k hk_k  ev13 H locs ls  o13 h hl
                  have t13_39 : ev13 39 = eI G 32 (ns (fil 0 k (MULM K X) K)) := by rw [o13, va_up_self]
                  have t13_38 := (show ev13 38 = ev12 38 by rw [o13, va_up_ne _ _ (by decide)]).trans t12_38
                  have t13_45 := (show ev13 45 = ev12 45 by rw [o13, va_up_ne _ _ (by decide)]).trans t12_45
                  have t13_44 := (show ev13 44 = ev12 44 by rw [o13, va_up_ne _ _ (by decide)]).trans t12_44
                  have t13_37 := (show ev13 37 = ev12 37 by rw [o13, va_up_ne _ _ (by decide)]).trans t12_37
                  refine lv_iload_n hx hb d_Md_multipleKey_250 rfl (lv_at hl 0 rfl) ?_
                  refine lv_bipush (v := nI (32)) hx hb d_Md_multipleKey_251 (by decide) ?_
                  refine lv_icmp_ge (tgt := 332) hx hb d_Md_multipleKey_253 (by decide) (fun _ => ?_) (fun hc => absurd ((nI_leI (by omega) (by omega)).mpr (by omega)) hc)
                  have h := wT_eqI (g := (ns (MULM K X))) h 39 (by decide) t13_39 (fun j hj => by unfold ns fil; rw [if_pos (by omega), Nat.sub_zero])
                  obtain ⟨ev14, o14⟩ : ∃ z, z = va_up ev13 39 (eI G 32 (ns (MULM K X))) := ⟨_, rfl⟩
                  rw [← o14] at h
                  have t14_39 : ev14 39 = eI G 32 (ns (MULM K X)) := by rw [o14, va_up_self]
                  have t14_38 := (show ev14 38 = ev13 38 by rw [o14, va_up_ne _ _ (by decide)]).trans t13_38
                  have t14_45 := (show ev14 45 = ev13 45 by rw [o14, va_up_ne _ _ (by decide)]).trans t13_45
                  have t14_44 := (show ev14 44 = ev13 44 by rw [o14, va_up_ne _ _ (by decide)]).trans t13_44
                  have t14_37 := (show ev14 37 = ev13 37 by rw [o14, va_up_ne _ _ (by decide)]).trans t13_37
                  refine wv_vret hx hb hr hlocks h d_Md_multipleKey_332 ⟨rfl, (wdC (Ry 5) (Ry 0) 10), (flat (va_up T1 5 f5)), ?_⟩
                  funext j
                  by_cases c0 : j = 45
                  · rw [c0, t14_45, va_up_ne _ _ (by decide), va_up_ne _ _ (by decide), va_up_self]
                  by_cases c1 : j = 44
                  · rw [c1, t14_44, va_up_ne _ _ (by decide), va_up_self]
                  by_cases c2 : j = 39
                  · rw [c2, t14_39, va_up_self]
                  rw [va_up_ne _ _ c2, va_up_ne _ _ c1, va_up_ne _ _ c0]
                  rw [o14, va_up_ne _ _ c2, o13, va_up_ne _ _ c2, o12, va_up_ne _ _ c1, o11, va_up_ne _ _ c1, va_up_ne _ _ c0, o10, va_up_ne _ _ c1, va_up_ne _ _ c0, o9, va_up_ne _ _ c1, o8, va_up_ne _ _ c1, va_up_ne _ _ c0, o7, va_up_ne _ _ c1, o6, va_up_ne _ _ c1, o5, va_up_ne _ _ c1, o4, va_up_ne _ _ c1, o3, va_up_ne _ _ c1, o2, va_up_ne _ _ c1, o1, va_up_ne _ _ c1]
                | succ d ih =>
                  intro k hk_k  ev13 H locs ls  o13 h hl
                  have t13_39 : ev13 39 = eI G 32 (ns (fil 0 k (MULM K X) K)) := by rw [o13, va_up_self]
                  have t13_38 := (show ev13 38 = ev12 38 by rw [o13, va_up_ne _ _ (by decide)]).trans t12_38
                  have t13_45 := (show ev13 45 = ev12 45 by rw [o13, va_up_ne _ _ (by decide)]).trans t12_45
                  have t13_44 := (show ev13 44 = ev12 44 by rw [o13, va_up_ne _ _ (by decide)]).trans t12_44
                  have t13_37 := (show ev13 37 = ev12 37 by rw [o13, va_up_ne _ _ (by decide)]).trans t12_37
                  refine lv_iload_n hx hb d_Md_multipleKey_250 rfl (lv_at hl 0 rfl) ?_
                  refine lv_bipush (v := nI (32)) hx hb d_Md_multipleKey_251 (by decide) ?_
                  refine lv_icmp_ge (tgt := 332) hx hb d_Md_multipleKey_253 (by decide) (fun hc => absurd ((nI_leI (by omega) (by omega)).mp hc) (by omega)) (fun _ => ?_)
                  refine lv_iconst (v := nI (0)) hx hb d_Md_multipleKey_256 (by decide) ?_
                  refine lv_istore_n (lv' := [(2, .int (nI (0))), (1, .int (nI (k))), (0, .ref (ad 37))]) hx hb d_Md_multipleKey_257 rfl hl (by decide) rfl (fun ls hl => ?_)
                  refine lv_iconst (v := nI (0)) hx hb d_Md_multipleKey_258 (by decide) ?_
                  refine lv_istore_n (lv' := [(3, .int (nI (0))), (2, .int (nI (0))), (1, .int (nI (k))), (0, .ref (ad 37))]) hx hb d_Md_multipleKey_259 rfl hl (by decide) rfl (fun ls hl => ?_)
                  have loopb : ∀ (d b : Nat), b + d = 8 → ∀ (ls : Array Slot), lv_has ls 5 [(3, .int (nI (b))), (2, .int (nI (V / 2 ^ (8 * k) % 2 ^ b))), (1, .int (nI (k))), (0, .ref (ad 37))] → W p l e ({ frames := 9, cells := 0, slots := 0, locals := 300 }) s m ([.ref (ad 37)] : List Value).toArray below meth c H locs 0 0 (MQ below (wQc G A 52 ad (fun ov ev' => ov = none ∧ ∃ (w' r' : Row), ev' = (va_up (va_up (va_up ev 45 (eJ G 20 w')) 44 (eJ G 160 r')) 39 (eI G 32 (ns (MULM K X)))))) ([.ref (ad 37)] : List Value).toArray s 0 0 A) (F0 m 260 ls []) := by
                    intro d2
                    induction d2 with
                    | zero =>
                      intro b hb8 ls hl
                      refine lv_iload_n hx hb d_Md_multipleKey_260 rfl (lv_at hl 0 rfl) ?_
                      refine lv_bipush (v := nI (8)) hx hb d_Md_multipleKey_261 (by decide) ?_
                      refine lv_icmp_ge (tgt := 319) hx hb d_Md_multipleKey_263 (by decide) (fun _ => ?_) (fun hc => absurd ((nI_leI (by omega) (by omega)).mpr (by omega)) hc)
                      rw [show b = 8 by omega, show (2 : Nat) ^ 8 = 256 from rfl, ← hT k] at hl
                      refine lv_aload_n hx hb d_Md_multipleKey_319 rfl (lv_at hl 3 rfl) ?_
                      refine wv_getf hx hb h 37 (by decide) (fs := [.ref (ad 38), .int (nI (tl)), .int (nI (ol)), .int (nI (cd)), .ref (ad 39), .ref (ad 40), .ref (ad 41), .ref (ad 42), .ref (ad 43), .ref (ad 44), .ref (ad 45), .ref (ad 46), .ref (ad 47), .ref (ad 48), .ref (ad 49), .ref (ad 50)]) t13_37 hts (fun w hw => List.mem_cons_of_mem _ (fW_Md w hw)) hown (ci := 5) (C := "NonceBoxModel") (T := fT_Md) (N := 16) rfl 4 (by decide) (hts _ (List.mem_cons_of_mem _ kf_Md_13)) rfl (v := .ref (ad 39)) rfl d_Md_multipleKey_320 ?_
                      refine lv_iload_n hx hb d_Md_multipleKey_323 rfl (lv_at hl 2 rfl) ?_
                      refine lv_iload_n hx hb d_Md_multipleKey_324 rfl (lv_at hl 1 rfl) ?_
                      refine wv_iast hx hb h 39 (by decide) (f := (ns (fil 0 k (MULM K X) K))) t13_39 (k := k) rfl (by omega) (by decide) d_Md_multipleKey_325 (fun H locs h => ?_)
                      obtain ⟨ev14, o14⟩ : ∃ z, z = va_up ev13 39 (eI G 32 (va_up ((ns (fil 0 k (MULM K X) K))) k (nI (MULM K X k)))) := ⟨_, rfl⟩
                      rw [← o14] at h
                      have t14_39 : ev14 39 = eI G 32 (va_up ((ns (fil 0 k (MULM K X) K))) k (nI (MULM K X k))) := by rw [o14, va_up_self]
                      have t14_38 := (show ev14 38 = ev13 38 by rw [o14, va_up_ne _ _ (by decide)]).trans t13_38
                      have t14_45 := (show ev14 45 = ev13 45 by rw [o14, va_up_ne _ _ (by decide)]).trans t13_45
                      have t14_44 := (show ev14 44 = ev13 44 by rw [o14, va_up_ne _ _ (by decide)]).trans t13_44
                      have t14_37 := (show ev14 37 = ev13 37 by rw [o14, va_up_ne _ _ (by decide)]).trans t13_37
                      rw [ns_up _ _ (MULM K X k) rfl] at o14
                      refine lv_iinc (v := nI (k + 1)) (lv' := [(1, .int (nI (k + 1))), (3, .int (nI (8))), (2, .int (nI (MULM K X k))), (0, .ref (ad 37))]) hx hb d_Md_multipleKey_326 hl (k := 2) rfl (nI_add _ _) (by decide) rfl (fun ls hl => ?_)
                      refine lv_goto (tgt := 250) hx hb d_Md_multipleKey_329 (by decide) ?_
                      refine ih (k + 1) (by omega) ev14 H locs ls ?_ h (lv_sub hl [0, 3] rfl)
                      rw [o14, o13, va_up2, ← fil_s 0 k (MULM K X) K rfl, Nat.zero_add]
                    | succ d2 ih2 =>
                      intro b hb8 ls hl
                      refine lv_iload_n hx hb d_Md_multipleKey_260 rfl (lv_at hl 0 rfl) ?_
                      refine lv_bipush (v := nI (8)) hx hb d_Md_multipleKey_261 (by decide) ?_
                      refine lv_icmp_ge (tgt := 319) hx hb d_Md_multipleKey_263 (by decide) (fun hc => absurd ((nI_leI (by omega) (by omega)).mp hc) (by omega)) (fun _ => ?_)
                      refine lv_bipush (v := nI (8)) hx hb d_Md_multipleKey_266 (by decide) ?_
                      refine lv_iload_n hx hb d_Md_multipleKey_268 rfl (lv_at hl 2 rfl) ?_
                      refine lv_imul hx hb d_Md_multipleKey_269 ?_
                      refine wv_top (w := nI (8 * k)) (pk_mul _ _) ?_
                      refine lv_iload_n hx hb d_Md_multipleKey_270 rfl (lv_at hl 0 rfl) ?_
                      refine lv_iadd hx hb d_Md_multipleKey_271 ?_
                      refine wv_top (w := nI ((8 * k) + b)) (nI_add _ _) ?_
                      refine lv_istore (lv' := [(4, .int (nI ((8 * k) + b))), (3, .int (nI (b))), (2, .int (nI (V / 2 ^ (8 * k) % 2 ^ b))), (1, .int (nI (k))), (0, .ref (ad 37))]) hx hb d_Md_multipleKey_272 hl (by decide) rfl (fun ls hl => ?_)
                      refine lv_iload hx hb d_Md_multipleKey_274 (lv_at hl 0 rfl) ?_
                      refine lv_sipush (v := nI (255)) hx hb d_Md_multipleKey_276 (by decide) ?_
                      refine lv_icmp_ge (tgt := 311) hx hb d_Md_multipleKey_279 (by decide) (fun hc => ?_) (fun hc => ?_)
                      · have hc := (nI_leI (by omega) (by omega)).mp hc
                        refine lv_iload_n hx hb d_Md_multipleKey_311 rfl (lv_at hl 2 rfl) ?_
                        refine wv_top (w := nI (V / 2 ^ (8 * k) % 2 ^ (b + 1))) (congrArg nI (by rw [show k = 31 by omega, show b = 7 by omega]; exact bit_end hVlt)) ?_
                        refine lv_istore_n (lv' := [(2, .int (nI (V / 2 ^ (8 * k) % 2 ^ (b + 1)))), (4, .int (nI ((8 * k) + b))), (3, .int (nI (b))), (1, .int (nI (k))), (0, .ref (ad 37))]) hx hb d_Md_multipleKey_312 rfl hl (by decide) rfl (fun ls hl => ?_)
                        refine lv_iinc (v := nI (b + 1)) (lv' := [(3, .int (nI (b + 1))), (2, .int (nI (V / 2 ^ (8 * k) % 2 ^ (b + 1)))), (4, .int (nI ((8 * k) + b))), (1, .int (nI (k))), (0, .ref (ad 37))]) hx hb d_Md_multipleKey_313 hl (k := 2) rfl (nI_add _ _) (by decide) rfl (fun ls hl => ?_)
                        refine lv_goto (tgt := 260) hx hb d_Md_multipleKey_316 (by decide) ?_
                        exact ih2 (b + 1) (by omega) ls (lv_sub hl [0, 1, 3, 4] rfl)
                      · have hc := Nat.lt_of_not_le (fun q => hc ((nI_leI (by omega) (by omega)).mpr q))
                        refine lv_iload_n hx hb d_Md_multipleKey_282 rfl (lv_at hl 2 rfl) ?_
                        refine lv_aload_n hx hb d_Md_multipleKey_283 rfl (lv_at hl 4 rfl) ?_
                        refine wv_getf hx hb h 37 (by decide) (fs := [.ref (ad 38), .int (nI (tl)), .int (nI (ol)), .int (nI (cd)), .ref (ad 39), .ref (ad 40), .ref (ad 41), .ref (ad 42), .ref (ad 43), .ref (ad 44), .ref (ad 45), .ref (ad 46), .ref (ad 47), .ref (ad 48), .ref (ad 49), .ref (ad 50)]) t13_37 hts (fun w hw => List.mem_cons_of_mem _ (fW_Md w hw)) hown (ci := 5) (C := "NonceBoxModel") (T := fT_Md) (N := 16) rfl 9 (by decide) (hts _ (List.mem_cons_of_mem _ kf_Md_28)) rfl (v := .ref (ad 44)) rfl d_Md_multipleKey_284 ?_
                        refine lv_bipush (v := nI (50)) hx hb d_Md_multipleKey_287 (by decide) ?_
                        refine lv_iload hx hb d_Md_multipleKey_289 (lv_at hl 0 rfl) ?_
                        refine lv_bipush (v := nI (26)) hx hb d_Md_multipleKey_291 (by decide) ?_
                        refine lv_idiv hx hb d_Md_multipleKey_293 (by decide) ?_
                        refine wv_top (w := nI (((8 * k) + b) / 26)) (pk_div (by omega) (by omega) (by omega)) ?_
                        refine lv_iadd hx hb d_Md_multipleKey_294 ?_
                        refine wv_top (w := nI (50 + (((8 * k) + b) / 26))) (nI_add _ _) ?_
                        refine wv_lald hx hb h 44 (by decide) (f := (flat (va_up T1 5 f5))) t13_44 (k := 50 + (((8 * k) + b) / 26)) rfl (by omega) (by decide) d_Md_multipleKey_295 ?_
                        refine wv_topl (w := f5 ((8 * k + b) / 26)) (by rw [flat_5 _ (by omega), va_up_self]) ?_
                        refine lv_iload hx hb d_Md_multipleKey_296 (lv_at hl 0 rfl) ?_
                        refine lv_bipush (v := nI (26)) hx hb d_Md_multipleKey_298 (by decide) ?_
                        refine lv_irem hx hb d_Md_multipleKey_300 (by decide) ?_
                        refine wv_top (w := nI (((8 * k) + b) % 26)) (pk_rem (by omega) (by omega) (by omega)) ?_
                        refine lv_lshr (v := sar (f5 ((8 * k + b) / 26)) (((8 * k) + b) % 26)) hx hb d_Md_multipleKey_301 rfl ?_
                        refine lv_lconst (v := 1) hx hb d_Md_multipleKey_302 (by decide) ?_
                        refine lv_land hx hb d_Md_multipleKey_303 ?_
                        refine lv_l2i hx hb d_Md_multipleKey_304 rfl ?_
                        refine wv_top (w := nI (V / 2 ^ (8 * k + b) % 2)) (hVb _ (by omega)) ?_
                        refine lv_iload_n hx hb d_Md_multipleKey_305 rfl (lv_at hl 1 rfl) ?_
                        refine lv_ishl hx hb d_Md_multipleKey_306 ?_
                        refine lv_ior hx hb d_Md_multipleKey_307 ?_
                        refine wv_top (w := nI (V / 2 ^ (8 * k) % 2 ^ (b + 1))) (by rw [Nat.pow_add, ← Nat.div_div_eq_div_mul]; exact or_s (by omega)) ?_
                        refine lv_goto (tgt := 312) hx hb d_Md_multipleKey_308 (by decide) ?_
                        refine lv_istore_n (lv' := [(2, .int (nI (V / 2 ^ (8 * k) % 2 ^ (b + 1)))), (4, .int (nI ((8 * k) + b))), (3, .int (nI (b))), (1, .int (nI (k))), (0, .ref (ad 37))]) hx hb d_Md_multipleKey_312 rfl hl (by decide) rfl (fun ls hl => ?_)
                        refine lv_iinc (v := nI (b + 1)) (lv' := [(3, .int (nI (b + 1))), (2, .int (nI (V / 2 ^ (8 * k) % 2 ^ (b + 1)))), (4, .int (nI ((8 * k) + b))), (1, .int (nI (k))), (0, .ref (ad 37))]) hx hb d_Md_multipleKey_313 hl (k := 2) rfl (nI_add _ _) (by decide) rfl (fun ls hl => ?_)
                        refine lv_goto (tgt := 260) hx hb d_Md_multipleKey_316 (by decide) ?_
                        exact ih2 (b + 1) (by omega) ls (lv_sub hl [0, 1, 3, 4] rfl)
                  have hl : lv_has ls 5 [(3, .int (nI (0))), (2, .int (nI (V / 2 ^ (8 * k) % 2 ^ 0))), (1, .int (nI (k))), (0, .ref (ad 37))] := by
                    rw [Nat.pow_zero, Nat.mod_one]
                    exact lv_sub hl [0, 1, 2, 3] rfl
                  exact loopb 8 0 rfl ls hl
              exact loop13 32 0 rfl ev12 H locs ls (by rw [fil_0, va_upi _ _ t12_39]) h (lv_sub hl [0, 1] rfl)
            | succ d ih =>
              intro n0 hk_n0 Wy Ry ev10 H locs ls hJI o10 h hl
              have hl : lv_has ls 5 [(1, .int (nI (d))), (0, .ref (ad 37))] := hl
              have t10_45 : ev10 45 = eJ G 20 Wy := by rw [o10, va_up_ne _ _ (by decide), va_up_self]
              have t10_44 : ev10 44 = eJ G 160 (flat Ry) := by rw [o10, va_up_self]
              have t10_38 := (show ev10 38 = ev9 38 by rw [o10, va_up_ne _ _ (by decide), va_up_ne _ _ (by decide)]).trans t9_38
              have t10_39 := (show ev10 39 = ev9 39 by rw [o10, va_up_ne _ _ (by decide), va_up_ne _ _ (by decide)]).trans t9_39
              have t10_37 := (show ev10 37 = ev9 37 by rw [o10, va_up_ne _ _ (by decide), va_up_ne _ _ (by decide)]).trans t9_37
              refine lv_iload_n hx hb d_Md_multipleKey_202 rfl (lv_at hl 0 rfl) ?_
              refine lv_if_lt (tgt := 236) hx hb d_Md_multipleKey_203 (by decide) (fun hc => absurd hc (nI_pos (by omega))) (fun _ => ?_)
              obtain ⟨j0, j1, j5⟩ := hJI
              refine lv_aload_n hx hb d_Md_multipleKey_206 rfl (lv_at hl 1 rfl) ?_
              refine lv_iconst (v := nI (5)) hx hb d_Md_multipleKey_207 (by decide) ?_
              refine lv_iconst (v := nI (5)) hx hb d_Md_multipleKey_208 (by decide) ?_
              refine lv_iconst (v := nI (5)) hx hb d_Md_multipleKey_209 (by decide) ?_
              refine wv_V (As := [.int (nI (5)), .int (nI (5)), .int (nI (5))]) (rest := []) (k := 3) ⟨hx, hb, hml, hown, hts⟩ h 37 (by decide) (C := "NonceBoxModel") t10_37 rfl (m_Md_times l G A ad ev10 5 5 5 Wy Ry tl ol cd t10_37 t10_44 t10_45 (by decide) (by decide) (by decide)) kc_Md_times kl_Md_152 km_Md_times kv_Md_times ki_Md (by decide +kernel) ⟨rfl, rfl, Nat.le_of_ble_eq_true rfl, Nat.le_of_ble_eq_true rfl⟩ hl.1 rfl rfl (Nat.le_of_ble_eq_true rfl) ⟨Nat.le_refl _, Nat.le_refl _⟩ d_Md_multipleKey_210 ?_
              intro ov ev11 H locs hp h
              rw [hp.1]
              refine W.eq (g2 := F0 m 213 ls []) rfl ?_
              have o11 : ev11 = (va_up (va_up ev10 45 (eJ G 20 (wdC (Ry 5) (Ry 5) 10))) 44 (eJ G 160 (flat (va_up Ry 5 (rtm (Ry 5) (Ry 5)))))) := hp.2
              have t11_45 : ev11 45 = eJ G 20 (wdC (Ry 5) (Ry 5) 10) := by rw [o11, va_up_ne _ _ (by decide), va_up_self]
              have t11_44 : ev11 44 = eJ G 160 (flat (va_up Ry 5 (rtm (Ry 5) (Ry 5)))) := by rw [o11, va_up_self]
              have t11_38 := (show ev11 38 = ev10 38 by rw [o11, va_up_ne _ _ (by decide), va_up_ne _ _ (by decide)]).trans t10_38
              have t11_39 := (show ev11 39 = ev10 39 by rw [o11, va_up_ne _ _ (by decide), va_up_ne _ _ (by decide)]).trans t10_39
              have t11_37 := (show ev11 37 = ev10 37 by rw [o11, va_up_ne _ _ (by decide), va_up_ne _ _ (by decide)]).trans t10_37
              obtain ⟨T1, hT1⟩ : ∃ z, z = va_up Ry 5 (rtm (Ry 5) (Ry 5)) := ⟨_, rfl⟩
              rw [← hT1] at t11_44
              have n_T1_0 : Rm (T1 0) ((ladI (uI X) (KEYB K) 255).1) := by rw [hT1, va_up_ne _ _ (by decide)]; exact j0
              have n_T1_1 : Rm (T1 1) ((ladI (uI X) (KEYB K) 255).2.1) := by rw [hT1, va_up_ne _ _ (by decide)]; exact j1
              have n_T1_5 : Rm (T1 5) (jvI (ladI (uI X) (KEYB K) 255).2.1 n0 * jvI (ladI (uI X) (KEYB K) 255).2.1 n0) := by rw [hT1, va_up_self]; exact Rm_tm j5 j5
              refine lv_iload_n hx hb d_Md_multipleKey_213 rfl (lv_at hl 0 rfl) ?_
              refine lv_iconst (v := nI (2)) hx hb d_Md_multipleKey_214 (by decide) ?_
              refine lv_icmp_eq (tgt := 230) hx hb d_Md_multipleKey_215 (by decide) (fun hc => ?_) (fun hc => ?_)
              · have hc := (nI_eq (by omega) (by decide)).mp hc
                refine lv_iinc (v := dn d) (lv' := [(1, .int (dn d)), (0, .ref (ad 37))]) hx hb d_Md_multipleKey_230 hl (k := 0) rfl (dn_dec d) (by decide) rfl (fun ls hl => ?_)
                refine lv_goto (tgt := 202) hx hb d_Md_multipleKey_233 (by decide) ?_
                have eJ2 : jvI (ladI (uI X) (KEYB K) 255).2.1 (n0 + 1) = jvI (ladI (uI X) (KEYB K) 255).2.1 n0 * jvI (ladI (uI X) (KEYB K) 255).2.1 n0 := if_pos (Or.inl (by omega))
                refine ih (n0 + 1) (by omega) (wdC (Ry 5) (Ry 5) 10) T1 ev11 H locs ls ⟨n_T1_0, n_T1_1, by rw [eJ2]; exact n_T1_5⟩ ?_ h (lv_sub hl [0, 1] rfl)
                funext j
                by_cases c1 : j = 44
                · rw [c1, t11_44, va_up_self]
                rw [va_up_ne _ _ c1]
                by_cases c0 : j = 45
                · rw [c0, t11_45, va_up_self]
                rw [va_up_ne _ _ c0, o11, va_up_ne _ _ c1, va_up_ne _ _ c0, o10, va_up_ne _ _ c1, va_up_ne _ _ c0]
              · have hc2 : d ≠ 2 := fun q => hc (by rw [q])
                refine lv_iload_n hx hb d_Md_multipleKey_218 rfl (lv_at hl 0 rfl) ?_
                refine lv_iconst (v := nI (4)) hx hb d_Md_multipleKey_219 (by decide) ?_
                refine lv_icmp_eq (tgt := 230) hx hb d_Md_multipleKey_220 (by decide) (fun hc => ?_) (fun hc => ?_)
                · have hc := (nI_eq (by omega) (by decide)).mp hc
                  refine lv_iinc (v := dn d) (lv' := [(1, .int (dn d)), (0, .ref (ad 37))]) hx hb d_Md_multipleKey_230 hl (k := 0) rfl (dn_dec d) (by decide) rfl (fun ls hl => ?_)
                  refine lv_goto (tgt := 202) hx hb d_Md_multipleKey_233 (by decide) ?_
                  have eJ2 : jvI (ladI (uI X) (KEYB K) 255).2.1 (n0 + 1) = jvI (ladI (uI X) (KEYB K) 255).2.1 n0 * jvI (ladI (uI X) (KEYB K) 255).2.1 n0 := if_pos (Or.inr (by omega))
                  refine ih (n0 + 1) (by omega) (wdC (Ry 5) (Ry 5) 10) T1 ev11 H locs ls ⟨n_T1_0, n_T1_1, by rw [eJ2]; exact n_T1_5⟩ ?_ h (lv_sub hl [0, 1] rfl)
                  funext j
                  by_cases c1 : j = 44
                  · rw [c1, t11_44, va_up_self]
                  rw [va_up_ne _ _ c1]
                  by_cases c0 : j = 45
                  · rw [c0, t11_45, va_up_self]
                  rw [va_up_ne _ _ c0, o11, va_up_ne _ _ c1, va_up_ne _ _ c0, o10, va_up_ne _ _ c1, va_up_ne _ _ c0]
                · have hc4 : d ≠ 4 := fun q => hc (by rw [q])
                  refine lv_aload_n hx hb d_Md_multipleKey_223 rfl (lv_at hl 1 rfl) ?_
                  refine lv_iconst (v := nI (5)) hx hb d_Md_multipleKey_224 (by decide) ?_
                  refine lv_iconst (v := nI (5)) hx hb d_Md_multipleKey_225 (by decide) ?_
                  refine lv_iconst (v := nI (1)) hx hb d_Md_multipleKey_226 (by decide) ?_
                  refine wv_V (As := [.int (nI (5)), .int (nI (5)), .int (nI (1))]) (rest := []) (k := 3) ⟨hx, hb, hml, hown, hts⟩ h 37 (by decide) (C := "NonceBoxModel") t11_37 rfl (m_Md_times l G A ad ev11 5 5 1 (wdC (Ry 5) (Ry 5) 10) T1 tl ol cd t11_37 t11_44 t11_45 (by decide) (by decide) (by decide)) kc_Md_times kl_Md_152 km_Md_times kv_Md_times ki_Md (by decide +kernel) ⟨rfl, rfl, Nat.le_of_ble_eq_true rfl, Nat.le_of_ble_eq_true rfl⟩ hl.1 rfl rfl (Nat.le_of_ble_eq_true rfl) ⟨Nat.le_refl _, Nat.le_refl _⟩ d_Md_multipleKey_227 ?_
                  intro ov ev12 H locs hp h
                  rw [hp.1]
                  refine W.eq (g2 := F0 m 230 ls []) rfl ?_
                  have o12 : ev12 = (va_up (va_up ev11 45 (eJ G 20 (wdC (T1 5) (T1 1) 10))) 44 (eJ G 160 (flat (va_up T1 5 (rtm (T1 5) (T1 1)))))) := hp.2
                  have t12_45 : ev12 45 = eJ G 20 (wdC (T1 5) (T1 1) 10) := by rw [o12, va_up_ne _ _ (by decide), va_up_self]
                  have t12_44 : ev12 44 = eJ G 160 (flat (va_up T1 5 (rtm (T1 5) (T1 1)))) := by rw [o12, va_up_self]
                  have t12_38 := (show ev12 38 = ev11 38 by rw [o12, va_up_ne _ _ (by decide), va_up_ne _ _ (by decide)]).trans t11_38
                  have t12_39 := (show ev12 39 = ev11 39 by rw [o12, va_up_ne _ _ (by decide), va_up_ne _ _ (by decide)]).trans t11_39
                  have t12_37 := (show ev12 37 = ev11 37 by rw [o12, va_up_ne _ _ (by decide), va_up_ne _ _ (by decide)]).trans t11_37
                  obtain ⟨T2, hT2⟩ : ∃ z, z = va_up T1 5 (rtm (T1 5) (T1 1)) := ⟨_, rfl⟩
                  rw [← hT2] at t12_44
                  have n_T2_0 : Rm (T2 0) ((ladI (uI X) (KEYB K) 255).1) := by rw [hT2, va_up_ne _ _ (by decide)]; exact n_T1_0
                  have n_T2_1 : Rm (T2 1) ((ladI (uI X) (KEYB K) 255).2.1) := by rw [hT2, va_up_ne _ _ (by decide)]; exact n_T1_1
                  have n_T2_5 : Rm (T2 5) (jvI (ladI (uI X) (KEYB K) 255).2.1 n0 * jvI (ladI (uI X) (KEYB K) 255).2.1 n0 * (ladI (uI X) (KEYB K) 255).2.1) := by rw [hT2, va_up_self]; exact Rm_tm n_T1_5 n_T1_1
                  refine lv_iinc (v := dn d) (lv' := [(1, .int (dn d)), (0, .ref (ad 37))]) hx hb d_Md_multipleKey_230 hl (k := 0) rfl (dn_dec d) (by decide) rfl (fun ls hl => ?_)
                  refine lv_goto (tgt := 202) hx hb d_Md_multipleKey_233 (by decide) ?_
                  have eJ2 : jvI (ladI (uI X) (KEYB K) 255).2.1 (n0 + 1) = jvI (ladI (uI X) (KEYB K) 255).2.1 n0 * jvI (ladI (uI X) (KEYB K) 255).2.1 n0 * (ladI (uI X) (KEYB K) 255).2.1 := if_neg (by omega)
                  refine ih (n0 + 1) (by omega) (wdC (T1 5) (T1 1) 10) T2 ev12 H locs ls ⟨n_T2_0, n_T2_1, by rw [eJ2]; exact n_T2_5⟩ ?_ h (lv_sub hl [0, 1] rfl)
                  funext j
                  by_cases c1 : j = 44
                  · rw [c1, t12_44, va_up_self]
                  rw [va_up_ne _ _ c1]
                  by_cases c0 : j = 45
                  · rw [c0, t12_45, va_up_self]
                  rw [va_up_ne _ _ c0, o12, va_up_ne _ _ c1, va_up_ne _ _ c0, o11, va_up_ne _ _ c1, va_up_ne _ _ c0, o10, va_up_ne _ _ c1, va_up_ne _ _ c0]
          refine loop10 255 0 rfl Wx S1 ev9 H locs ls ⟨n_S1_0, n_S1_1, n_S1_5⟩ ?_ h (lv_sub hl [0, 1] rfl)
          rw [va_upi _ 45 t9_45, va_upi _ 44 t9_44]
        | succ d ih =>
          intro m0 hk_m0 Wx Rx ev8 H locs ls hLI o8 h hl
          have hl : lv_has ls 5 [(1, .int (nI (d))), (0, .ref (ad 37))] := hl
          have t8_45 : ev8 45 = eJ G 20 Wx := by rw [o8, va_up_ne _ _ (by decide), va_up_self]
          have t8_44 : ev8 44 = eJ G 160 (flat Rx) := by rw [o8, va_up_self]
          have t8_38 := (show ev8 38 = ev7 38 by rw [o8, va_up_ne _ _ (by decide), va_up_ne _ _ (by decide)]).trans t7_38
          have t8_39 := (show ev8 39 = ev7 39 by rw [o8, va_up_ne _ _ (by decide), va_up_ne _ _ (by decide)]).trans t7_39
          have t8_37 := (show ev8 37 = ev7 37 by rw [o8, va_up_ne _ _ (by decide), va_up_ne _ _ (by decide)]).trans t7_37
          refine lv_iload_n hx hb d_Md_multipleKey_108 rfl (lv_at hl 0 rfl) ?_
          refine lv_if_lt (tgt := 192) hx hb d_Md_multipleKey_109 (by decide) (fun hc => absurd hc (nI_pos (by omega))) (fun _ => ?_)
          obtain ⟨l0, l1, l2, l3, l4, l13⟩ := hLI
          have hbl : bitN (KEYB K) d < 2 := Nat.mod_lt _ (by decide)
          have rest : ∀ ls : Array Slot, lv_has ls 5 [(2, .int (nI (bitN (KEYB K) d))), (1, .int (nI (d))), (0, .ref (ad 37))] → W p l e ({ frames := 9, cells := 0, slots := 0, locals := 300 }) s m ([.ref (ad 37)] : List Value).toArray below meth c H locs 0 0 (MQ below (wQc G A 52 ad (fun ov ev' => ov = none ∧ ∃ (w' r' : Row), ev' = (va_up (va_up (va_up ev 45 (eJ G 20 w')) 44 (eJ G 160 r')) 39 (eI G 32 (ns (MULM K X)))))) ([.ref (ad 37)] : List Value).toArray s 0 0 A) (F0 m 150 ls []) := by
            intro ls hl
            refine lv_iload_n hx hb d_Md_multipleKey_150 rfl (lv_at hl 0 rfl) ?_
            refine lv_if_eq (tgt := 166) hx hb d_Md_multipleKey_151 (by decide) (fun hc => ?_) (fun hc => ?_)
            · have hb0 : ¬ bitN (KEYB K) (254 - m0) = 1 := fun q => by
                rw [show d = 254 - m0 by omega, q] at hc
                exact absurd hc (by decide)
              refine lv_aload_n hx hb d_Md_multipleKey_166 rfl (lv_at hl 2 rfl) ?_
              refine wv_V (As := []) (rest := []) (k := 0) ⟨hx, hb, hml, hown, hts⟩ h 37 (by decide) (C := "NonceBoxModel") t8_37 rfl (m_Md_ladder l G A ad ev8 Wx ((ladI (uI X) (KEYB K) m0).1) ((ladI (uI X) (KEYB K) m0).2.1) ((ladI (uI X) (KEYB K) m0).2.2.1) ((ladI (uI X) (KEYB K) m0).2.2.2) (uI X) Rx tl ol cd t8_37 t8_44 t8_45 l0 l1 l2 l3 l4 l13) kc_Md_ladder kl_Md_172 km_Md_ladder kv_Md_ladder ki_Md (by decide +kernel) ⟨rfl, rfl, Nat.le_of_ble_eq_true rfl, Nat.le_of_ble_eq_true rfl⟩ hl.1 rfl rfl (Nat.le_of_ble_eq_true rfl) ⟨Nat.le_refl _, Nat.le_refl _⟩ d_Md_multipleKey_167 ?_
              intro ov ev9 H locs hp h
              obtain ⟨ho, S1, wS1, hp, mS1_0, mS1_1, mS1_2, mS1_3, mS1_4, mS1_13⟩ := hp
              rw [ho]
              refine W.eq (g2 := F0 m 170 ls []) rfl ?_
              have o9 : ev9 = va_up (va_up ev8 45 (eJ G 20 wS1)) 44 (eJ G 160 (flat S1)) := hp
              have t9_45 : ev9 45 = eJ G 20 wS1 := by rw [o9, va_up_ne _ _ (by decide), va_up_self]
              have t9_44 : ev9 44 = eJ G 160 (flat S1) := by rw [o9, va_up_self]
              have t9_38 := (show ev9 38 = ev8 38 by rw [o9, va_up_ne _ _ (by decide), va_up_ne _ _ (by decide)]).trans t8_38
              have t9_39 := (show ev9 39 = ev8 39 by rw [o9, va_up_ne _ _ (by decide), va_up_ne _ _ (by decide)]).trans t8_39
              have t9_37 := (show ev9 37 = ev8 37 by rw [o9, va_up_ne _ _ (by decide), va_up_ne _ _ (by decide)]).trans t8_37
              refine lv_iload_n hx hb d_Md_multipleKey_170 rfl (lv_at hl 0 rfl) ?_
              refine lv_if_eq (tgt := 186) hx hb d_Md_multipleKey_171 (by decide) (fun _ => ?_) (fun hc2 => absurd hc hc2)
              refine lv_iinc (v := dn d) (lv' := [(1, .int (dn d)), (2, .int (nI (bitN (KEYB K) d))), (0, .ref (ad 37))]) hx hb d_Md_multipleKey_186 hl (k := 1) rfl (dn_dec d) (by decide) rfl (fun ls hl => ?_)
              refine lv_goto (tgt := 108) hx hb d_Md_multipleKey_189 (by decide) ?_
              refine ih (m0 + 1) (by omega) wS1 S1 ev9 H locs ls ⟨by rw [show ladI (uI X) (KEYB K) (m0 + 1) = _ from if_neg hb0]; exact mS1_0, by rw [show ladI (uI X) (KEYB K) (m0 + 1) = _ from if_neg hb0]; exact mS1_1, by rw [show ladI (uI X) (KEYB K) (m0 + 1) = _ from if_neg hb0]; exact mS1_2, by rw [show ladI (uI X) (KEYB K) (m0 + 1) = _ from if_neg hb0]; exact mS1_3, mS1_4, mS1_13⟩ ?_ h (lv_sub hl [0, 2] rfl)
              funext j
              by_cases c1 : j = 44
              · rw [c1, t9_44, va_up_self]
              rw [va_up_ne _ _ c1]
              by_cases c0 : j = 45
              · rw [c0, t9_45, va_up_self]
              rw [va_up_ne _ _ c0, o9, va_up_ne _ _ c1, va_up_ne _ _ c0, o8, va_up_ne _ _ c1, va_up_ne _ _ c0]
            · have hb1 : bitN (KEYB K) (254 - m0) = 1 := by
                rw [show d = 254 - m0 by omega] at hc hbl
                have : bitN (KEYB K) (254 - m0) ≠ 0 := fun q => hc (by rw [q]; rfl)
                omega
              refine lv_aload_n hx hb d_Md_multipleKey_154 rfl (lv_at hl 2 rfl) ?_
              refine lv_iconst (v := nI (0)) hx hb d_Md_multipleKey_155 (by decide) ?_
              refine lv_iconst (v := nI (2)) hx hb d_Md_multipleKey_156 (by decide) ?_
              refine wv_V (As := [.int (nI (0)), .int (nI (2))]) (rest := []) (k := 2) ⟨hx, hb, hml, hown, hts⟩ h 37 (by decide) (C := "NonceBoxModel") t8_37 rfl (m_Md_swap l G A ad ev8 0 2 Rx tl ol cd t8_37 t8_44 (by decide) (by decide)) kc_Md_swap kl_Md_169 km_Md_swap kv_Md_swap ki_Md (by decide +kernel) ⟨rfl, rfl, Nat.le_of_ble_eq_true rfl, Nat.le_of_ble_eq_true rfl⟩ hl.1 rfl rfl (Nat.le_of_ble_eq_true rfl) ⟨Nat.le_refl _, Nat.le_refl _⟩ d_Md_multipleKey_157 ?_
              intro ov ev9 H locs hp h
              rw [hp.1]
              refine W.eq (g2 := F0 m 160 ls []) rfl ?_
              have o9 : ev9 = (va_up ev8 44 (eJ G 160 (flat (va_up (va_up Rx 0 (Rx 2)) 2 (Rx 0))))) := hp.2
              have t9_44 : ev9 44 = eJ G 160 (flat (va_up (va_up Rx 0 (Rx 2)) 2 (Rx 0))) := by rw [o9, va_up_self]
              have t9_38 := (show ev9 38 = ev8 38 by rw [o9, va_up_ne _ _ (by decide)]).trans t8_38
              have t9_39 := (show ev9 39 = ev8 39 by rw [o9, va_up_ne _ _ (by decide)]).trans t8_39
              have t9_45 := (show ev9 45 = ev8 45 by rw [o9, va_up_ne _ _ (by decide)]).trans t8_45
              have t9_37 := (show ev9 37 = ev8 37 by rw [o9, va_up_ne _ _ (by decide)]).trans t8_37
              obtain ⟨S1, hS1⟩ : ∃ z, z = va_up (va_up Rx 0 (Rx 2)) 2 (Rx 0) := ⟨_, rfl⟩
              rw [← hS1] at t9_44
              have n_S1_0 : Rm (S1 0) ((ladI (uI X) (KEYB K) m0).2.2.1) := by rw [hS1, va_up_ne _ _ (by decide), va_up_self]; exact l2
              have n_S1_1 : Rm (S1 1) ((ladI (uI X) (KEYB K) m0).2.1) := by rw [hS1, va_up_ne _ _ (by decide), va_up_ne _ _ (by decide)]; exact l1
              have n_S1_2 : Rm (S1 2) ((ladI (uI X) (KEYB K) m0).1) := by rw [hS1, va_up_self]; exact l0
              have n_S1_3 : Rm (S1 3) ((ladI (uI X) (KEYB K) m0).2.2.2) := by rw [hS1, va_up_ne _ _ (by decide), va_up_ne _ _ (by decide)]; exact l3
              have n_S1_4 : Rm (S1 4) (uI X) := by rw [hS1, va_up_ne _ _ (by decide), va_up_ne _ _ (by decide)]; exact l4
              have n_S1_13 : Rm (S1 13) (121665) := by rw [hS1, va_up_ne _ _ (by decide), va_up_ne _ _ (by decide)]; exact l13
              refine lv_aload_n hx hb d_Md_multipleKey_160 rfl (lv_at hl 2 rfl) ?_
              refine lv_iconst (v := nI (1)) hx hb d_Md_multipleKey_161 (by decide) ?_
              refine lv_iconst (v := nI (3)) hx hb d_Md_multipleKey_162 (by decide) ?_
              refine wv_V (As := [.int (nI (1)), .int (nI (3))]) (rest := []) (k := 2) ⟨hx, hb, hml, hown, hts⟩ h 37 (by decide) (C := "NonceBoxModel") t9_37 rfl (m_Md_swap l G A ad ev9 1 3 S1 tl ol cd t9_37 t9_44 (by decide) (by decide)) kc_Md_swap kl_Md_169 km_Md_swap kv_Md_swap ki_Md (by decide +kernel) ⟨rfl, rfl, Nat.le_of_ble_eq_true rfl, Nat.le_of_ble_eq_true rfl⟩ hl.1 rfl rfl (Nat.le_of_ble_eq_true rfl) ⟨Nat.le_refl _, Nat.le_refl _⟩ d_Md_multipleKey_163 ?_
              intro ov ev10 H locs hp h
              rw [hp.1]
              refine W.eq (g2 := F0 m 166 ls []) rfl ?_
              have o10 : ev10 = (va_up ev9 44 (eJ G 160 (flat (va_up (va_up S1 1 (S1 3)) 3 (S1 1))))) := hp.2
              have t10_44 : ev10 44 = eJ G 160 (flat (va_up (va_up S1 1 (S1 3)) 3 (S1 1))) := by rw [o10, va_up_self]
              have t10_38 := (show ev10 38 = ev9 38 by rw [o10, va_up_ne _ _ (by decide)]).trans t9_38
              have t10_39 := (show ev10 39 = ev9 39 by rw [o10, va_up_ne _ _ (by decide)]).trans t9_39
              have t10_45 := (show ev10 45 = ev9 45 by rw [o10, va_up_ne _ _ (by decide)]).trans t9_45
              have t10_37 := (show ev10 37 = ev9 37 by rw [o10, va_up_ne _ _ (by decide)]).trans t9_37
              obtain ⟨S2, hS2⟩ : ∃ z, z = va_up (va_up S1 1 (S1 3)) 3 (S1 1) := ⟨_, rfl⟩
              rw [← hS2] at t10_44
              have n_S2_0 : Rm (S2 0) ((ladI (uI X) (KEYB K) m0).2.2.1) := by rw [hS2, va_up_ne _ _ (by decide), va_up_ne _ _ (by decide)]; exact n_S1_0
              have n_S2_1 : Rm (S2 1) ((ladI (uI X) (KEYB K) m0).2.2.2) := by rw [hS2, va_up_ne _ _ (by decide), va_up_self]; exact n_S1_3
              have n_S2_2 : Rm (S2 2) ((ladI (uI X) (KEYB K) m0).1) := by rw [hS2, va_up_ne _ _ (by decide), va_up_ne _ _ (by decide)]; exact n_S1_2
              have n_S2_3 : Rm (S2 3) ((ladI (uI X) (KEYB K) m0).2.1) := by rw [hS2, va_up_self]; exact n_S1_1
              have n_S2_4 : Rm (S2 4) (uI X) := by rw [hS2, va_up_ne _ _ (by decide), va_up_ne _ _ (by decide)]; exact n_S1_4
              have n_S2_13 : Rm (S2 13) (121665) := by rw [hS2, va_up_ne _ _ (by decide), va_up_ne _ _ (by decide)]; exact n_S1_13
              refine lv_aload_n hx hb d_Md_multipleKey_166 rfl (lv_at hl 2 rfl) ?_
              refine wv_V (As := []) (rest := []) (k := 0) ⟨hx, hb, hml, hown, hts⟩ h 37 (by decide) (C := "NonceBoxModel") t10_37 rfl (m_Md_ladder l G A ad ev10 Wx ((ladI (uI X) (KEYB K) m0).2.2.1) ((ladI (uI X) (KEYB K) m0).2.2.2) ((ladI (uI X) (KEYB K) m0).1) ((ladI (uI X) (KEYB K) m0).2.1) (uI X) S2 tl ol cd t10_37 t10_44 t10_45 n_S2_0 n_S2_1 n_S2_2 n_S2_3 n_S2_4 n_S2_13) kc_Md_ladder kl_Md_172 km_Md_ladder kv_Md_ladder ki_Md (by decide +kernel) ⟨rfl, rfl, Nat.le_of_ble_eq_true rfl, Nat.le_of_ble_eq_true rfl⟩ hl.1 rfl rfl (Nat.le_of_ble_eq_true rfl) ⟨Nat.le_refl _, Nat.le_refl _⟩ d_Md_multipleKey_167 ?_
              intro ov ev11 H locs hp h
              obtain ⟨ho, S3, wS3, hp, mS3_0, mS3_1, mS3_2, mS3_3, mS3_4, mS3_13⟩ := hp
              rw [ho]
              refine W.eq (g2 := F0 m 170 ls []) rfl ?_
              have o11 : ev11 = va_up (va_up ev10 45 (eJ G 20 wS3)) 44 (eJ G 160 (flat S3)) := hp
              have t11_45 : ev11 45 = eJ G 20 wS3 := by rw [o11, va_up_ne _ _ (by decide), va_up_self]
              have t11_44 : ev11 44 = eJ G 160 (flat S3) := by rw [o11, va_up_self]
              have t11_38 := (show ev11 38 = ev10 38 by rw [o11, va_up_ne _ _ (by decide), va_up_ne _ _ (by decide)]).trans t10_38
              have t11_39 := (show ev11 39 = ev10 39 by rw [o11, va_up_ne _ _ (by decide), va_up_ne _ _ (by decide)]).trans t10_39
              have t11_37 := (show ev11 37 = ev10 37 by rw [o11, va_up_ne _ _ (by decide), va_up_ne _ _ (by decide)]).trans t10_37
              refine lv_iload_n hx hb d_Md_multipleKey_170 rfl (lv_at hl 0 rfl) ?_
              refine lv_if_eq (tgt := 186) hx hb d_Md_multipleKey_171 (by decide) (fun hc2 => absurd hc2 hc) (fun _ => ?_)
              refine lv_aload_n hx hb d_Md_multipleKey_174 rfl (lv_at hl 2 rfl) ?_
              refine lv_iconst (v := nI (0)) hx hb d_Md_multipleKey_175 (by decide) ?_
              refine lv_iconst (v := nI (2)) hx hb d_Md_multipleKey_176 (by decide) ?_
              refine wv_V (As := [.int (nI (0)), .int (nI (2))]) (rest := []) (k := 2) ⟨hx, hb, hml, hown, hts⟩ h 37 (by decide) (C := "NonceBoxModel") t11_37 rfl (m_Md_swap l G A ad ev11 0 2 S3 tl ol cd t11_37 t11_44 (by decide) (by decide)) kc_Md_swap kl_Md_169 km_Md_swap kv_Md_swap ki_Md (by decide +kernel) ⟨rfl, rfl, Nat.le_of_ble_eq_true rfl, Nat.le_of_ble_eq_true rfl⟩ hl.1 rfl rfl (Nat.le_of_ble_eq_true rfl) ⟨Nat.le_refl _, Nat.le_refl _⟩ d_Md_multipleKey_177 ?_
              intro ov ev12 H locs hp h
              rw [hp.1]
              refine W.eq (g2 := F0 m 180 ls []) rfl ?_
              have o12 : ev12 = (va_up ev11 44 (eJ G 160 (flat (va_up (va_up S3 0 (S3 2)) 2 (S3 0))))) := hp.2
              have t12_44 : ev12 44 = eJ G 160 (flat (va_up (va_up S3 0 (S3 2)) 2 (S3 0))) := by rw [o12, va_up_self]
              have t12_38 := (show ev12 38 = ev11 38 by rw [o12, va_up_ne _ _ (by decide)]).trans t11_38
              have t12_39 := (show ev12 39 = ev11 39 by rw [o12, va_up_ne _ _ (by decide)]).trans t11_39
              have t12_45 := (show ev12 45 = ev11 45 by rw [o12, va_up_ne _ _ (by decide)]).trans t11_45
              have t12_37 := (show ev12 37 = ev11 37 by rw [o12, va_up_ne _ _ (by decide)]).trans t11_37
              obtain ⟨S4, hS4⟩ : ∃ z, z = va_up (va_up S3 0 (S3 2)) 2 (S3 0) := ⟨_, rfl⟩
              rw [← hS4] at t12_44
              have n_S4_0 : Rm (S4 0) (sC ((ladI (uI X) (KEYB K) m0).2.2.1) ((ladI (uI X) (KEYB K) m0).2.2.2) ((ladI (uI X) (KEYB K) m0).1) ((ladI (uI X) (KEYB K) m0).2.1)) := by rw [hS4, va_up_ne _ _ (by decide), va_up_self]; exact mS3_2
              have n_S4_1 : Rm (S4 1) (sB ((ladI (uI X) (KEYB K) m0).2.2.1) ((ladI (uI X) (KEYB K) m0).2.2.2)) := by rw [hS4, va_up_ne _ _ (by decide), va_up_ne _ _ (by decide)]; exact mS3_1
              have n_S4_2 : Rm (S4 2) (sA ((ladI (uI X) (KEYB K) m0).2.2.1) ((ladI (uI X) (KEYB K) m0).2.2.2)) := by rw [hS4, va_up_self]; exact mS3_0
              have n_S4_3 : Rm (S4 3) (sD (uI X) ((ladI (uI X) (KEYB K) m0).2.2.1) ((ladI (uI X) (KEYB K) m0).2.2.2) ((ladI (uI X) (KEYB K) m0).1) ((ladI (uI X) (KEYB K) m0).2.1)) := by rw [hS4, va_up_ne _ _ (by decide), va_up_ne _ _ (by decide)]; exact mS3_3
              have n_S4_4 : Rm (S4 4) (uI X) := by rw [hS4, va_up_ne _ _ (by decide), va_up_ne _ _ (by decide)]; exact mS3_4
              have n_S4_13 : Rm (S4 13) (121665) := by rw [hS4, va_up_ne _ _ (by decide), va_up_ne _ _ (by decide)]; exact mS3_13
              refine lv_aload_n hx hb d_Md_multipleKey_180 rfl (lv_at hl 2 rfl) ?_
              refine lv_iconst (v := nI (1)) hx hb d_Md_multipleKey_181 (by decide) ?_
              refine lv_iconst (v := nI (3)) hx hb d_Md_multipleKey_182 (by decide) ?_
              refine wv_V (As := [.int (nI (1)), .int (nI (3))]) (rest := []) (k := 2) ⟨hx, hb, hml, hown, hts⟩ h 37 (by decide) (C := "NonceBoxModel") t12_37 rfl (m_Md_swap l G A ad ev12 1 3 S4 tl ol cd t12_37 t12_44 (by decide) (by decide)) kc_Md_swap kl_Md_169 km_Md_swap kv_Md_swap ki_Md (by decide +kernel) ⟨rfl, rfl, Nat.le_of_ble_eq_true rfl, Nat.le_of_ble_eq_true rfl⟩ hl.1 rfl rfl (Nat.le_of_ble_eq_true rfl) ⟨Nat.le_refl _, Nat.le_refl _⟩ d_Md_multipleKey_183 ?_
              intro ov ev13 H locs hp h
              rw [hp.1]
              refine W.eq (g2 := F0 m 186 ls []) rfl ?_
              have o13 : ev13 = (va_up ev12 44 (eJ G 160 (flat (va_up (va_up S4 1 (S4 3)) 3 (S4 1))))) := hp.2
              have t13_44 : ev13 44 = eJ G 160 (flat (va_up (va_up S4 1 (S4 3)) 3 (S4 1))) := by rw [o13, va_up_self]
              have t13_38 := (show ev13 38 = ev12 38 by rw [o13, va_up_ne _ _ (by decide)]).trans t12_38
              have t13_39 := (show ev13 39 = ev12 39 by rw [o13, va_up_ne _ _ (by decide)]).trans t12_39
              have t13_45 := (show ev13 45 = ev12 45 by rw [o13, va_up_ne _ _ (by decide)]).trans t12_45
              have t13_37 := (show ev13 37 = ev12 37 by rw [o13, va_up_ne _ _ (by decide)]).trans t12_37
              obtain ⟨S5, hS5⟩ : ∃ z, z = va_up (va_up S4 1 (S4 3)) 3 (S4 1) := ⟨_, rfl⟩
              rw [← hS5] at t13_44
              have n_S5_0 : Rm (S5 0) (sC ((ladI (uI X) (KEYB K) m0).2.2.1) ((ladI (uI X) (KEYB K) m0).2.2.2) ((ladI (uI X) (KEYB K) m0).1) ((ladI (uI X) (KEYB K) m0).2.1)) := by rw [hS5, va_up_ne _ _ (by decide), va_up_ne _ _ (by decide)]; exact n_S4_0
              have n_S5_1 : Rm (S5 1) (sD (uI X) ((ladI (uI X) (KEYB K) m0).2.2.1) ((ladI (uI X) (KEYB K) m0).2.2.2) ((ladI (uI X) (KEYB K) m0).1) ((ladI (uI X) (KEYB K) m0).2.1)) := by rw [hS5, va_up_ne _ _ (by decide), va_up_self]; exact n_S4_3
              have n_S5_2 : Rm (S5 2) (sA ((ladI (uI X) (KEYB K) m0).2.2.1) ((ladI (uI X) (KEYB K) m0).2.2.2)) := by rw [hS5, va_up_ne _ _ (by decide), va_up_ne _ _ (by decide)]; exact n_S4_2
              have n_S5_3 : Rm (S5 3) (sB ((ladI (uI X) (KEYB K) m0).2.2.1) ((ladI (uI X) (KEYB K) m0).2.2.2)) := by rw [hS5, va_up_self]; exact n_S4_1
              have n_S5_4 : Rm (S5 4) (uI X) := by rw [hS5, va_up_ne _ _ (by decide), va_up_ne _ _ (by decide)]; exact n_S4_4
              have n_S5_13 : Rm (S5 13) (121665) := by rw [hS5, va_up_ne _ _ (by decide), va_up_ne _ _ (by decide)]; exact n_S4_13
              refine lv_iinc (v := dn d) (lv' := [(1, .int (dn d)), (2, .int (nI (bitN (KEYB K) d))), (0, .ref (ad 37))]) hx hb d_Md_multipleKey_186 hl (k := 1) rfl (dn_dec d) (by decide) rfl (fun ls hl => ?_)
              refine lv_goto (tgt := 108) hx hb d_Md_multipleKey_189 (by decide) ?_
              refine ih (m0 + 1) (by omega) wS3 S5 ev13 H locs ls ⟨by rw [show ladI (uI X) (KEYB K) (m0 + 1) = _ from if_pos hb1]; exact n_S5_0, by rw [show ladI (uI X) (KEYB K) (m0 + 1) = _ from if_pos hb1]; exact n_S5_1, by rw [show ladI (uI X) (KEYB K) (m0 + 1) = _ from if_pos hb1]; exact n_S5_2, by rw [show ladI (uI X) (KEYB K) (m0 + 1) = _ from if_pos hb1]; exact n_S5_3, n_S5_4, n_S5_13⟩ ?_ h (lv_sub hl [0, 2] rfl)
              funext j
              by_cases c1 : j = 44
              · rw [c1, t13_44, va_up_self]
              rw [va_up_ne _ _ c1]
              by_cases c0 : j = 45
              · rw [c0, t13_45, va_up_self]
              rw [va_up_ne _ _ c0, o13, va_up_ne _ _ c1, o12, va_up_ne _ _ c1, o11, va_up_ne _ _ c1, va_up_ne _ _ c0, o10, va_up_ne _ _ c1, o9, va_up_ne _ _ c1, o8, va_up_ne _ _ c1, va_up_ne _ _ c0]
          refine lv_iload_n hx hb d_Md_multipleKey_112 rfl (lv_at hl 0 rfl) ?_
          refine lv_sipush (v := nI (254)) hx hb d_Md_multipleKey_113 (by decide) ?_
          refine lv_icmp_eq (tgt := 144) hx hb d_Md_multipleKey_116 (by decide) (fun hc => ?_) (fun hc => ?_)
          · have hc := (nI_eq (by omega) (by decide)).mp hc
            refine lv_iconst (v := nI (1)) hx hb d_Md_multipleKey_144 (by decide) ?_
            refine lv_goto (tgt := 149) hx hb d_Md_multipleKey_145 (by decide) ?_
            refine wv_top (w := nI (bitN (KEYB K) d)) (congrArg nI (by rw [hc]; exact (kb254 K).symm)) ?_
            refine lv_istore_n (lv' := [(2, .int (nI (bitN (KEYB K) d))), (1, .int (nI (d))), (0, .ref (ad 37))]) hx hb d_Md_multipleKey_149 rfl hl (by decide) rfl (fun ls hl => ?_)
            exact rest ls (lv_sub hl [0, 1, 2] rfl)
          · have hd4 : d ≠ 254 := fun q => hc (by rw [q])
            refine lv_iload_n hx hb d_Md_multipleKey_119 rfl (lv_at hl 0 rfl) ?_
            refine lv_iconst (v := nI (2)) hx hb d_Md_multipleKey_120 (by decide) ?_
            refine lv_icmp_le (tgt := 148) hx hb d_Md_multipleKey_121 (by decide) (fun hc => ?_) (fun hc => ?_)
            · have hc := (nI_leI (by omega) (by decide)).mp hc
              refine lv_iconst (v := nI (0)) hx hb d_Md_multipleKey_148 (by decide) ?_
              refine wv_top (w := nI (bitN (KEYB K) d)) (congrArg nI (kb2 K hc).symm) ?_
              refine lv_istore_n (lv' := [(2, .int (nI (bitN (KEYB K) d))), (1, .int (nI (d))), (0, .ref (ad 37))]) hx hb d_Md_multipleKey_149 rfl hl (by decide) rfl (fun ls hl => ?_)
              exact rest ls (lv_sub hl [0, 1, 2] rfl)
            · have hc := Nat.lt_of_not_le (fun q => hc ((nI_leI (by omega) (by decide)).mpr q))
              refine lv_aload_n hx hb d_Md_multipleKey_124 rfl (lv_at hl 1 rfl) ?_
              refine wv_getf hx hb h 37 (by decide) (fs := [.ref (ad 38), .int (nI (tl)), .int (nI (ol)), .int (nI (cd)), .ref (ad 39), .ref (ad 40), .ref (ad 41), .ref (ad 42), .ref (ad 43), .ref (ad 44), .ref (ad 45), .ref (ad 46), .ref (ad 47), .ref (ad 48), .ref (ad 49), .ref (ad 50)]) t8_37 hts (fun w hw => List.mem_cons_of_mem _ (fW_Md w hw)) hown (ci := 5) (C := "NonceBoxModel") (T := fT_Md) (N := 16) rfl 4 (by decide) (hts _ (List.mem_cons_of_mem _ kf_Md_13)) rfl (v := .ref (ad 39)) rfl d_Md_multipleKey_125 ?_
              refine lv_iload_n hx hb d_Md_multipleKey_128 rfl (lv_at hl 0 rfl) ?_
              refine lv_bipush (v := nI (8)) hx hb d_Md_multipleKey_129 (by decide) ?_
              refine lv_idiv hx hb d_Md_multipleKey_131 (by decide) ?_
              refine wv_top (w := nI (d / 8)) (pk_div (by omega) (by omega) (by omega)) ?_
              refine wv_iald hx hb h 39 (by decide) (f := (ns K)) t8_39 (k := d / 8) rfl (by omega) (by decide) d_Md_multipleKey_132 ?_
              refine wv_top (w := nI (K (d / 8))) rfl ?_
              refine lv_iload_n hx hb d_Md_multipleKey_133 rfl (lv_at hl 0 rfl) ?_
              refine lv_bipush (v := nI (8)) hx hb d_Md_multipleKey_134 (by decide) ?_
              refine lv_irem hx hb d_Md_multipleKey_136 (by decide) ?_
              refine wv_top (w := nI (d % 8)) (pk_rem (by omega) (by omega) (by omega)) ?_
              refine lv_ishr hx hb d_Md_multipleKey_137 ?_
              refine lv_iconst (v := (1 : Int32)) hx hb d_Md_multipleKey_138 (by decide) ?_
              refine lv_iand hx hb d_Md_multipleKey_139 ?_
              refine wv_top (w := nI (bitN (KEYB K) d)) ((nb_bit _ (hK _) _ (by omega)).trans (congrArg nI (kbm K hc (by omega)))) ?_
              refine lv_iconst (v := nI (1)) hx hb d_Md_multipleKey_140 (by decide) ?_
              refine lv_icmp_ne (tgt := 148) hx hb d_Md_multipleKey_141 (by decide) (fun hc9 => ?_) (fun hc9 => ?_)
              · have hq : bitN (KEYB K) d ≠ 1 := fun q => hc9 (by rw [q])
                refine lv_iconst (v := nI (0)) hx hb d_Md_multipleKey_148 (by decide) ?_
                refine wv_top (w := nI (bitN (KEYB K) d)) (congrArg nI (by omega)) ?_
                refine lv_istore_n (lv' := [(2, .int (nI (bitN (KEYB K) d))), (1, .int (nI (d))), (0, .ref (ad 37))]) hx hb d_Md_multipleKey_149 rfl hl (by decide) rfl (fun ls hl => ?_)
                exact rest ls (lv_sub hl [0, 1, 2] rfl)
              · have hq := (nI_eq (by omega) (by decide)).mp hc9
                refine lv_iconst (v := nI (1)) hx hb d_Md_multipleKey_144 (by decide) ?_
                refine lv_goto (tgt := 149) hx hb d_Md_multipleKey_145 (by decide) ?_
                refine wv_top (w := nI (bitN (KEYB K) d)) (congrArg nI hq.symm) ?_
                refine lv_istore_n (lv' := [(2, .int (nI (bitN (KEYB K) d))), (1, .int (nI (d))), (0, .ref (ad 37))]) hx hb d_Md_multipleKey_149 rfl hl (by decide) rfl (fun ls hl => ?_)
                exact rest ls (lv_sub hl [0, 1, 2] rfl)
      refine loop8 255 0 rfl wd R7 ev7 H locs ls ⟨n_R7_0, n_R7_1, n_R7_2, n_R7_3, n_R7_4, n_R7_13⟩ ?_ h (lv_sub hl [0, 1] rfl)
      rw [va_upi _ 45 t7_45, va_upi _ 44 t7_44]
    | succ d ih =>
      intro k hk_k  ev6 H locs ls  o6 h hl
      have t6_44 : ev6 44 = eJ G 160 (flat (va_up R5 4 (adBit (fun _ => 0) (PNTB X) k))) := by rw [o6, va_up_self]
      have t6_38 := (show ev6 38 = ev5 38 by rw [o6, va_up_ne _ _ (by decide)]).trans t5_38
      have t6_39 := (show ev6 39 = ev5 39 by rw [o6, va_up_ne _ _ (by decide)]).trans t5_39
      have t6_45 := (show ev6 45 = ev5 45 by rw [o6, va_up_ne _ _ (by decide)]).trans t5_45
      have t6_37 := (show ev6 37 = ev5 37 by rw [o6, va_up_ne _ _ (by decide)]).trans t5_37
      refine lv_iload_n hx hb d_Md_multipleKey_35 rfl (lv_at hl 0 rfl) ?_
      refine lv_sipush (v := nI (255)) hx hb d_Md_multipleKey_36 (by decide) ?_
      refine lv_icmp_ge (tgt := 98) hx hb d_Md_multipleKey_39 (by decide) (fun hc => absurd ((nI_leI (by omega) (by omega)).mp hc) (by omega)) (fun _ => ?_)
      have hbu : bitV (PNTB X) k < 2 := Nat.mod_lt _ (by decide)
      have hau := ad_lt (PNTB X) (t := k) (by omega)
      refine lv_aload_n hx hb d_Md_multipleKey_42 rfl (lv_at hl 1 rfl) ?_
      refine wv_getf hx hb h 37 (by decide) (fs := [.ref (ad 38), .int (nI (tl)), .int (nI (ol)), .int (nI (cd)), .ref (ad 39), .ref (ad 40), .ref (ad 41), .ref (ad 42), .ref (ad 43), .ref (ad 44), .ref (ad 45), .ref (ad 46), .ref (ad 47), .ref (ad 48), .ref (ad 49), .ref (ad 50)]) t6_37 hts (fun w hw => List.mem_cons_of_mem _ (fW_Md w hw)) hown (ci := 5) (C := "NonceBoxModel") (T := fT_Md) (N := 16) rfl 9 (by decide) (hts _ (List.mem_cons_of_mem _ kf_Md_28)) rfl (v := .ref (ad 44)) rfl d_Md_multipleKey_43 ?_
      refine lv_bipush (v := nI (40)) hx hb d_Md_multipleKey_46 (by decide) ?_
      refine lv_iload_n hx hb d_Md_multipleKey_48 rfl (lv_at hl 0 rfl) ?_
      refine lv_bipush (v := nI (26)) hx hb d_Md_multipleKey_49 (by decide) ?_
      refine lv_idiv hx hb d_Md_multipleKey_51 (by decide) ?_
      refine wv_top (w := nI (k / 26)) (pk_div (by omega) (by omega) (by omega)) ?_
      refine lv_iadd hx hb d_Md_multipleKey_52 ?_
      refine wv_top (w := nI (40 + (k / 26))) (nI_add _ _) ?_
      refine lv_aload_n hx hb d_Md_multipleKey_53 rfl (lv_at hl 1 rfl) ?_
      refine wv_getf hx hb h 37 (by decide) (fs := [.ref (ad 38), .int (nI (tl)), .int (nI (ol)), .int (nI (cd)), .ref (ad 39), .ref (ad 40), .ref (ad 41), .ref (ad 42), .ref (ad 43), .ref (ad 44), .ref (ad 45), .ref (ad 46), .ref (ad 47), .ref (ad 48), .ref (ad 49), .ref (ad 50)]) t6_37 hts (fun w hw => List.mem_cons_of_mem _ (fW_Md w hw)) hown (ci := 5) (C := "NonceBoxModel") (T := fT_Md) (N := 16) rfl 9 (by decide) (hts _ (List.mem_cons_of_mem _ kf_Md_28)) rfl (v := .ref (ad 44)) rfl d_Md_multipleKey_54 ?_
      refine lv_bipush (v := nI (40)) hx hb d_Md_multipleKey_57 (by decide) ?_
      refine lv_iload_n hx hb d_Md_multipleKey_59 rfl (lv_at hl 0 rfl) ?_
      refine lv_bipush (v := nI (26)) hx hb d_Md_multipleKey_60 (by decide) ?_
      refine lv_idiv hx hb d_Md_multipleKey_62 (by decide) ?_
      refine wv_top (w := nI (k / 26)) (pk_div (by omega) (by omega) (by omega)) ?_
      refine lv_iadd hx hb d_Md_multipleKey_63 ?_
      refine wv_top (w := nI (40 + (k / 26))) (nI_add _ _) ?_
      refine wv_lald hx hb h 44 (by decide) (f := (flat (va_up R5 4 (adBit (fun _ => 0) (PNTB X) k)))) t6_44 (k := 40 + (k / 26)) rfl (by omega) (by decide) d_Md_multipleKey_64 ?_
      refine wv_topl (w := adBit (fun _ => 0) (PNTB X) k (k / 26)) (by rw [flat_4 _ (by omega), va_up_self]) ?_
      refine lv_aload_n hx hb d_Md_multipleKey_65 rfl (lv_at hl 1 rfl) ?_
      refine wv_getf hx hb h 37 (by decide) (fs := [.ref (ad 38), .int (nI (tl)), .int (nI (ol)), .int (nI (cd)), .ref (ad 39), .ref (ad 40), .ref (ad 41), .ref (ad 42), .ref (ad 43), .ref (ad 44), .ref (ad 45), .ref (ad 46), .ref (ad 47), .ref (ad 48), .ref (ad 49), .ref (ad 50)]) t6_37 hts (fun w hw => List.mem_cons_of_mem _ (fW_Md w hw)) hown (ci := 5) (C := "NonceBoxModel") (T := fT_Md) (N := 16) rfl 0 (by decide) (hts _ (List.mem_cons_of_mem _ kf_Md_7)) rfl (v := .ref (ad 38)) rfl d_Md_multipleKey_66 ?_
      refine lv_bipush (v := nI (56)) hx hb d_Md_multipleKey_69 (by decide) ?_
      refine lv_iload_n hx hb d_Md_multipleKey_71 rfl (lv_at hl 0 rfl) ?_
      refine lv_bipush (v := nI (8)) hx hb d_Md_multipleKey_72 (by decide) ?_
      refine lv_idiv hx hb d_Md_multipleKey_74 (by decide) ?_
      refine wv_top (w := nI (k / 8)) (pk_div (by omega) (by omega) (by omega)) ?_
      refine lv_iadd hx hb d_Md_multipleKey_75 ?_
      refine wv_top (w := nI (56 + (k / 8))) (nI_add _ _) ?_
      refine wv_iald hx hb h 38 (by decide) (f := (ns F)) t6_38 (k := 56 + (k / 8)) rfl (by omega) (by decide) d_Md_multipleKey_76 ?_
      refine wv_top (w := nI (X (k / 8))) (congrArg nI (hF _ (by omega))) ?_
      refine lv_iload_n hx hb d_Md_multipleKey_77 rfl (lv_at hl 0 rfl) ?_
      refine lv_bipush (v := nI (8)) hx hb d_Md_multipleKey_78 (by decide) ?_
      refine lv_irem hx hb d_Md_multipleKey_80 (by decide) ?_
      refine wv_top (w := nI (k % 8)) (pk_rem (by omega) (by omega) (by omega)) ?_
      refine lv_ishr hx hb d_Md_multipleKey_81 ?_
      refine lv_iconst (v := (1 : Int32)) hx hb d_Md_multipleKey_82 (by decide) ?_
      refine lv_iand hx hb d_Md_multipleKey_83 ?_
      refine wv_top (w := nI (bitV (PNTB X) k)) ((nb_bit _ (hX _) _ (by omega)).trans (congrArg nI (p_bit X (by omega)))) ?_
      refine lv_i2l hx hb d_Md_multipleKey_84 rfl ?_
      refine lv_iload_n hx hb d_Md_multipleKey_85 rfl (lv_at hl 0 rfl) ?_
      refine lv_bipush (v := nI (26)) hx hb d_Md_multipleKey_86 (by decide) ?_
      refine lv_irem hx hb d_Md_multipleKey_88 (by decide) ?_
      refine wv_top (w := nI (k % 26)) (pk_rem (by omega) (by omega) (by omega)) ?_
      refine lv_lshl (v := sal ((nI (bitV (PNTB X) k)).toInt64) (k % 26)) hx hb d_Md_multipleKey_89 rfl ?_
      refine lv_lor hx hb d_Md_multipleKey_90 ?_
      refine wv_topl (w := adBit (fun _ => 0) (PNTB X) k (k / 26) + sal (nI (bitV (PNTB X) k)).toInt64 (k % 26)) (lor_add (by omega) hau.1 hau.2 hbu) ?_
      refine wv_last hx hb h 44 (by decide) (f := (flat (va_up R5 4 (adBit (fun _ => 0) (PNTB X) k)))) t6_44 (k := 40 + (k / 26)) rfl (by omega) (by decide) d_Md_multipleKey_91 (fun H locs h => ?_)
      obtain ⟨ev7, o7⟩ : ∃ z, z = va_up ev6 44 (eJ G 160 (va_up ((flat (va_up R5 4 (adBit (fun _ => 0) (PNTB X) k)))) (40 + (k / 26)) (adBit (fun _ => 0) (PNTB X) k (k / 26) + sal (nI (bitV (PNTB X) k)).toInt64 (k % 26)))) := ⟨_, rfl⟩
      rw [← o7] at h
      have t7_44 : ev7 44 = eJ G 160 (va_up ((flat (va_up R5 4 (adBit (fun _ => 0) (PNTB X) k)))) (40 + (k / 26)) (adBit (fun _ => 0) (PNTB X) k (k / 26) + sal (nI (bitV (PNTB X) k)).toInt64 (k % 26))) := by rw [o7, va_up_self]
      have t7_38 := (show ev7 38 = ev6 38 by rw [o7, va_up_ne _ _ (by decide)]).trans t6_38
      have t7_39 := (show ev7 39 = ev6 39 by rw [o7, va_up_ne _ _ (by decide)]).trans t6_39
      have t7_45 := (show ev7 45 = ev6 45 by rw [o7, va_up_ne _ _ (by decide)]).trans t6_45
      have t7_37 := (show ev7 37 = ev6 37 by rw [o7, va_up_ne _ _ (by decide)]).trans t6_37
      rw [flat_up4 _ (by omega), va_up_self, va_up2] at o7
      refine lv_iinc (v := nI (k + 1)) (lv' := [(1, .int (nI (k + 1))), (0, .ref (ad 37))]) hx hb d_Md_multipleKey_92 hl (k := 0) rfl (nI_add _ _) (by decide) rfl (fun ls hl => ?_)
      refine lv_goto (tgt := 35) hx hb d_Md_multipleKey_95 (by decide) ?_
      refine ih (k + 1) (by omega) ev7 H locs ls ?_ h (lv_sub hl [0, 1] rfl)
      rw [o7, o6, va_up2]
      rfl
  exact loop6 255 0 rfl ev5 H locs ls (by rw [show va_up R5 4 (adBit (fun _ => 0) (PNTB X) 0) = R5 from va_upi _ _ e4, va_upi _ _ t5_44]) h (lv_sub hl [0, 1] rfl)
