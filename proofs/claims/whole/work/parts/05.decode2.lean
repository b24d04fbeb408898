theorem dX5_begins_67 : decode cX5_begins 67 = .ok (.iload_n 1, 1) := by decide +kernel
theorem dX5_begins_68 : decode cX5_begins 68 = .ok (.iload_n 3, 1) := by decide +kernel
theorem dX5_begins_69 : decode cX5_begins 69 = .ok (.invokevirtual 101, 3) := by decide +kernel
theorem dX5_begins_72 : decode cX5_begins 72 = .ok (.istore 6, 2) := by decide +kernel
theorem dX5_begins_74 : decode cX5_begins 74 = .ok (.goto (-55), 3) := by decide +kernel
theorem dX5_begins_77 : decode cX5_begins 77 = .ok (.return_, 1) := by decide +kernel
theorem dX5_forgets_0 : decode cX5_forgets 0 = .ok (.iconst 0, 1) := by decide +kernel
theorem dX5_forgets_1 : decode cX5_forgets 1 = .ok (.istore_n 1, 1) := by decide +kernel
theorem dX5_forgets_2 : decode cX5_forgets 2 = .ok (.iload_n 1, 1) := by decide +kernel
theorem dX5_forgets_3 : decode cX5_forgets 3 = .ok (.sipush 300, 3) := by decide +kernel
theorem dX5_forgets_6 : decode cX5_forgets 6 = .ok (.if_icmp .ge 40, 3) := by decide +kernel
theorem dX5_forgets_9 : decode cX5_forgets 9 = .ok (.aload_n 0, 1) := by decide +kernel
theorem dX5_forgets_10 : decode cX5_forgets 10 = .ok (.getfield 44, 3) := by decide +kernel
theorem dX5_forgets_13 : decode cX5_forgets 13 = .ok (.iload_n 1, 1) := by decide +kernel
theorem dX5_forgets_14 : decode cX5_forgets 14 = .ok (.ldc 96, 2) := by decide +kernel
theorem dX5_forgets_16 : decode cX5_forgets 16 = .ok (.iastore, 1) := by decide +kernel
theorem dX5_forgets_17 : decode cX5_forgets 17 = .ok (.aload_n 0, 1) := by decide +kernel
theorem dX5_forgets_18 : decode cX5_forgets 18 = .ok (.getfield 47, 3) := by decide +kernel
theorem dX5_forgets_21 : decode cX5_forgets 21 = .ok (.iload_n 1, 1) := by decide +kernel
theorem dX5_forgets_22 : decode cX5_forgets 22 = .ok (.ldc 96, 2) := by decide +kernel
theorem dX5_forgets_24 : decode cX5_forgets 24 = .ok (.iastore, 1) := by decide +kernel
theorem dX5_forgets_25 : decode cX5_forgets 25 = .ok (.aload_n 0, 1) := by decide +kernel
theorem dX5_forgets_26 : decode cX5_forgets 26 = .ok (.getfield 50, 3) := by decide +kernel
theorem dX5_forgets_29 : decode cX5_forgets 29 = .ok (.iload_n 1, 1) := by decide +kernel
theorem dX5_forgets_30 : decode cX5_forgets 30 = .ok (.ldc 96, 2) := by decide +kernel
theorem dX5_forgets_32 : decode cX5_forgets 32 = .ok (.iastore, 1) := by decide +kernel
theorem dX5_forgets_33 : decode cX5_forgets 33 = .ok (.aload_n 0, 1) := by decide +kernel
theorem dX5_forgets_34 : decode cX5_forgets 34 = .ok (.getfield 53, 3) := by decide +kernel
theorem dX5_forgets_37 : decode cX5_forgets 37 = .ok (.iload_n 1, 1) := by decide +kernel
theorem dX5_forgets_38 : decode cX5_forgets 38 = .ok (.iconst 0, 1) := by decide +kernel
theorem dX5_forgets_39 : decode cX5_forgets 39 = .ok (.bastore, 1) := by decide +kernel
theorem dX5_forgets_40 : decode cX5_forgets 40 = .ok (.iinc 1 1, 3) := by decide +kernel
theorem dX5_forgets_43 : decode cX5_forgets 43 = .ok (.goto (-41), 3) := by decide +kernel
theorem dX5_forgets_46 : decode cX5_forgets 46 = .ok (.return_, 1) := by decide +kernel
theorem dX5_plays_0 : decode cX5_plays 0 = .ok (.aload_n 0, 1) := by decide +kernel
theorem dX5_plays_1 : decode cX5_plays 1 = .ok (.invokevirtual 104, 3) := by decide +kernel
theorem dX5_plays_4 : decode cX5_plays 4 = .ok (.iconst 0, 1) := by decide +kernel
theorem dX5_plays_5 : decode cX5_plays 5 = .ok (.istore_n 2, 1) := by decide +kernel
theorem dX5_plays_6 : decode cX5_plays 6 = .ok (.iload_n 2, 1) := by decide +kernel
theorem dX5_plays_7 : decode cX5_plays 7 = .ok (.sipush 300, 3) := by decide +kernel
theorem dX5_plays_10 : decode cX5_plays 10 = .ok (.if_icmp .ge 21, 3) := by decide +kernel
theorem dX5_plays_13 : decode cX5_plays 13 = .ok (.aload_n 0, 1) := by decide +kernel
theorem dX5_plays_14 : decode cX5_plays 14 = .ok (.getfield 56, 3) := by decide +kernel
theorem dX5_plays_17 : decode cX5_plays 17 = .ok (.iload_n 2, 1) := by decide +kernel
theorem dX5_plays_18 : decode cX5_plays 18 = .ok (.aload_n 0, 1) := by decide +kernel
theorem dX5_plays_19 : decode cX5_plays 19 = .ok (.getfield 31, 3) := by decide +kernel
theorem dX5_plays_22 : decode cX5_plays 22 = .ok (.iload_n 2, 1) := by decide +kernel
theorem dX5_plays_23 : decode cX5_plays 23 = .ok (.iaload, 1) := by decide +kernel
theorem dX5_plays_24 : decode cX5_plays 24 = .ok (.iastore, 1) := by decide +kernel
theorem dX5_plays_25 : decode cX5_plays 25 = .ok (.iinc 2 1, 3) := by decide +kernel
theorem dX5_plays_28 : decode cX5_plays 28 = .ok (.goto (-22), 3) := by decide +kernel
theorem dX5_plays_31 : decode cX5_plays 31 = .ok (.iconst 0, 1) := by decide +kernel
theorem dX5_plays_32 : decode cX5_plays 32 = .ok (.istore_n 2, 1) := by decide +kernel
theorem dX5_plays_33 : decode cX5_plays 33 = .ok (.iload_n 2, 1) := by decide +kernel
theorem dX5_plays_34 : decode cX5_plays 34 = .ok (.aload_n 0, 1) := by decide +kernel
theorem dX5_plays_35 : decode cX5_plays 35 = .ok (.getfield 70, 3) := by decide +kernel
theorem dX5_plays_38 : decode cX5_plays 38 = .ok (.if_icmp .ge 23, 3) := by decide +kernel
theorem dX5_plays_41 : decode cX5_plays 41 = .ok (.aload_n 0, 1) := by decide +kernel
theorem dX5_plays_42 : decode cX5_plays 42 = .ok (.getfield 44, 3) := by decide +kernel
theorem dX5_plays_45 : decode cX5_plays 45 = .ok (.iconst 5, 1) := by decide +kernel
theorem dX5_plays_46 : decode cX5_plays 46 = .ok (.iload_n 2, 1) := by decide +kernel
theorem dX5_plays_47 : decode cX5_plays 47 = .ok (.imul, 1) := by decide +kernel
theorem dX5_plays_48 : decode cX5_plays 48 = .ok (.aload_n 0, 1) := by decide +kernel
theorem dX5_plays_49 : decode cX5_plays 49 = .ok (.getfield 22, 3) := by decide +kernel
theorem dX5_plays_52 : decode cX5_plays 52 = .ok (.iload_n 2, 1) := by decide +kernel
theorem dX5_plays_53 : decode cX5_plays 53 = .ok (.iaload, 1) := by decide +kernel
theorem dX5_plays_54 : decode cX5_plays 54 = .ok (.iastore, 1) := by decide +kernel
theorem dX5_plays_55 : decode cX5_plays 55 = .ok (.iinc 2 1, 3) := by decide +kernel
theorem dX5_plays_58 : decode cX5_plays 58 = .ok (.goto (-25), 3) := by decide +kernel
theorem dX5_plays_61 : decode cX5_plays 61 = .ok (.iconst (-1), 1) := by decide +kernel
theorem dX5_plays_62 : decode cX5_plays 62 = .ok (.istore_n 2, 1) := by decide +kernel
theorem dX5_plays_63 : decode cX5_plays 63 = .ok (.ldc 96, 2) := by decide +kernel
theorem dX5_plays_65 : decode cX5_plays 65 = .ok (.istore_n 3, 1) := by decide +kernel
theorem dX5_plays_66 : decode cX5_plays 66 = .ok (.iconst 0, 1) := by decide +kernel
theorem dX5_plays_67 : decode cX5_plays 67 = .ok (.istore 4, 2) := by decide +kernel
theorem dX5_plays_69 : decode cX5_plays 69 = .ok (.iload 4, 2) := by decide +kernel
theorem dX5_plays_71 : decode cX5_plays 71 = .ok (.iconst 5, 1) := by decide +kernel
theorem dX5_plays_72 : decode cX5_plays 72 = .ok (.aload_n 0, 1) := by decide +kernel
theorem dX5_plays_73 : decode cX5_plays 73 = .ok (.getfield 70, 3) := by decide +kernel
theorem dX5_plays_76 : decode cX5_plays 76 = .ok (.imul, 1) := by decide +kernel
theorem dX5_plays_77 : decode cX5_plays 77 = .ok (.if_icmp .ge 55, 3) := by decide +kernel
theorem dX5_plays_80 : decode cX5_plays 80 = .ok (.aload_n 0, 1) := by decide +kernel
theorem dX5_plays_81 : decode cX5_plays 81 = .ok (.getfield 44, 3) := by decide +kernel
theorem dX5_plays_84 : decode cX5_plays 84 = .ok (.iload 4, 2) := by decide +kernel
theorem dX5_plays_86 : decode cX5_plays 86 = .ok (.iaload, 1) := by decide +kernel
theorem dX5_plays_87 : decode cX5_plays 87 = .ok (.iload_n 2, 1) := by decide +kernel
theorem dX5_plays_88 : decode cX5_plays 88 = .ok (.if_icmp .le 15, 3) := by decide +kernel
theorem dX5_plays_91 : decode cX5_plays 91 = .ok (.iload_n 3, 1) := by decide +kernel
theorem dX5_plays_92 : decode cX5_plays 92 = .ok (.aload_n 0, 1) := by decide +kernel
theorem dX5_plays_93 : decode cX5_plays 93 = .ok (.getfield 44, 3) := by decide +kernel
theorem dX5_plays_96 : decode cX5_plays 96 = .ok (.iload 4, 2) := by decide +kernel
theorem dX5_plays_98 : decode cX5_plays 98 = .ok (.iaload, 1) := by decide +kernel
theorem dX5_plays_99 : decode cX5_plays 99 = .ok (.invokestatic 107, 3) := by decide +kernel
theorem dX5_plays_102 : decode cX5_plays 102 = .ok (.istore_n 3, 1) := by decide +kernel
theorem dX5_plays_103 : decode cX5_plays 103 = .ok (.aload_n 0, 1) := by decide +kernel
theorem dX5_plays_104 : decode cX5_plays 104 = .ok (.getfield 50, 3) := by decide +kernel
theorem dX5_plays_107 : decode cX5_plays 107 = .ok (.iload 4, 2) := by decide +kernel
theorem dX5_plays_109 : decode cX5_plays 109 = .ok (.iaload, 1) := by decide +kernel
theorem dX5_plays_110 : decode cX5_plays 110 = .ok (.iload_n 2, 1) := by decide +kernel
theorem dX5_plays_111 : decode cX5_plays 111 = .ok (.if_icmp .le 15, 3) := by decide +kernel
theorem dX5_plays_114 : decode cX5_plays 114 = .ok (.iload_n 3, 1) := by decide +kernel
theorem dX5_plays_115 : decode cX5_plays 115 = .ok (.aload_n 0, 1) := by decide +kernel
theorem dX5_plays_116 : decode cX5_plays 116 = .ok (.getfield 50, 3) := by decide +kernel
theorem dX5_plays_119 : decode cX5_plays 119 = .ok (.iload 4, 2) := by decide +kernel
theorem dX5_plays_121 : decode cX5_plays 121 = .ok (.iaload, 1) := by decide +kernel
theorem dX5_plays_122 : decode cX5_plays 122 = .ok (.invokestatic 107, 3) := by decide +kernel
theorem dX5_plays_125 : decode cX5_plays 125 = .ok (.istore_n 3, 1) := by decide +kernel
theorem dX5_plays_126 : decode cX5_plays 126 = .ok (.iinc 4 1, 3) := by decide +kernel
theorem dX5_plays_129 : decode cX5_plays 129 = .ok (.goto (-60), 3) := by decide +kernel
theorem dX5_plays_132 : decode cX5_plays 132 = .ok (.iload_n 3, 1) := by decide +kernel
theorem dX5_plays_133 : decode cX5_plays 133 = .ok (.ldc 96, 2) := by decide +kernel
theorem dX5_plays_135 : decode cX5_plays 135 = .ok (.if_icmp .ne 9, 3) := by decide +kernel
theorem dX5_plays_138 : decode cX5_plays 138 = .ok (.iconst 0, 1) := by decide +kernel
theorem dX5_plays_139 : decode cX5_plays 139 = .ok (.iload_n 2, 1) := by decide +kernel
theorem dX5_plays_140 : decode cX5_plays 140 = .ok (.invokestatic 112, 3) := by decide +kernel
theorem dX5_plays_143 : decode cX5_plays 143 = .ok (.ireturn, 1) := by decide +kernel
theorem dX5_plays_144 : decode cX5_plays 144 = .ok (.iload_n 3, 1) := by decide +kernel
theorem dX5_plays_145 : decode cX5_plays 145 = .ok (.istore_n 2, 1) := by decide +kernel
theorem dX5_plays_146 : decode cX5_plays 146 = .ok (.iconst 0, 1) := by decide +kernel
theorem dX5_plays_147 : decode cX5_plays 147 = .ok (.istore 4, 2) := by decide +kernel
theorem dX5_plays_149 : decode cX5_plays 149 = .ok (.iload 4, 2) := by decide +kernel
theorem dX5_plays_151 : decode cX5_plays 151 = .ok (.iconst 5, 1) := by decide +kernel
theorem dX5_plays_152 : decode cX5_plays 152 = .ok (.aload_n 0, 1) := by decide +kernel
theorem dX5_plays_153 : decode cX5_plays 153 = .ok (.getfield 70, 3) := by decide +kernel
theorem dX5_plays_156 : decode cX5_plays 156 = .ok (.imul, 1) := by decide +kernel
theorem dX5_plays_157 : decode cX5_plays 157 = .ok (.if_icmp .ge 61, 3) := by decide +kernel
theorem dX5_plays_160 : decode cX5_plays 160 = .ok (.aload_n 0, 1) := by decide +kernel
theorem dX5_plays_161 : decode cX5_plays 161 = .ok (.getfield 50, 3) := by decide +kernel
theorem dX5_plays_164 : decode cX5_plays 164 = .ok (.iload 4, 2) := by decide +kernel
theorem dX5_plays_166 : decode cX5_plays 166 = .ok (.iaload, 1) := by decide +kernel
theorem dX5_plays_167 : decode cX5_plays 167 = .ok (.iload_n 2, 1) := by decide +kernel
theorem dX5_plays_168 : decode cX5_plays 168 = .ok (.if_icmp .ne 44, 3) := by decide +kernel
theorem dX5_plays_171 : decode cX5_plays 171 = .ok (.iload 4, 2) := by decide +kernel
theorem dX5_plays_173 : decode cX5_plays 173 = .ok (.iconst 5, 1) := by decide +kernel
theorem dX5_plays_174 : decode cX5_plays 174 = .ok (.irem, 1) := by decide +kernel
theorem dX5_plays_175 : decode cX5_plays 175 = .ok (.iconst 1, 1) := by decide +kernel
theorem dX5_plays_176 : decode cX5_plays 176 = .ok (.iadd, 1) := by decide +kernel
theorem dX5_plays_177 : decode cX5_plays 177 = .ok (.aload_n 0, 1) := by decide +kernel
theorem dX5_plays_178 : decode cX5_plays 178 = .ok (.getfield 25, 3) := by decide +kernel
theorem dX5_plays_181 : decode cX5_plays 181 = .ok (.iload 4, 2) := by decide +kernel
theorem dX5_plays_183 : decode cX5_plays 183 = .ok (.iconst 5, 1) := by decide +kernel
theorem dX5_plays_184 : decode cX5_plays 184 = .ok (.idiv, 1) := by decide +kernel
theorem dX5_plays_185 : decode cX5_plays 185 = .ok (.iaload, 1) := by decide +kernel
theorem dX5_plays_186 : decode cX5_plays 186 = .ok (.if_icmp .ge 26, 3) := by decide +kernel
theorem dX5_plays_189 : decode cX5_plays 189 = .ok (.aload_n 0, 1) := by decide +kernel
theorem dX5_plays_190 : decode cX5_plays 190 = .ok (.getfield 44, 3) := by decide +kernel
theorem dX5_plays_193 : decode cX5_plays 193 = .ok (.iload 4, 2) := by decide +kernel
theorem dX5_plays_195 : decode cX5_plays 195 = .ok (.iconst 1, 1) := by decide +kernel
theorem dX5_plays_196 : decode cX5_plays 196 = .ok (.iadd, 1) := by decide +kernel
theorem dX5_plays_197 : decode cX5_plays 197 = .ok (.iload_n 2, 1) := by decide +kernel
theorem dX5_plays_198 : decode cX5_plays 198 = .ok (.aload_n 0, 1) := by decide +kernel
theorem dX5_plays_199 : decode cX5_plays 199 = .ok (.getfield 16, 3) := by decide +kernel
theorem dX5_plays_202 : decode cX5_plays 202 = .ok (.aload_n 0, 1) := by decide +kernel
theorem dX5_plays_203 : decode cX5_plays 203 = .ok (.getfield 28, 3) := by decide +kernel
theorem dX5_plays_206 : decode cX5_plays 206 = .ok (.iload 4, 2) := by decide +kernel
theorem dX5_plays_208 : decode cX5_plays 208 = .ok (.iaload, 1) := by decide +kernel
theorem dX5_plays_209 : decode cX5_plays 209 = .ok (.iaload, 1) := by decide +kernel
theorem dX5_plays_210 : decode cX5_plays 210 = .ok (.iadd, 1) := by decide +kernel
theorem dX5_plays_211 : decode cX5_plays 211 = .ok (.iastore, 1) := by decide +kernel
theorem dX5_plays_212 : decode cX5_plays 212 = .ok (.iinc 4 1, 3) := by decide +kernel
theorem dX5_plays_215 : decode cX5_plays 215 = .ok (.goto (-66), 3) := by decide +kernel
theorem dX5_plays_218 : decode cX5_plays 218 = .ok (.iconst 0, 1) := by decide +kernel
theorem dX5_plays_219 : decode cX5_plays 219 = .ok (.istore 4, 2) := by decide +kernel
theorem dX5_plays_221 : decode cX5_plays 221 = .ok (.iload 4, 2) := by decide +kernel
theorem dX5_plays_223 : decode cX5_plays 223 = .ok (.iconst 5, 1) := by decide +kernel
theorem dX5_plays_224 : decode cX5_plays 224 = .ok (.aload_n 0, 1) := by decide +kernel
theorem dX5_plays_225 : decode cX5_plays 225 = .ok (.getfield 70, 3) := by decide +kernel
theorem dX5_plays_228 : decode cX5_plays 228 = .ok (.imul, 1) := by decide +kernel
theorem dX5_plays_229 : decode cX5_plays 229 = .ok (.if_icmp .ge 40, 3) := by decide +kernel
theorem dX5_plays_232 : decode cX5_plays 232 = .ok (.aload_n 0, 1) := by decide +kernel
theorem dX5_plays_233 : decode cX5_plays 233 = .ok (.getfield 44, 3) := by decide +kernel
theorem dX5_plays_236 : decode cX5_plays 236 = .ok (.iload 4, 2) := by decide +kernel
theorem dX5_plays_238 : decode cX5_plays 238 = .ok (.iaload, 1) := by decide +kernel
theorem dX5_plays_239 : decode cX5_plays 239 = .ok (.iload_n 2, 1) := by decide +kernel
theorem dX5_plays_240 : decode cX5_plays 240 = .ok (.if_icmp .ne 23, 3) := by decide +kernel
theorem dX5_plays_243 : decode cX5_plays 243 = .ok (.aload_n 0, 1) := by decide +kernel
theorem dX5_plays_244 : decode cX5_plays 244 = .ok (.getfield 47, 3) := by decide +kernel
theorem dX5_plays_247 : decode cX5_plays 247 = .ok (.iload 4, 2) := by decide +kernel
theorem dX5_plays_249 : decode cX5_plays 249 = .ok (.iaload, 1) := by decide +kernel
theorem dX5_plays_250 : decode cX5_plays 250 = .ok (.ldc 96, 2) := by decide +kernel
theorem dX5_plays_252 : decode cX5_plays 252 = .ok (.if_icmp .ne 11, 3) := by decide +kernel
theorem dX5_plays_255 : decode cX5_plays 255 = .ok (.aload_n 0, 1) := by decide +kernel
theorem dX5_plays_256 : decode cX5_plays 256 = .ok (.getfield 53, 3) := by decide +kernel
theorem dX5_plays_259 : decode cX5_plays 259 = .ok (.iload 4, 2) := by decide +kernel
theorem dX5_plays_261 : decode cX5_plays 261 = .ok (.iconst 1, 1) := by decide +kernel
theorem dX5_plays_262 : decode cX5_plays 262 = .ok (.bastore, 1) := by decide +kernel
theorem dX5_plays_263 : decode cX5_plays 263 = .ok (.iinc 4 1, 3) := by decide +kernel
theorem dX5_plays_266 : decode cX5_plays 266 = .ok (.goto (-45), 3) := by decide +kernel
theorem dX5_plays_269 : decode cX5_plays 269 = .ok (.iconst 0, 1) := by decide +kernel
theorem dX5_plays_270 : decode cX5_plays 270 = .ok (.istore 4, 2) := by decide +kernel
theorem dX5_plays_272 : decode cX5_plays 272 = .ok (.iload 4, 2) := by decide +kernel
theorem dX5_plays_274 : decode cX5_plays 274 = .ok (.aload_n 0, 1) := by decide +kernel
theorem dX5_plays_275 : decode cX5_plays 275 = .ok (.getfield 63, 3) := by decide +kernel
theorem dX5_plays_278 : decode cX5_plays 278 = .ok (.if_icmp .ge 42, 3) := by decide +kernel
theorem dX5_plays_281 : decode cX5_plays 281 = .ok (.aload_n 0, 1) := by decide +kernel
theorem dX5_plays_282 : decode cX5_plays 282 = .ok (.iload 4, 2) := by decide +kernel
theorem dX5_plays_284 : decode cX5_plays 284 = .ok (.aload_n 0, 1) := by decide +kernel
theorem dX5_plays_285 : decode cX5_plays 285 = .ok (.getfield 9, 3) := by decide +kernel
theorem dX5_plays_288 : decode cX5_plays 288 = .ok (.iload 4, 2) := by decide +kernel
theorem dX5_plays_290 : decode cX5_plays 290 = .ok (.iaload, 1) := by decide +kernel
theorem dX5_plays_291 : decode cX5_plays 291 = .ok (.iload 4, 2) := by decide +kernel
theorem dX5_plays_293 : decode cX5_plays 293 = .ok (.iload_n 1, 1) := by decide +kernel
theorem dX5_plays_294 : decode cX5_plays 294 = .ok (.if_icmp .ne 7, 3) := by decide +kernel
theorem dX5_plays_297 : decode cX5_plays 297 = .ok (.iconst 1, 1) := by decide +kernel
theorem dX5_plays_298 : decode cX5_plays 298 = .ok (.goto 4, 3) := by decide +kernel
theorem dX5_plays_301 : decode cX5_plays 301 = .ok (.iconst 0, 1) := by decide +kernel
theorem dX5_plays_302 : decode cX5_plays 302 = .ok (.iadd, 1) := by decide +kernel
theorem dX5_plays_303 : decode cX5_plays 303 = .ok (.aload_n 0, 1) := by decide +kernel
theorem dX5_plays_304 : decode cX5_plays 304 = .ok (.getfield 13, 3) := by decide +kernel
theorem dX5_plays_307 : decode cX5_plays 307 = .ok (.iload 4, 2) := by decide +kernel
theorem dX5_plays_309 : decode cX5_plays 309 = .ok (.iaload, 1) := by decide +kernel
theorem dX5_plays_310 : decode cX5_plays 310 = .ok (.iload_n 2, 1) := by decide +kernel
theorem dX5_plays_311 : decode cX5_plays 311 = .ok (.invokevirtual 115, 3) := by decide +kernel
theorem dX5_plays_314 : decode cX5_plays 314 = .ok (.iinc 4 1, 3) := by decide +kernel
theorem dX5_plays_317 : decode cX5_plays 317 = .ok (.goto (-45), 3) := by decide +kernel
theorem dX5_plays_320 : decode cX5_plays 320 = .ok (.goto (-257), 3) := by decide +kernel
theorem dX5_played_0 : decode cX5_played 0 = .ok (.aload_n 0, 1) := by decide +kernel
theorem dX5_played_1 : decode cX5_played 1 = .ok (.iconst 0, 1) := by decide +kernel
theorem dX5_played_2 : decode cX5_played 2 = .ok (.putfield 59, 3) := by decide +kernel
theorem dX5_played_5 : decode cX5_played 5 = .ok (.aload_n 0, 1) := by decide +kernel
theorem dX5_played_6 : decode cX5_played 6 = .ok (.aload_n 0, 1) := by decide +kernel
theorem dX5_played_7 : decode cX5_played 7 = .ok (.iload_n 1, 1) := by decide +kernel
theorem dX5_played_8 : decode cX5_played 8 = .ok (.iload_n 2, 1) := by decide +kernel
theorem dX5_played_9 : decode cX5_played 9 = .ok (.invokevirtual 88, 3) := by decide +kernel
theorem dX5_played_12 : decode cX5_played 12 = .ok (.iconst 1, 1) := by decide +kernel
theorem dX5_played_13 : decode cX5_played 13 = .ok (.invokevirtual 80, 3) := by decide +kernel
theorem dX5_played_16 : decode cX5_played 16 = .ok (.ifCond .ne 25, 3) := by decide +kernel
theorem dX5_played_19 : decode cX5_played 19 = .ok (.aload_n 0, 1) := by decide +kernel
theorem dX5_played_20 : decode cX5_played 20 = .ok (.iload_n 3, 1) := by decide +kernel
theorem dX5_played_21 : decode cX5_played 21 = .ok (.iconst 0, 1) := by decide +kernel
theorem dX5_played_22 : decode cX5_played 22 = .ok (.iconst 2, 1) := by decide +kernel
theorem dX5_played_23 : decode cX5_played 23 = .ok (.invokestatic 66, 3) := by decide +kernel
theorem dX5_played_26 : decode cX5_played 26 = .ok (.ifCond .ne 7, 3) := by decide +kernel
theorem dX5_played_29 : decode cX5_played 29 = .ok (.iconst 1, 1) := by decide +kernel
theorem dX5_played_30 : decode cX5_played 30 = .ok (.goto 4, 3) := by decide +kernel
theorem dX5_played_33 : decode cX5_played 33 = .ok (.iconst 0, 1) := by decide +kernel
theorem dX5_played_34 : decode cX5_played 34 = .ok (.iconst 2, 1) := by decide +kernel
theorem dX5_played_35 : decode cX5_played 35 = .ok (.invokevirtual 80, 3) := by decide +kernel
theorem dX5_played_38 : decode cX5_played 38 = .ok (.ifCond .eq 5, 3) := by decide +kernel
theorem dX5_played_41 : decode cX5_played 41 = .ok (.iconst 0, 1) := by decide +kernel
theorem dX5_played_42 : decode cX5_played 42 = .ok (.ireturn, 1) := by decide +kernel
theorem dX5_played_43 : decode cX5_played 43 = .ok (.aload_n 0, 1) := by decide +kernel
theorem dX5_played_44 : decode cX5_played 44 = .ok (.iconst (-1), 1) := by decide +kernel
theorem dX5_played_45 : decode cX5_played 45 = .ok (.invokevirtual 119, 3) := by decide +kernel
theorem dX5_played_48 : decode cX5_played 48 = .ok (.istore 4, 2) := by decide +kernel
theorem dX5_played_50 : decode cX5_played 50 = .ok (.iconst 5, 1) := by decide +kernel
theorem dX5_played_51 : decode cX5_played 51 = .ok (.iload_n 1, 1) := by decide +kernel
theorem dX5_played_52 : decode cX5_played 52 = .ok (.imul, 1) := by decide +kernel
theorem dX5_played_53 : decode cX5_played 53 = .ok (.iload_n 2, 1) := by decide +kernel
theorem dX5_played_54 : decode cX5_played 54 = .ok (.iadd, 1) := by decide +kernel
theorem dX5_played_55 : decode cX5_played 55 = .ok (.istore 5, 2) := by decide +kernel
theorem dX5_played_57 : decode cX5_played 57 = .ok (.iload_n 3, 1) := by decide +kernel
theorem dX5_played_58 : decode cX5_played 58 = .ok (.ifCond .ne 13, 3) := by decide +kernel
theorem dX5_played_61 : decode cX5_played 61 = .ok (.aload_n 0, 1) := by decide +kernel
theorem dX5_played_62 : decode cX5_played 62 = .ok (.getfield 44, 3) := by decide +kernel
theorem dX5_played_65 : decode cX5_played 65 = .ok (.iload 5, 2) := by decide +kernel
theorem dX5_played_67 : decode cX5_played 67 = .ok (.iaload, 1) := by decide +kernel
theorem dX5_played_68 : decode cX5_played 68 = .ok (.goto 25, 3) := by decide +kernel
theorem dX5_played_71 : decode cX5_played 71 = .ok (.iload_n 3, 1) := by decide +kernel
theorem dX5_played_72 : decode cX5_played 72 = .ok (.iconst 1, 1) := by decide +kernel
theorem dX5_played_73 : decode cX5_played 73 = .ok (.if_icmp .ne 13, 3) := by decide +kernel
theorem dX5_played_76 : decode cX5_played 76 = .ok (.aload_n 0, 1) := by decide +kernel
theorem dX5_played_77 : decode cX5_played 77 = .ok (.getfield 47, 3) := by decide +kernel
theorem dX5_played_80 : decode cX5_played 80 = .ok (.iload 5, 2) := by decide +kernel
theorem dX5_played_82 : decode cX5_played 82 = .ok (.iaload, 1) := by decide +kernel
theorem dX5_played_83 : decode cX5_played 83 = .ok (.goto 10, 3) := by decide +kernel
theorem dX5_played_86 : decode cX5_played 86 = .ok (.aload_n 0, 1) := by decide +kernel
theorem dX5_played_87 : decode cX5_played 87 = .ok (.getfield 50, 3) := by decide +kernel
theorem dX5_played_90 : decode cX5_played 90 = .ok (.iload 5, 2) := by decide +kernel
theorem dX5_played_92 : decode cX5_played 92 = .ok (.iaload, 1) := by decide +kernel
theorem dX5_played_93 : decode cX5_played 93 = .ok (.ireturn, 1) := by decide +kernel
theorem dX5_stepsOfAll_0 : decode cX5_stepsOfAll 0 = .ok (.iconst 0, 1) := by decide +kernel
theorem dX5_stepsOfAll_1 : decode cX5_stepsOfAll 1 = .ok (.istore_n 1, 1) := by decide +kernel
theorem dX5_stepsOfAll_2 : decode cX5_stepsOfAll 2 = .ok (.iconst 0, 1) := by decide +kernel
theorem dX5_stepsOfAll_3 : decode cX5_stepsOfAll 3 = .ok (.istore_n 2, 1) := by decide +kernel
theorem dX5_stepsOfAll_4 : decode cX5_stepsOfAll 4 = .ok (.iload_n 2, 1) := by decide +kernel
theorem dX5_stepsOfAll_5 : decode cX5_stepsOfAll 5 = .ok (.aload_n 0, 1) := by decide +kernel
theorem dX5_stepsOfAll_6 : decode cX5_stepsOfAll 6 = .ok (.getfield 70, 3) := by decide +kernel
theorem dX5_stepsOfAll_9 : decode cX5_stepsOfAll 9 = .ok (.if_icmp .ge 18, 3) := by decide +kernel
theorem dX5_stepsOfAll_12 : decode cX5_stepsOfAll 12 = .ok (.iload_n 1, 1) := by decide +kernel
theorem dX5_stepsOfAll_13 : decode cX5_stepsOfAll 13 = .ok (.aload_n 0, 1) := by decide +kernel
theorem dX5_stepsOfAll_14 : decode cX5_stepsOfAll 14 = .ok (.getfield 25, 3) := by decide +kernel
theorem dX5_stepsOfAll_17 : decode cX5_stepsOfAll 17 = .ok (.iload_n 2, 1) := by decide +kernel
theorem dX5_stepsOfAll_18 : decode cX5_stepsOfAll 18 = .ok (.iaload, 1) := by decide +kernel
theorem dX5_stepsOfAll_19 : decode cX5_stepsOfAll 19 = .ok (.iadd, 1) := by decide +kernel
theorem dX5_stepsOfAll_20 : decode cX5_stepsOfAll 20 = .ok (.istore_n 1, 1) := by decide +kernel
theorem dX5_stepsOfAll_21 : decode cX5_stepsOfAll 21 = .ok (.iinc 2 1, 3) := by decide +kernel
theorem dX5_stepsOfAll_24 : decode cX5_stepsOfAll 24 = .ok (.goto (-20), 3) := by decide +kernel
theorem dX5_stepsOfAll_27 : decode cX5_stepsOfAll 27 = .ok (.iload_n 1, 1) := by decide +kernel
theorem dX5_stepsOfAll_28 : decode cX5_stepsOfAll 28 = .ok (.ireturn, 1) := by decide +kernel
theorem dX5_isStep_0 : decode cX5_isStep 0 = .ok (.iload_n 1, 1) := by decide +kernel
theorem dX5_isStep_1 : decode cX5_isStep 1 = .ok (.iconst 5, 1) := by decide +kernel
theorem dX5_isStep_2 : decode cX5_isStep 2 = .ok (.idiv, 1) := by decide +kernel
theorem dX5_isStep_3 : decode cX5_isStep 3 = .ok (.aload_n 0, 1) := by decide +kernel
theorem dX5_isStep_4 : decode cX5_isStep 4 = .ok (.getfield 70, 3) := by decide +kernel
theorem dX5_isStep_7 : decode cX5_isStep 7 = .ok (.if_icmp .ge 21, 3) := by decide +kernel
theorem dX5_isStep_10 : decode cX5_isStep 10 = .ok (.iload_n 1, 1) := by decide +kernel
theorem dX5_isStep_11 : decode cX5_isStep 11 = .ok (.iconst 5, 1) := by decide +kernel
theorem dX5_isStep_12 : decode cX5_isStep 12 = .ok (.irem, 1) := by decide +kernel
theorem dX5_isStep_13 : decode cX5_isStep 13 = .ok (.aload_n 0, 1) := by decide +kernel
theorem dX5_isStep_14 : decode cX5_isStep 14 = .ok (.getfield 25, 3) := by decide +kernel
theorem dX5_isStep_17 : decode cX5_isStep 17 = .ok (.iload_n 1, 1) := by decide +kernel
theorem dX5_isStep_18 : decode cX5_isStep 18 = .ok (.iconst 5, 1) := by decide +kernel
theorem dX5_isStep_19 : decode cX5_isStep 19 = .ok (.idiv, 1) := by decide +kernel
theorem dX5_isStep_20 : decode cX5_isStep 20 = .ok (.iaload, 1) := by decide +kernel
theorem dX5_isStep_21 : decode cX5_isStep 21 = .ok (.if_icmp .ge 7, 3) := by decide +kernel
theorem dX5_isStep_24 : decode cX5_isStep 24 = .ok (.iconst 1, 1) := by decide +kernel
theorem dX5_isStep_25 : decode cX5_isStep 25 = .ok (.goto 4, 3) := by decide +kernel
theorem dX5_isStep_28 : decode cX5_isStep 28 = .ok (.iconst 0, 1) := by decide +kernel
theorem dX5_isStep_29 : decode cX5_isStep 29 = .ok (.ireturn, 1) := by decide +kernel
theorem dX5_trace_0 : decode cX5_trace 0 = .ok (.aload_n 0, 1) := by decide +kernel
theorem dX5_trace_1 : decode cX5_trace 1 = .ok (.iconst 0, 1) := by decide +kernel
theorem dX5_trace_2 : decode cX5_trace 2 = .ok (.putfield 59, 3) := by decide +kernel
theorem dX5_trace_5 : decode cX5_trace 5 = .ok (.aload_n 0, 1) := by decide +kernel
theorem dX5_trace_6 : decode cX5_trace 6 = .ok (.iconst (-1), 1) := by decide +kernel
theorem dX5_trace_7 : decode cX5_trace 7 = .ok (.invokevirtual 119, 3) := by decide +kernel
theorem dX5_trace_10 : decode cX5_trace 10 = .ok (.istore_n 1, 1) := by decide +kernel
theorem dX5_trace_11 : decode cX5_trace 11 = .ok (.iconst 0, 1) := by decide +kernel
theorem dX5_trace_12 : decode cX5_trace 12 = .ok (.istore_n 2, 1) := by decide +kernel
theorem dX5_trace_13 : decode cX5_trace 13 = .ok (.iload_n 2, 1) := by decide +kernel
theorem dX5_trace_14 : decode cX5_trace 14 = .ok (.sipush 300, 3) := by decide +kernel
theorem dX5_trace_17 : decode cX5_trace 17 = .ok (.if_icmp .ge 51, 3) := by decide +kernel
theorem dX5_trace_20 : decode cX5_trace 20 = .ok (.aload_n 0, 1) := by decide +kernel
theorem dX5_trace_21 : decode cX5_trace 21 = .ok (.iload_n 2, 1) := by decide +kernel
theorem dX5_trace_22 : decode cX5_trace 22 = .ok (.invokevirtual 123, 3) := by decide +kernel
theorem dX5_trace_25 : decode cX5_trace 25 = .ok (.ifCond .ne 6, 3) := by decide +kernel
theorem dX5_trace_28 : decode cX5_trace 28 = .ok (.goto 34, 3) := by decide +kernel
theorem dX5_trace_31 : decode cX5_trace 31 = .ok (.aload_n 0, 1) := by decide +kernel
theorem dX5_trace_32 : decode cX5_trace 32 = .ok (.getfield 34, 3) := by decide +kernel
theorem dX5_trace_35 : decode cX5_trace 35 = .ok (.iload_n 2, 1) := by decide +kernel
theorem dX5_trace_36 : decode cX5_trace 36 = .ok (.iconst 1, 1) := by decide +kernel
theorem dX5_trace_37 : decode cX5_trace 37 = .ok (.bastore, 1) := by decide +kernel
theorem dX5_trace_38 : decode cX5_trace 38 = .ok (.aload_n 0, 1) := by decide +kernel
theorem dX5_trace_39 : decode cX5_trace 39 = .ok (.getfield 38, 3) := by decide +kernel
theorem dX5_trace_42 : decode cX5_trace 42 = .ok (.iload_n 2, 1) := by decide +kernel
theorem dX5_trace_43 : decode cX5_trace 43 = .ok (.aload_n 0, 1) := by decide +kernel
theorem dX5_trace_44 : decode cX5_trace 44 = .ok (.getfield 47, 3) := by decide +kernel
theorem dX5_trace_47 : decode cX5_trace 47 = .ok (.iload_n 2, 1) := by decide +kernel
theorem dX5_trace_48 : decode cX5_trace 48 = .ok (.iaload, 1) := by decide +kernel
theorem dX5_trace_49 : decode cX5_trace 49 = .ok (.iastore, 1) := by decide +kernel
theorem dX5_trace_50 : decode cX5_trace 50 = .ok (.aload_n 0, 1) := by decide +kernel
theorem dX5_trace_51 : decode cX5_trace 51 = .ok (.getfield 41, 3) := by decide +kernel
theorem dX5_trace_54 : decode cX5_trace 54 = .ok (.iload_n 2, 1) := by decide +kernel
theorem dX5_trace_55 : decode cX5_trace 55 = .ok (.aload_n 0, 1) := by decide +kernel
theorem dX5_trace_56 : decode cX5_trace 56 = .ok (.getfield 50, 3) := by decide +kernel
theorem dX5_trace_59 : decode cX5_trace 59 = .ok (.iload_n 2, 1) := by decide +kernel
theorem dX5_trace_60 : decode cX5_trace 60 = .ok (.iaload, 1) := by decide +kernel
theorem dX5_trace_61 : decode cX5_trace 61 = .ok (.iastore, 1) := by decide +kernel
theorem dX5_trace_62 : decode cX5_trace 62 = .ok (.iinc 2 1, 3) := by decide +kernel
theorem dX5_trace_65 : decode cX5_trace 65 = .ok (.goto (-52), 3) := by decide +kernel
theorem dX5_trace_68 : decode cX5_trace 68 = .ok (.aload_n 0, 1) := by decide +kernel
theorem dX5_trace_69 : decode cX5_trace 69 = .ok (.invokevirtual 126, 3) := by decide +kernel
theorem dX5_trace_72 : decode cX5_trace 72 = .ok (.ireturn, 1) := by decide +kernel
theorem dX5_unlike_0 : decode cX5_unlike 0 = .ok (.aload_n 0, 1) := by decide +kernel
theorem dX5_unlike_1 : decode cX5_unlike 1 = .ok (.iconst 0, 1) := by decide +kernel
theorem dX5_unlike_2 : decode cX5_unlike 2 = .ok (.putfield 59, 3) := by decide +kernel
theorem dX5_unlike_5 : decode cX5_unlike 5 = .ok (.aload_n 0, 1) := by decide +kernel
theorem dX5_unlike_6 : decode cX5_unlike 6 = .ok (.iconst (-1), 1) := by decide +kernel
theorem dX5_unlike_7 : decode cX5_unlike 7 = .ok (.invokevirtual 119, 3) := by decide +kernel
theorem dX5_unlike_10 : decode cX5_unlike 10 = .ok (.istore_n 1, 1) := by decide +kernel
theorem dX5_unlike_11 : decode cX5_unlike 11 = .ok (.iconst 0, 1) := by decide +kernel
theorem dX5_unlike_12 : decode cX5_unlike 12 = .ok (.istore_n 2, 1) := by decide +kernel
theorem dX5_unlike_13 : decode cX5_unlike 13 = .ok (.iconst 0, 1) := by decide +kernel
theorem dX5_unlike_14 : decode cX5_unlike 14 = .ok (.istore_n 3, 1) := by decide +kernel
theorem dX5_unlike_15 : decode cX5_unlike 15 = .ok (.iload_n 3, 1) := by decide +kernel
theorem dX5_unlike_16 : decode cX5_unlike 16 = .ok (.sipush 300, 3) := by decide +kernel
theorem dX5_unlike_19 : decode cX5_unlike 19 = .ok (.if_icmp .ge 64, 3) := by decide +kernel
theorem dX5_unlike_22 : decode cX5_unlike 22 = .ok (.iload_n 2, 1) := by decide +kernel
theorem dX5_unlike_23 : decode cX5_unlike 23 = .ok (.aload_n 0, 1) := by decide +kernel
theorem dX5_unlike_24 : decode cX5_unlike 24 = .ok (.iload_n 3, 1) := by decide +kernel
theorem dX5_unlike_25 : decode cX5_unlike 25 = .ok (.invokevirtual 123, 3) := by decide +kernel
theorem dX5_unlike_28 : decode cX5_unlike 28 = .ok (.ifCond .eq 46, 3) := by decide +kernel
theorem dX5_unlike_31 : decode cX5_unlike 31 = .ok (.aload_n 0, 1) := by decide +kernel
theorem dX5_unlike_32 : decode cX5_unlike 32 = .ok (.getfield 34, 3) := by decide +kernel
theorem dX5_unlike_35 : decode cX5_unlike 35 = .ok (.iload_n 3, 1) := by decide +kernel
theorem dX5_unlike_36 : decode cX5_unlike 36 = .ok (.baload, 1) := by decide +kernel
theorem dX5_unlike_37 : decode cX5_unlike 37 = .ok (.ifCond .eq 37, 3) := by decide +kernel
theorem dX5_unlike_40 : decode cX5_unlike 40 = .ok (.aload_n 0, 1) := by decide +kernel
theorem dX5_unlike_41 : decode cX5_unlike 41 = .ok (.getfield 38, 3) := by decide +kernel
theorem dX5_unlike_44 : decode cX5_unlike 44 = .ok (.iload_n 3, 1) := by decide +kernel
theorem dX5_unlike_45 : decode cX5_unlike 45 = .ok (.iaload, 1) := by decide +kernel
theorem dX5_unlike_46 : decode cX5_unlike 46 = .ok (.aload_n 0, 1) := by decide +kernel
theorem dX5_unlike_47 : decode cX5_unlike 47 = .ok (.getfield 47, 3) := by decide +kernel
theorem dX5_unlike_50 : decode cX5_unlike 50 = .ok (.iload_n 3, 1) := by decide +kernel
theorem dX5_unlike_51 : decode cX5_unlike 51 = .ok (.iaload, 1) := by decide +kernel
theorem dX5_unlike_52 : decode cX5_unlike 52 = .ok (.if_icmp .ne 18, 3) := by decide +kernel
theorem dX5_unlike_55 : decode cX5_unlike 55 = .ok (.aload_n 0, 1) := by decide +kernel
theorem dX5_unlike_56 : decode cX5_unlike 56 = .ok (.getfield 41, 3) := by decide +kernel
theorem dX5_unlike_59 : decode cX5_unlike 59 = .ok (.iload_n 3, 1) := by decide +kernel
theorem dX5_unlike_60 : decode cX5_unlike 60 = .ok (.iaload, 1) := by decide +kernel
theorem dX5_unlike_61 : decode cX5_unlike 61 = .ok (.aload_n 0, 1) := by decide +kernel
theorem dX5_unlike_62 : decode cX5_unlike 62 = .ok (.getfield 50, 3) := by decide +kernel
theorem dX5_unlike_65 : decode cX5_unlike 65 = .ok (.iload_n 3, 1) := by decide +kernel
theorem dX5_unlike_66 : decode cX5_unlike 66 = .ok (.iaload, 1) := by decide +kernel
theorem dX5_unlike_67 : decode cX5_unlike 67 = .ok (.if_icmp .eq 7, 3) := by decide +kernel
theorem dX5_unlike_70 : decode cX5_unlike 70 = .ok (.iconst 1, 1) := by decide +kernel
theorem dX5_unlike_71 : decode cX5_unlike 71 = .ok (.goto 4, 3) := by decide +kernel
theorem dX5_unlike_74 : decode cX5_unlike 74 = .ok (.iconst 0, 1) := by decide +kernel
theorem dX5_unlike_75 : decode cX5_unlike 75 = .ok (.iadd, 1) := by decide +kernel
theorem dX5_unlike_76 : decode cX5_unlike 76 = .ok (.istore_n 2, 1) := by decide +kernel
theorem dX5_unlike_77 : decode cX5_unlike 77 = .ok (.iinc 3 1, 3) := by decide +kernel
theorem dX5_unlike_80 : decode cX5_unlike 80 = .ok (.goto (-65), 3) := by decide +kernel
theorem dX5_unlike_83 : decode cX5_unlike 83 = .ok (.iload_n 2, 1) := by decide +kernel
theorem dX5_unlike_84 : decode cX5_unlike 84 = .ok (.ireturn, 1) := by decide +kernel
theorem dX5_seenCame_0 : decode cX5_seenCame 0 = .ok (.iload_n 1, 1) := by decide +kernel
theorem dX5_seenCame_1 : decode cX5_seenCame 1 = .ok (.iconst 5, 1) := by decide +kernel
theorem dX5_seenCame_2 : decode cX5_seenCame 2 = .ok (.irem, 1) := by decide +kernel
theorem dX5_seenCame_3 : decode cX5_seenCame 3 = .ok (.ifCond .ne 14, 3) := by decide +kernel
theorem dX5_seenCame_6 : decode cX5_seenCame 6 = .ok (.aload_n 0, 1) := by decide +kernel
theorem dX5_seenCame_7 : decode cX5_seenCame 7 = .ok (.getfield 22, 3) := by decide +kernel
theorem dX5_seenCame_10 : decode cX5_seenCame 10 = .ok (.iload_n 1, 1) := by decide +kernel
theorem dX5_seenCame_11 : decode cX5_seenCame 11 = .ok (.iconst 5, 1) := by decide +kernel
theorem dX5_seenCame_12 : decode cX5_seenCame 12 = .ok (.idiv, 1) := by decide +kernel
theorem dX5_seenCame_13 : decode cX5_seenCame 13 = .ok (.iaload, 1) := by decide +kernel
theorem dX5_seenCame_14 : decode cX5_seenCame 14 = .ok (.goto 40, 3) := by decide +kernel
theorem dX5_seenCame_17 : decode cX5_seenCame 17 = .ok (.aload_n 0, 1) := by decide +kernel
theorem dX5_seenCame_18 : decode cX5_seenCame 18 = .ok (.getfield 34, 3) := by decide +kernel
theorem dX5_seenCame_21 : decode cX5_seenCame 21 = .ok (.iload_n 1, 1) := by decide +kernel
theorem dX5_seenCame_22 : decode cX5_seenCame 22 = .ok (.iconst 1, 1) := by decide +kernel
theorem dX5_seenCame_23 : decode cX5_seenCame 23 = .ok (.isub, 1) := by decide +kernel
theorem dX5_seenCame_24 : decode cX5_seenCame 24 = .ok (.baload, 1) := by decide +kernel
theorem dX5_seenCame_25 : decode cX5_seenCame 25 = .ok (.ifCond .eq 28, 3) := by decide +kernel
theorem dX5_seenCame_28 : decode cX5_seenCame 28 = .ok (.aload_n 0, 1) := by decide +kernel
theorem dX5_seenCame_29 : decode cX5_seenCame 29 = .ok (.getfield 41, 3) := by decide +kernel
theorem dX5_seenCame_32 : decode cX5_seenCame 32 = .ok (.iload_n 1, 1) := by decide +kernel
theorem dX5_seenCame_33 : decode cX5_seenCame 33 = .ok (.iconst 1, 1) := by decide +kernel
theorem dX5_seenCame_34 : decode cX5_seenCame 34 = .ok (.isub, 1) := by decide +kernel
theorem dX5_seenCame_35 : decode cX5_seenCame 35 = .ok (.iaload, 1) := by decide +kernel
theorem dX5_seenCame_36 : decode cX5_seenCame 36 = .ok (.aload_n 0, 1) := by decide +kernel
theorem dX5_seenCame_37 : decode cX5_seenCame 37 = .ok (.getfield 16, 3) := by decide +kernel
theorem dX5_seenCame_40 : decode cX5_seenCame 40 = .ok (.aload_n 0, 1) := by decide +kernel
theorem dX5_seenCame_41 : decode cX5_seenCame 41 = .ok (.getfield 28, 3) := by decide +kernel
theorem dX5_seenCame_44 : decode cX5_seenCame 44 = .ok (.iload_n 1, 1) := by decide +kernel
theorem dX5_seenCame_45 : decode cX5_seenCame 45 = .ok (.iconst 1, 1) := by decide +kernel
theorem dX5_seenCame_46 : decode cX5_seenCame 46 = .ok (.isub, 1) := by decide +kernel
theorem dX5_seenCame_47 : decode cX5_seenCame 47 = .ok (.iaload, 1) := by decide +kernel
theorem dX5_seenCame_48 : decode cX5_seenCame 48 = .ok (.iaload, 1) := by decide +kernel
theorem dX5_seenCame_49 : decode cX5_seenCame 49 = .ok (.iadd, 1) := by decide +kernel
theorem dX5_seenCame_50 : decode cX5_seenCame 50 = .ok (.goto 4, 3) := by decide +kernel
theorem dX5_seenCame_53 : decode cX5_seenCame 53 = .ok (.iconst (-1), 1) := by decide +kernel
theorem dX5_seenCame_54 : decode cX5_seenCame 54 = .ok (.ireturn, 1) := by decide +kernel
theorem dX5_isWhole_0 : decode cX5_isWhole 0 = .ok (.iconst 1, 1) := by decide +kernel
theorem dX5_isWhole_1 : decode cX5_isWhole 1 = .ok (.istore_n 2, 1) := by decide +kernel
theorem dX5_isWhole_2 : decode cX5_isWhole 2 = .ok (.iconst 0, 1) := by decide +kernel
theorem dX5_isWhole_3 : decode cX5_isWhole 3 = .ok (.istore_n 3, 1) := by decide +kernel
theorem dX5_isWhole_4 : decode cX5_isWhole 4 = .ok (.iconst 0, 1) := by decide +kernel
theorem dX5_isWhole_5 : decode cX5_isWhole 5 = .ok (.istore 4, 2) := by decide +kernel
theorem dX5_isWhole_7 : decode cX5_isWhole 7 = .ok (.iload 4, 2) := by decide +kernel
theorem dX5_isWhole_9 : decode cX5_isWhole 9 = .ok (.sipush 300, 3) := by decide +kernel
theorem dX5_isWhole_12 : decode cX5_isWhole 12 = .ok (.if_icmp .ge 63, 3) := by decide +kernel
theorem dX5_isWhole_15 : decode cX5_isWhole 15 = .ok (.aload_n 0, 1) := by decide +kernel
theorem dX5_isWhole_16 : decode cX5_isWhole 16 = .ok (.iload 4, 2) := by decide +kernel
theorem dX5_isWhole_18 : decode cX5_isWhole 18 = .ok (.invokevirtual 123, 3) := by decide +kernel
theorem dX5_isWhole_21 : decode cX5_isWhole 21 = .ok (.ifCond .eq 48, 3) := by decide +kernel
theorem dX5_isWhole_24 : decode cX5_isWhole 24 = .ok (.aload_n 0, 1) := by decide +kernel
theorem dX5_isWhole_25 : decode cX5_isWhole 25 = .ok (.getfield 28, 3) := by decide +kernel
theorem dX5_isWhole_28 : decode cX5_isWhole 28 = .ok (.iload 4, 2) := by decide +kernel
theorem dX5_isWhole_30 : decode cX5_isWhole 30 = .ok (.iaload, 1) := by decide +kernel
theorem dX5_isWhole_31 : decode cX5_isWhole 31 = .ok (.iload_n 1, 1) := by decide +kernel
theorem dX5_isWhole_32 : decode cX5_isWhole 32 = .ok (.if_icmp .eq 6, 3) := by decide +kernel
theorem dX5_isWhole_35 : decode cX5_isWhole 35 = .ok (.goto 34, 3) := by decide +kernel
theorem dX5_isWhole_38 : decode cX5_isWhole 38 = .ok (.iconst 1, 1) := by decide +kernel
theorem dX5_isWhole_39 : decode cX5_isWhole 39 = .ok (.istore_n 3, 1) := by decide +kernel
theorem dX5_isWhole_40 : decode cX5_isWhole 40 = .ok (.iload_n 2, 1) := by decide +kernel
theorem dX5_isWhole_41 : decode cX5_isWhole 41 = .ok (.ifCond .eq 26, 3) := by decide +kernel
theorem dX5_isWhole_44 : decode cX5_isWhole 44 = .ok (.aload_n 0, 1) := by decide +kernel
theorem dX5_isWhole_45 : decode cX5_isWhole 45 = .ok (.getfield 34, 3) := by decide +kernel
theorem dX5_isWhole_48 : decode cX5_isWhole 48 = .ok (.iload 4, 2) := by decide +kernel
theorem dX5_isWhole_50 : decode cX5_isWhole 50 = .ok (.baload, 1) := by decide +kernel
theorem dX5_isWhole_51 : decode cX5_isWhole 51 = .ok (.ifCond .eq 16, 3) := by decide +kernel
theorem dX5_isWhole_54 : decode cX5_isWhole 54 = .ok (.aload_n 0, 1) := by decide +kernel
theorem dX5_isWhole_55 : decode cX5_isWhole 55 = .ok (.iload 4, 2) := by decide +kernel
theorem dX5_isWhole_57 : decode cX5_isWhole 57 = .ok (.invokevirtual 130, 3) := by decide +kernel
theorem dX5_isWhole_60 : decode cX5_isWhole 60 = .ok (.ifCond .lt 7, 3) := by decide +kernel
theorem dX5_isWhole_63 : decode cX5_isWhole 63 = .ok (.iconst 1, 1) := by decide +kernel
theorem dX5_isWhole_64 : decode cX5_isWhole 64 = .ok (.goto 4, 3) := by decide +kernel
theorem dX5_isWhole_67 : decode cX5_isWhole 67 = .ok (.iconst 0, 1) := by decide +kernel
theorem dX5_isWhole_68 : decode cX5_isWhole 68 = .ok (.istore_n 2, 1) := by decide +kernel
theorem dX5_isWhole_69 : decode cX5_isWhole 69 = .ok (.iinc 4 1, 3) := by decide +kernel
theorem dX5_isWhole_72 : decode cX5_isWhole 72 = .ok (.goto (-65), 3) := by decide +kernel
theorem dX5_isWhole_75 : decode cX5_isWhole 75 = .ok (.iload_n 2, 1) := by decide +kernel
theorem dX5_isWhole_76 : decode cX5_isWhole 76 = .ok (.ifCond .eq 11, 3) := by decide +kernel
theorem dX5_isWhole_79 : decode cX5_isWhole 79 = .ok (.iload_n 3, 1) := by decide +kernel
theorem dX5_isWhole_80 : decode cX5_isWhole 80 = .ok (.ifCond .eq 7, 3) := by decide +kernel
theorem dX5_isWhole_83 : decode cX5_isWhole 83 = .ok (.iconst 1, 1) := by decide +kernel
theorem dX5_isWhole_84 : decode cX5_isWhole 84 = .ok (.goto 4, 3) := by decide +kernel
theorem dX5_isWhole_87 : decode cX5_isWhole 87 = .ok (.iconst 0, 1) := by decide +kernel
theorem dX5_isWhole_88 : decode cX5_isWhole 88 = .ok (.ireturn, 1) := by decide +kernel
theorem dX5_agrees_0 : decode cX5_agrees 0 = .ok (.aload_n 0, 1) := by decide +kernel
theorem dX5_agrees_1 : decode cX5_agrees 1 = .ok (.invokevirtual 104, 3) := by decide +kernel
theorem dX5_agrees_4 : decode cX5_agrees 4 = .ok (.iconst 0, 1) := by decide +kernel
theorem dX5_agrees_5 : decode cX5_agrees 5 = .ok (.istore 4, 2) := by decide +kernel
theorem dX5_agrees_7 : decode cX5_agrees 7 = .ok (.iload 4, 2) := by decide +kernel
theorem dX5_agrees_9 : decode cX5_agrees 9 = .ok (.sipush 300, 3) := by decide +kernel
theorem dX5_agrees_12 : decode cX5_agrees 12 = .ok (.if_icmp .ge 67, 3) := by decide +kernel
theorem dX5_agrees_15 : decode cX5_agrees 15 = .ok (.aload_n 0, 1) := by decide +kernel
theorem dX5_agrees_16 : decode cX5_agrees 16 = .ok (.iload 4, 2) := by decide +kernel
theorem dX5_agrees_18 : decode cX5_agrees 18 = .ok (.invokevirtual 123, 3) := by decide +kernel
theorem dX5_agrees_21 : decode cX5_agrees 21 = .ok (.ifCond .eq 52, 3) := by decide +kernel
theorem dX5_agrees_24 : decode cX5_agrees 24 = .ok (.aload_n 0, 1) := by decide +kernel
theorem dX5_agrees_25 : decode cX5_agrees 25 = .ok (.getfield 28, 3) := by decide +kernel
theorem dX5_agrees_28 : decode cX5_agrees 28 = .ok (.iload 4, 2) := by decide +kernel
theorem dX5_agrees_30 : decode cX5_agrees 30 = .ok (.iaload, 1) := by decide +kernel
theorem dX5_agrees_31 : decode cX5_agrees 31 = .ok (.iload_n 1, 1) := by decide +kernel
theorem dX5_agrees_32 : decode cX5_agrees 32 = .ok (.if_icmp .eq 6, 3) := by decide +kernel
theorem dX5_agrees_35 : decode cX5_agrees 35 = .ok (.goto 38, 3) := by decide +kernel
theorem dX5_agrees_38 : decode cX5_agrees 38 = .ok (.aload_n 0, 1) := by decide +kernel
theorem dX5_agrees_39 : decode cX5_agrees 39 = .ok (.getfield 44, 3) := by decide +kernel
theorem dX5_agrees_42 : decode cX5_agrees 42 = .ok (.iload 4, 2) := by decide +kernel
theorem dX5_agrees_44 : decode cX5_agrees 44 = .ok (.aload_n 0, 1) := by decide +kernel
theorem dX5_agrees_45 : decode cX5_agrees 45 = .ok (.iload 4, 2) := by decide +kernel
theorem dX5_agrees_47 : decode cX5_agrees 47 = .ok (.invokevirtual 130, 3) := by decide +kernel
theorem dX5_agrees_50 : decode cX5_agrees 50 = .ok (.iastore, 1) := by decide +kernel
theorem dX5_agrees_51 : decode cX5_agrees 51 = .ok (.aload_n 0, 1) := by decide +kernel
theorem dX5_agrees_52 : decode cX5_agrees 52 = .ok (.getfield 56, 3) := by decide +kernel
theorem dX5_agrees_55 : decode cX5_agrees 55 = .ok (.iload 4, 2) := by decide +kernel
theorem dX5_agrees_57 : decode cX5_agrees 57 = .ok (.aload_n 0, 1) := by decide +kernel
theorem dX5_agrees_58 : decode cX5_agrees 58 = .ok (.getfield 41, 3) := by decide +kernel
theorem dX5_agrees_61 : decode cX5_agrees 61 = .ok (.iload 4, 2) := by decide +kernel
theorem dX5_agrees_63 : decode cX5_agrees 63 = .ok (.iaload, 1) := by decide +kernel
theorem dX5_agrees_64 : decode cX5_agrees 64 = .ok (.aload_n 0, 1) := by decide +kernel
theorem dX5_agrees_65 : decode cX5_agrees 65 = .ok (.getfield 38, 3) := by decide +kernel
theorem dX5_agrees_68 : decode cX5_agrees 68 = .ok (.iload 4, 2) := by decide +kernel
theorem dX5_agrees_70 : decode cX5_agrees 70 = .ok (.iaload, 1) := by decide +kernel
theorem dX5_agrees_71 : decode cX5_agrees 71 = .ok (.isub, 1) := by decide +kernel
theorem dX5_agrees_72 : decode cX5_agrees 72 = .ok (.iastore, 1) := by decide +kernel
theorem dX5_agrees_73 : decode cX5_agrees 73 = .ok (.iinc 4 1, 3) := by decide +kernel
theorem dX5_agrees_76 : decode cX5_agrees 76 = .ok (.goto (-69), 3) := by decide +kernel
theorem dX5_agrees_79 : decode cX5_agrees 79 = .ok (.iconst (-1), 1) := by decide +kernel
theorem dX5_agrees_80 : decode cX5_agrees 80 = .ok (.istore 4, 2) := by decide +kernel
theorem dX5_agrees_82 : decode cX5_agrees 82 = .ok (.ldc 96, 2) := by decide +kernel
theorem dX5_agrees_84 : decode cX5_agrees 84 = .ok (.istore 5, 2) := by decide +kernel
theorem dX5_agrees_86 : decode cX5_agrees 86 = .ok (.iconst 0, 1) := by decide +kernel
theorem dX5_agrees_87 : decode cX5_agrees 87 = .ok (.istore 6, 2) := by decide +kernel
theorem dX5_agrees_89 : decode cX5_agrees 89 = .ok (.iload 6, 2) := by decide +kernel
theorem dX5_agrees_91 : decode cX5_agrees 91 = .ok (.iconst 5, 1) := by decide +kernel
theorem dX5_agrees_92 : decode cX5_agrees 92 = .ok (.aload_n 0, 1) := by decide +kernel
theorem dX5_agrees_93 : decode cX5_agrees 93 = .ok (.getfield 70, 3) := by decide +kernel
theorem dX5_agrees_96 : decode cX5_agrees 96 = .ok (.imul, 1) := by decide +kernel
theorem dX5_agrees_97 : decode cX5_agrees 97 = .ok (.if_icmp .ge 61, 3) := by decide +kernel
theorem dX5_agrees_100 : decode cX5_agrees 100 = .ok (.aload_n 0, 1) := by decide +kernel
theorem dX5_agrees_101 : decode cX5_agrees 101 = .ok (.getfield 44, 3) := by decide +kernel
theorem dX5_agrees_104 : decode cX5_agrees 104 = .ok (.iload 6, 2) := by decide +kernel
theorem dX5_agrees_106 : decode cX5_agrees 106 = .ok (.iaload, 1) := by decide +kernel
theorem dX5_agrees_107 : decode cX5_agrees 107 = .ok (.iload 4, 2) := by decide +kernel
theorem dX5_agrees_109 : decode cX5_agrees 109 = .ok (.if_icmp .le 17, 3) := by decide +kernel
theorem dX5_agrees_112 : decode cX5_agrees 112 = .ok (.iload 5, 2) := by decide +kernel
theorem dX5_agrees_114 : decode cX5_agrees 114 = .ok (.aload_n 0, 1) := by decide +kernel
theorem dX5_agrees_115 : decode cX5_agrees 115 = .ok (.getfield 44, 3) := by decide +kernel
theorem dX5_agrees_118 : decode cX5_agrees 118 = .ok (.iload 6, 2) := by decide +kernel
theorem dX5_agrees_120 : decode cX5_agrees 120 = .ok (.iaload, 1) := by decide +kernel
theorem dX5_agrees_121 : decode cX5_agrees 121 = .ok (.invokestatic 107, 3) := by decide +kernel
theorem dX5_agrees_124 : decode cX5_agrees 124 = .ok (.istore 5, 2) := by decide +kernel
theorem dX5_agrees_126 : decode cX5_agrees 126 = .ok (.aload_n 0, 1) := by decide +kernel
theorem dX5_agrees_127 : decode cX5_agrees 127 = .ok (.getfield 50, 3) := by decide +kernel
theorem dX5_agrees_130 : decode cX5_agrees 130 = .ok (.iload 6, 2) := by decide +kernel
theorem dX5_agrees_132 : decode cX5_agrees 132 = .ok (.iaload, 1) := by decide +kernel
theorem dX5_agrees_133 : decode cX5_agrees 133 = .ok (.iload 4, 2) := by decide +kernel
theorem dX5_agrees_135 : decode cX5_agrees 135 = .ok (.if_icmp .le 17, 3) := by decide +kernel
theorem dX5_agrees_138 : decode cX5_agrees 138 = .ok (.iload 5, 2) := by decide +kernel
theorem dX5_agrees_140 : decode cX5_agrees 140 = .ok (.aload_n 0, 1) := by decide +kernel
theorem dX5_agrees_141 : decode cX5_agrees 141 = .ok (.getfield 50, 3) := by decide +kernel
theorem dX5_agrees_144 : decode cX5_agrees 144 = .ok (.iload 6, 2) := by decide +kernel
theorem dX5_agrees_146 : decode cX5_agrees 146 = .ok (.iaload, 1) := by decide +kernel
theorem dX5_agrees_147 : decode cX5_agrees 147 = .ok (.invokestatic 107, 3) := by decide +kernel
theorem dX5_agrees_150 : decode cX5_agrees 150 = .ok (.istore 5, 2) := by decide +kernel
theorem dX5_agrees_152 : decode cX5_agrees 152 = .ok (.iinc 6 1, 3) := by decide +kernel
theorem dX5_agrees_155 : decode cX5_agrees 155 = .ok (.goto (-66), 3) := by decide +kernel
theorem dX5_agrees_158 : decode cX5_agrees 158 = .ok (.iload 5, 2) := by decide +kernel
theorem dX5_agrees_160 : decode cX5_agrees 160 = .ok (.ldc 96, 2) := by decide +kernel
theorem dX5_agrees_162 : decode cX5_agrees 162 = .ok (.if_icmp .ne 5, 3) := by decide +kernel
theorem dX5_agrees_165 : decode cX5_agrees 165 = .ok (.iconst 1, 1) := by decide +kernel
theorem dX5_agrees_166 : decode cX5_agrees 166 = .ok (.ireturn, 1) := by decide +kernel
theorem dX5_agrees_167 : decode cX5_agrees 167 = .ok (.iload 5, 2) := by decide +kernel
theorem dX5_agrees_169 : decode cX5_agrees 169 = .ok (.istore 4, 2) := by decide +kernel
theorem dX5_agrees_171 : decode cX5_agrees 171 = .ok (.iconst 0, 1) := by decide +kernel
theorem dX5_agrees_172 : decode cX5_agrees 172 = .ok (.istore 6, 2) := by decide +kernel
theorem dX5_agrees_174 : decode cX5_agrees 174 = .ok (.iload 6, 2) := by decide +kernel
theorem dX5_agrees_176 : decode cX5_agrees 176 = .ok (.iconst 5, 1) := by decide +kernel
theorem dX5_agrees_177 : decode cX5_agrees 177 = .ok (.aload_n 0, 1) := by decide +kernel
theorem dX5_agrees_178 : decode cX5_agrees 178 = .ok (.getfield 70, 3) := by decide +kernel
theorem dX5_agrees_181 : decode cX5_agrees 181 = .ok (.imul, 1) := by decide +kernel
theorem dX5_agrees_182 : decode cX5_agrees 182 = .ok (.if_icmp .ge 29, 3) := by decide +kernel
theorem dX5_agrees_185 : decode cX5_agrees 185 = .ok (.aload_n 0, 1) := by decide +kernel
theorem dX5_agrees_186 : decode cX5_agrees 186 = .ok (.getfield 44, 3) := by decide +kernel
theorem dX5_agrees_189 : decode cX5_agrees 189 = .ok (.iload 6, 2) := by decide +kernel
theorem dX5_agrees_191 : decode cX5_agrees 191 = .ok (.iaload, 1) := by decide +kernel
theorem dX5_agrees_192 : decode cX5_agrees 192 = .ok (.iload 4, 2) := by decide +kernel
theorem dX5_agrees_194 : decode cX5_agrees 194 = .ok (.if_icmp .ne 11, 3) := by decide +kernel
theorem dX5_agrees_197 : decode cX5_agrees 197 = .ok (.aload_n 0, 1) := by decide +kernel
theorem dX5_agrees_198 : decode cX5_agrees 198 = .ok (.getfield 53, 3) := by decide +kernel
theorem dX5_agrees_201 : decode cX5_agrees 201 = .ok (.iload 6, 2) := by decide +kernel
theorem dX5_agrees_203 : decode cX5_agrees 203 = .ok (.iconst 1, 1) := by decide +kernel
theorem dX5_agrees_204 : decode cX5_agrees 204 = .ok (.bastore, 1) := by decide +kernel
theorem dX5_agrees_205 : decode cX5_agrees 205 = .ok (.iinc 6 1, 3) := by decide +kernel
theorem dX5_agrees_208 : decode cX5_agrees 208 = .ok (.goto (-34), 3) := by decide +kernel
theorem dX5_agrees_211 : decode cX5_agrees 211 = .ok (.aload_n 0, 1) := by decide +kernel
theorem dX5_agrees_212 : decode cX5_agrees 212 = .ok (.iload_n 1, 1) := by decide +kernel
theorem dX5_agrees_213 : decode cX5_agrees 213 = .ok (.iload_n 2, 1) := by decide +kernel
theorem dX5_agrees_214 : decode cX5_agrees 214 = .ok (.iload_n 3, 1) := by decide +kernel
theorem dX5_agrees_215 : decode cX5_agrees 215 = .ok (.iload 4, 2) := by decide +kernel
theorem dX5_agrees_217 : decode cX5_agrees 217 = .ok (.invokevirtual 115, 3) := by decide +kernel
theorem dX5_agrees_220 : decode cX5_agrees 220 = .ok (.iconst 0, 1) := by decide +kernel
theorem dX5_agrees_221 : decode cX5_agrees 221 = .ok (.istore 6, 2) := by decide +kernel
theorem dX5_agrees_223 : decode cX5_agrees 223 = .ok (.iload 6, 2) := by decide +kernel
theorem dX5_agrees_225 : decode cX5_agrees 225 = .ok (.iconst 5, 1) := by decide +kernel
theorem dX5_agrees_226 : decode cX5_agrees 226 = .ok (.aload_n 0, 1) := by decide +kernel
theorem dX5_agrees_227 : decode cX5_agrees 227 = .ok (.getfield 70, 3) := by decide +kernel
theorem dX5_agrees_230 : decode cX5_agrees 230 = .ok (.imul, 1) := by decide +kernel
theorem dX5_agrees_231 : decode cX5_agrees 231 = .ok (.if_icmp .ge 35, 3) := by decide +kernel
theorem dX5_agrees_234 : decode cX5_agrees 234 = .ok (.aload_n 0, 1) := by decide +kernel
theorem dX5_agrees_235 : decode cX5_agrees 235 = .ok (.getfield 47, 3) := by decide +kernel
theorem dX5_agrees_238 : decode cX5_agrees 238 = .ok (.iload 6, 2) := by decide +kernel
theorem dX5_agrees_240 : decode cX5_agrees 240 = .ok (.iaload, 1) := by decide +kernel
theorem dX5_agrees_241 : decode cX5_agrees 241 = .ok (.iload 4, 2) := by decide +kernel
theorem dX5_agrees_243 : decode cX5_agrees 243 = .ok (.if_icmp .ne 17, 3) := by decide +kernel
theorem dX5_agrees_246 : decode cX5_agrees 246 = .ok (.aload_n 0, 1) := by decide +kernel
theorem dX5_agrees_247 : decode cX5_agrees 247 = .ok (.getfield 38, 3) := by decide +kernel
theorem dX5_agrees_250 : decode cX5_agrees 250 = .ok (.iload 6, 2) := by decide +kernel
theorem dX5_agrees_252 : decode cX5_agrees 252 = .ok (.iaload, 1) := by decide +kernel
theorem dX5_agrees_253 : decode cX5_agrees 253 = .ok (.iload 4, 2) := by decide +kernel
theorem dX5_agrees_255 : decode cX5_agrees 255 = .ok (.if_icmp .eq 5, 3) := by decide +kernel
theorem dX5_agrees_258 : decode cX5_agrees 258 = .ok (.iconst 0, 1) := by decide +kernel
theorem dX5_agrees_259 : decode cX5_agrees 259 = .ok (.ireturn, 1) := by decide +kernel
theorem dX5_agrees_260 : decode cX5_agrees 260 = .ok (.iinc 6 1, 3) := by decide +kernel
theorem dX5_agrees_263 : decode cX5_agrees 263 = .ok (.goto (-40), 3) := by decide +kernel
theorem dX5_agrees_266 : decode cX5_agrees 266 = .ok (.goto (-184), 3) := by decide +kernel
theorem dX5_found_0 : decode cX5_found 0 = .ok (.aload_n 0, 1) := by decide +kernel
theorem dX5_found_1 : decode cX5_found 1 = .ok (.iconst 0, 1) := by decide +kernel
theorem dX5_found_2 : decode cX5_found 2 = .ok (.putfield 59, 3) := by decide +kernel
theorem dX5_found_5 : decode cX5_found 5 = .ok (.aload_n 0, 1) := by decide +kernel
theorem dX5_found_6 : decode cX5_found 6 = .ok (.aload_n 0, 1) := by decide +kernel
theorem dX5_found_7 : decode cX5_found 7 = .ok (.iload_n 1, 1) := by decide +kernel
theorem dX5_found_8 : decode cX5_found 8 = .ok (.invokevirtual 84, 3) := by decide +kernel
theorem dX5_found_11 : decode cX5_found 11 = .ok (.iconst 1, 1) := by decide +kernel
theorem dX5_found_12 : decode cX5_found 12 = .ok (.invokevirtual 80, 3) := by decide +kernel
theorem dX5_found_15 : decode cX5_found 15 = .ok (.ifCond .ne 11, 3) := by decide +kernel
theorem dX5_found_18 : decode cX5_found 18 = .ok (.aload_n 0, 1) := by decide +kernel
theorem dX5_found_19 : decode cX5_found 19 = .ok (.iload_n 1, 1) := by decide +kernel
theorem dX5_found_20 : decode cX5_found 20 = .ok (.invokevirtual 133, 3) := by decide +kernel
theorem dX5_found_23 : decode cX5_found 23 = .ok (.ifCond .ne 16, 3) := by decide +kernel
theorem dX5_found_26 : decode cX5_found 26 = .ok (.aload_n 0, 1) := by decide +kernel
theorem dX5_found_27 : decode cX5_found 27 = .ok (.getfield 59, 3) := by decide +kernel
theorem dX5_found_30 : decode cX5_found 30 = .ok (.ifCond .eq 7, 3) := by decide +kernel
theorem dX5_found_33 : decode cX5_found 33 = .ok (.iconst 0, 1) := by decide +kernel
theorem dX5_found_34 : decode cX5_found 34 = .ok (.goto 4, 3) := by decide +kernel
theorem dX5_found_37 : decode cX5_found 37 = .ok (.iconst (-1), 1) := by decide +kernel
theorem dX5_found_38 : decode cX5_found 38 = .ok (.ireturn, 1) := by decide +kernel
theorem dX5_found_39 : decode cX5_found 39 = .ok (.iconst 1, 1) := by decide +kernel
theorem dX5_found_40 : decode cX5_found 40 = .ok (.istore_n 3, 1) := by decide +kernel
theorem dX5_found_41 : decode cX5_found 41 = .ok (.iload_n 3, 1) := by decide +kernel
theorem dX5_found_42 : decode cX5_found 42 = .ok (.bipush 9, 2) := by decide +kernel
theorem dX5_found_44 : decode cX5_found 44 = .ok (.if_icmp .ge 46, 3) := by decide +kernel
theorem dX5_found_47 : decode cX5_found 47 = .ok (.iconst 0, 1) := by decide +kernel
theorem dX5_found_48 : decode cX5_found 48 = .ok (.istore 4, 2) := by decide +kernel
theorem dX5_found_50 : decode cX5_found 50 = .ok (.iload 4, 2) := by decide +kernel
theorem dX5_found_52 : decode cX5_found 52 = .ok (.iconst 4, 1) := by decide +kernel
theorem dX5_found_53 : decode cX5_found 53 = .ok (.if_icmp .ge 31, 3) := by decide +kernel
theorem dX5_found_56 : decode cX5_found 56 = .ok (.aload_n 0, 1) := by decide +kernel
theorem dX5_found_57 : decode cX5_found 57 = .ok (.iload_n 1, 1) := by decide +kernel
theorem dX5_found_58 : decode cX5_found 58 = .ok (.iload_n 3, 1) := by decide +kernel
theorem dX5_found_59 : decode cX5_found 59 = .ok (.iload 4, 2) := by decide +kernel
theorem dX5_found_61 : decode cX5_found 61 = .ok (.invokevirtual 136, 3) := by decide +kernel
theorem dX5_found_64 : decode cX5_found 64 = .ok (.ifCond .eq 14, 3) := by decide +kernel
theorem dX5_found_67 : decode cX5_found 67 = .ok (.iload_n 2, 1) := by decide +kernel
theorem dX5_found_68 : decode cX5_found 68 = .ok (.ifCond .eq 8, 3) := by decide +kernel
theorem dX5_found_71 : decode cX5_found 71 = .ok (.iload 4, 2) := by decide +kernel
theorem dX5_found_73 : decode cX5_found 73 = .ok (.goto 4, 3) := by decide +kernel
theorem dX5_found_76 : decode cX5_found 76 = .ok (.iload_n 3, 1) := by decide +kernel
theorem dX5_found_77 : decode cX5_found 77 = .ok (.ireturn, 1) := by decide +kernel
theorem dX5_found_78 : decode cX5_found 78 = .ok (.iinc 4 1, 3) := by decide +kernel
theorem dX5_found_81 : decode cX5_found 81 = .ok (.goto (-31), 3) := by decide +kernel
theorem dX5_found_84 : decode cX5_found 84 = .ok (.iinc 3 1, 3) := by decide +kernel
theorem dX5_found_87 : decode cX5_found 87 = .ok (.goto (-46), 3) := by decide +kernel
theorem dX5_found_90 : decode cX5_found 90 = .ok (.iconst (-1), 1) := by decide +kernel
theorem dX5_found_91 : decode cX5_found 91 = .ok (.ireturn, 1) := by decide +kernel
theorem dX5_overlap_0 : decode cX5_overlap 0 = .ok (.aload_n 0, 1) := by decide +kernel
theorem dX5_overlap_1 : decode cX5_overlap 1 = .ok (.iconst 0, 1) := by decide +kernel
theorem dX5_overlap_2 : decode cX5_overlap 2 = .ok (.putfield 59, 3) := by decide +kernel
theorem dX5_overlap_5 : decode cX5_overlap 5 = .ok (.aload_n 0, 1) := by decide +kernel
theorem dX5_overlap_6 : decode cX5_overlap 6 = .ok (.aload_n 0, 1) := by decide +kernel
theorem dX5_overlap_7 : decode cX5_overlap 7 = .ok (.iload_n 1, 1) := by decide +kernel
theorem dX5_overlap_8 : decode cX5_overlap 8 = .ok (.invokevirtual 84, 3) := by decide +kernel
theorem dX5_overlap_11 : decode cX5_overlap 11 = .ok (.iconst 1, 1) := by decide +kernel
theorem dX5_overlap_12 : decode cX5_overlap 12 = .ok (.invokevirtual 80, 3) := by decide +kernel
theorem dX5_overlap_15 : decode cX5_overlap 15 = .ok (.ifCond .eq 5, 3) := by decide +kernel
theorem dX5_overlap_18 : decode cX5_overlap 18 = .ok (.iconst 0, 1) := by decide +kernel
theorem dX5_overlap_19 : decode cX5_overlap 19 = .ok (.ireturn, 1) := by decide +kernel
theorem dX5_overlap_20 : decode cX5_overlap 20 = .ok (.iconst 0, 1) := by decide +kernel
theorem dX5_overlap_21 : decode cX5_overlap 21 = .ok (.istore_n 2, 1) := by decide +kernel
theorem dX5_overlap_22 : decode cX5_overlap 22 = .ok (.iconst 0, 1) := by decide +kernel
theorem dX5_overlap_23 : decode cX5_overlap 23 = .ok (.istore_n 3, 1) := by decide +kernel
theorem dX5_overlap_24 : decode cX5_overlap 24 = .ok (.iload_n 3, 1) := by decide +kernel
theorem dX5_overlap_25 : decode cX5_overlap 25 = .ok (.sipush 300, 3) := by decide +kernel
theorem dX5_overlap_28 : decode cX5_overlap 28 = .ok (.if_icmp .ge 138, 3) := by decide +kernel
theorem dX5_overlap_31 : decode cX5_overlap 31 = .ok (.aload_n 0, 1) := by decide +kernel
theorem dX5_overlap_32 : decode cX5_overlap 32 = .ok (.iload_n 3, 1) := by decide +kernel
theorem dX5_overlap_33 : decode cX5_overlap 33 = .ok (.invokevirtual 123, 3) := by decide +kernel
theorem dX5_overlap_36 : decode cX5_overlap 36 = .ok (.ifCond .eq 124, 3) := by decide +kernel
theorem dX5_overlap_39 : decode cX5_overlap 39 = .ok (.aload_n 0, 1) := by decide +kernel
theorem dX5_overlap_40 : decode cX5_overlap 40 = .ok (.getfield 28, 3) := by decide +kernel
theorem dX5_overlap_43 : decode cX5_overlap 43 = .ok (.iload_n 3, 1) := by decide +kernel
theorem dX5_overlap_44 : decode cX5_overlap 44 = .ok (.iaload, 1) := by decide +kernel
theorem dX5_overlap_45 : decode cX5_overlap 45 = .ok (.iload_n 1, 1) := by decide +kernel
theorem dX5_overlap_46 : decode cX5_overlap 46 = .ok (.if_icmp .ne 114, 3) := by decide +kernel
theorem dX5_overlap_49 : decode cX5_overlap 49 = .ok (.aload_n 0, 1) := by decide +kernel
theorem dX5_overlap_50 : decode cX5_overlap 50 = .ok (.getfield 34, 3) := by decide +kernel
theorem dX5_overlap_53 : decode cX5_overlap 53 = .ok (.iload_n 3, 1) := by decide +kernel
theorem dX5_overlap_54 : decode cX5_overlap 54 = .ok (.baload, 1) := by decide +kernel
theorem dX5_overlap_55 : decode cX5_overlap 55 = .ok (.ifCond .ne 6, 3) := by decide +kernel
theorem dX5_overlap_58 : decode cX5_overlap 58 = .ok (.goto 102, 3) := by decide +kernel
theorem dX5_overlap_61 : decode cX5_overlap 61 = .ok (.iconst 0, 1) := by decide +kernel
theorem dX5_overlap_62 : decode cX5_overlap 62 = .ok (.istore 4, 2) := by decide +kernel
theorem dX5_overlap_64 : decode cX5_overlap 64 = .ok (.iconst 0, 1) := by decide +kernel
theorem dX5_overlap_65 : decode cX5_overlap 65 = .ok (.istore 5, 2) := by decide +kernel
theorem dX5_overlap_67 : decode cX5_overlap 67 = .ok (.iload 5, 2) := by decide +kernel
theorem dX5_overlap_69 : decode cX5_overlap 69 = .ok (.sipush 300, 3) := by decide +kernel
theorem dX5_overlap_72 : decode cX5_overlap 72 = .ok (.if_icmp .ge 81, 3) := by decide +kernel
theorem dX5_overlap_75 : decode cX5_overlap 75 = .ok (.iload 4, 2) := by decide +kernel
theorem dX5_overlap_77 : decode cX5_overlap 77 = .ok (.aload_n 0, 1) := by decide +kernel
theorem dX5_overlap_78 : decode cX5_overlap 78 = .ok (.iload 5, 2) := by decide +kernel
theorem dX5_overlap_80 : decode cX5_overlap 80 = .ok (.invokevirtual 123, 3) := by decide +kernel
theorem dX5_overlap_83 : decode cX5_overlap 83 = .ok (.ifCond .eq 60, 3) := by decide +kernel
theorem dX5_overlap_86 : decode cX5_overlap 86 = .ok (.aload_n 0, 1) := by decide +kernel
theorem dX5_overlap_87 : decode cX5_overlap 87 = .ok (.getfield 28, 3) := by decide +kernel
theorem dX5_overlap_90 : decode cX5_overlap 90 = .ok (.iload 5, 2) := by decide +kernel
theorem dX5_overlap_92 : decode cX5_overlap 92 = .ok (.iaload, 1) := by decide +kernel
theorem dX5_overlap_93 : decode cX5_overlap 93 = .ok (.iload_n 1, 1) := by decide +kernel
theorem dX5_overlap_94 : decode cX5_overlap 94 = .ok (.if_icmp .ne 49, 3) := by decide +kernel
theorem dX5_overlap_97 : decode cX5_overlap 97 = .ok (.aload_n 0, 1) := by decide +kernel
theorem dX5_overlap_98 : decode cX5_overlap 98 = .ok (.getfield 34, 3) := by decide +kernel
theorem dX5_overlap_101 : decode cX5_overlap 101 = .ok (.iload 5, 2) := by decide +kernel
theorem dX5_overlap_103 : decode cX5_overlap 103 = .ok (.baload, 1) := by decide +kernel
theorem dX5_overlap_104 : decode cX5_overlap 104 = .ok (.ifCond .eq 39, 3) := by decide +kernel
theorem dX5_overlap_107 : decode cX5_overlap 107 = .ok (.aload_n 0, 1) := by decide +kernel
theorem dX5_overlap_108 : decode cX5_overlap 108 = .ok (.getfield 38, 3) := by decide +kernel
theorem dX5_overlap_111 : decode cX5_overlap 111 = .ok (.iload 5, 2) := by decide +kernel
theorem dX5_overlap_113 : decode cX5_overlap 113 = .ok (.iaload, 1) := by decide +kernel
theorem dX5_overlap_114 : decode cX5_overlap 114 = .ok (.aload_n 0, 1) := by decide +kernel
theorem dX5_overlap_115 : decode cX5_overlap 115 = .ok (.getfield 38, 3) := by decide +kernel
theorem dX5_overlap_118 : decode cX5_overlap 118 = .ok (.iload_n 3, 1) := by decide +kernel
theorem dX5_overlap_119 : decode cX5_overlap 119 = .ok (.iaload, 1) := by decide +kernel
theorem dX5_overlap_120 : decode cX5_overlap 120 = .ok (.if_icmp .gt 23, 3) := by decide +kernel
theorem dX5_overlap_123 : decode cX5_overlap 123 = .ok (.aload_n 0, 1) := by decide +kernel
theorem dX5_overlap_124 : decode cX5_overlap 124 = .ok (.getfield 41, 3) := by decide +kernel
theorem dX5_overlap_127 : decode cX5_overlap 127 = .ok (.iload 5, 2) := by decide +kernel
theorem dX5_overlap_129 : decode cX5_overlap 129 = .ok (.iaload, 1) := by decide +kernel
theorem dX5_overlap_130 : decode cX5_overlap 130 = .ok (.aload_n 0, 1) := by decide +kernel
theorem dX5_overlap_131 : decode cX5_overlap 131 = .ok (.getfield 38, 3) := by decide +kernel
theorem dX5_overlap_134 : decode cX5_overlap 134 = .ok (.iload_n 3, 1) := by decide +kernel
theorem dX5_overlap_135 : decode cX5_overlap 135 = .ok (.iaload, 1) := by decide +kernel
theorem dX5_overlap_136 : decode cX5_overlap 136 = .ok (.if_icmp .le 7, 3) := by decide +kernel
theorem dX5_overlap_139 : decode cX5_overlap 139 = .ok (.iconst 1, 1) := by decide +kernel
theorem dX5_overlap_140 : decode cX5_overlap 140 = .ok (.goto 4, 3) := by decide +kernel
theorem dX5_overlap_143 : decode cX5_overlap 143 = .ok (.iconst 0, 1) := by decide +kernel
theorem dX5_overlap_144 : decode cX5_overlap 144 = .ok (.iadd, 1) := by decide +kernel
theorem dX5_overlap_145 : decode cX5_overlap 145 = .ok (.istore 4, 2) := by decide +kernel
theorem dX5_overlap_147 : decode cX5_overlap 147 = .ok (.iinc 5 1, 3) := by decide +kernel
theorem dX5_overlap_150 : decode cX5_overlap 150 = .ok (.goto (-83), 3) := by decide +kernel
theorem dX5_overlap_153 : decode cX5_overlap 153 = .ok (.iload_n 2, 1) := by decide +kernel
theorem dX5_overlap_154 : decode cX5_overlap 154 = .ok (.iload 4, 2) := by decide +kernel
theorem dX5_overlap_156 : decode cX5_overlap 156 = .ok (.invokestatic 112, 3) := by decide +kernel
theorem dX5_overlap_159 : decode cX5_overlap 159 = .ok (.istore_n 2, 1) := by decide +kernel
theorem dX5_overlap_160 : decode cX5_overlap 160 = .ok (.iinc 3 1, 3) := by decide +kernel
theorem dX5_overlap_163 : decode cX5_overlap 163 = .ok (.goto (-139), 3) := by decide +kernel
theorem dX5_overlap_166 : decode cX5_overlap 166 = .ok (.iload_n 2, 1) := by decide +kernel
theorem dX5_overlap_167 : decode cX5_overlap 167 = .ok (.ireturn, 1) := by decide +kernel
theorem dX5_common_0 : decode cX5_common 0 = .ok (.lconst 0, 1) := by decide +kernel
theorem dX5_common_1 : decode cX5_common 1 = .ok (.iload_n 1, 1) := by decide +kernel
theorem dX5_common_2 : decode cX5_common 2 = .ok (.iload_n 3, 1) := by decide +kernel
theorem dX5_common_3 : decode cX5_common 3 = .ok (.invokestatic 107, 3) := by decide +kernel
theorem dX5_common_6 : decode cX5_common 6 = .ok (.i2l, 1) := by decide +kernel
theorem dX5_common_7 : decode cX5_common 7 = .ok (.iload_n 0, 1) := by decide +kernel
theorem dX5_common_8 : decode cX5_common 8 = .ok (.iload_n 2, 1) := by decide +kernel
theorem dX5_common_9 : decode cX5_common 9 = .ok (.invokestatic 112, 3) := by decide +kernel
theorem dX5_common_12 : decode cX5_common 12 = .ok (.i2l, 1) := by decide +kernel
theorem dX5_common_13 : decode cX5_common 13 = .ok (.lsub, 1) := by decide +kernel
theorem dX5_common_14 : decode cX5_common 14 = .ok (.invokestatic 139, 3) := by decide +kernel
theorem dX5_common_17 : decode cX5_common 17 = .ok (.lreturn, 1) := by decide +kernel
theorem dX5_counts_0 : decode cX5_counts 0 = .ok (.aload_n 0, 1) := by decide +kernel
theorem dX5_counts_1 : decode cX5_counts 1 = .ok (.iconst 0, 1) := by decide +kernel
theorem dX5_counts_2 : decode cX5_counts 2 = .ok (.putfield 59, 3) := by decide +kernel
theorem dX5_counts_5 : decode cX5_counts 5 = .ok (.aload_n 0, 1) := by decide +kernel
theorem dX5_counts_6 : decode cX5_counts 6 = .ok (.aload_n 0, 1) := by decide +kernel
theorem dX5_counts_7 : decode cX5_counts 7 = .ok (.iload_n 1, 1) := by decide +kernel
theorem dX5_counts_8 : decode cX5_counts 8 = .ok (.invokevirtual 84, 3) := by decide +kernel
theorem dX5_counts_11 : decode cX5_counts 11 = .ok (.iconst 1, 1) := by decide +kernel
theorem dX5_counts_12 : decode cX5_counts 12 = .ok (.invokevirtual 80, 3) := by decide +kernel
theorem dX5_counts_15 : decode cX5_counts 15 = .ok (.ifCond .ne 56, 3) := by decide +kernel
theorem dX5_counts_18 : decode cX5_counts 18 = .ok (.aload_n 0, 1) := by decide +kernel
theorem dX5_counts_19 : decode cX5_counts 19 = .ok (.iload_n 3, 1) := by decide +kernel
theorem dX5_counts_20 : decode cX5_counts 20 = .ok (.ifCond .lt 16, 3) := by decide +kernel
theorem dX5_counts_23 : decode cX5_counts 23 = .ok (.iload 4, 2) := by decide +kernel
theorem dX5_counts_25 : decode cX5_counts 25 = .ok (.iload_n 3, 1) := by decide +kernel
theorem dX5_counts_26 : decode cX5_counts 26 = .ok (.if_icmp .lt 10, 3) := by decide +kernel
theorem dX5_counts_29 : decode cX5_counts 29 = .ok (.iload 4, 2) := by decide +kernel
theorem dX5_counts_31 : decode cX5_counts 31 = .ok (.ldc 92, 2) := by decide +kernel
theorem dX5_counts_33 : decode cX5_counts 33 = .ok (.if_icmp .le 7, 3) := by decide +kernel
theorem dX5_counts_36 : decode cX5_counts 36 = .ok (.iconst 1, 1) := by decide +kernel
theorem dX5_counts_37 : decode cX5_counts 37 = .ok (.goto 4, 3) := by decide +kernel
theorem dX5_counts_40 : decode cX5_counts 40 = .ok (.iconst 0, 1) := by decide +kernel
theorem dX5_counts_41 : decode cX5_counts 41 = .ok (.iconst 2, 1) := by decide +kernel
theorem dX5_counts_42 : decode cX5_counts 42 = .ok (.invokevirtual 80, 3) := by decide +kernel
theorem dX5_counts_45 : decode cX5_counts 45 = .ok (.ifCond .ne 26, 3) := by decide +kernel
theorem dX5_counts_48 : decode cX5_counts 48 = .ok (.aload_n 0, 1) := by decide +kernel
theorem dX5_counts_49 : decode cX5_counts 49 = .ok (.iload 5, 2) := by decide +kernel
theorem dX5_counts_51 : decode cX5_counts 51 = .ok (.iconst 0, 1) := by decide +kernel
theorem dX5_counts_52 : decode cX5_counts 52 = .ok (.iconst 3, 1) := by decide +kernel
theorem dX5_counts_53 : decode cX5_counts 53 = .ok (.invokestatic 66, 3) := by decide +kernel
theorem dX5_counts_56 : decode cX5_counts 56 = .ok (.ifCond .ne 7, 3) := by decide +kernel
theorem dX5_counts_59 : decode cX5_counts 59 = .ok (.iconst 1, 1) := by decide +kernel
theorem dX5_counts_60 : decode cX5_counts 60 = .ok (.goto 4, 3) := by decide +kernel
theorem dX5_counts_63 : decode cX5_counts 63 = .ok (.iconst 0, 1) := by decide +kernel
theorem dX5_counts_64 : decode cX5_counts 64 = .ok (.iconst 3, 1) := by decide +kernel
theorem dX5_counts_65 : decode cX5_counts 65 = .ok (.invokevirtual 80, 3) := by decide +kernel
theorem dX5_counts_68 : decode cX5_counts 68 = .ok (.ifCond .eq 5, 3) := by decide +kernel
theorem dX5_counts_71 : decode cX5_counts 71 = .ok (.lconst 0, 1) := by decide +kernel
theorem dX5_counts_72 : decode cX5_counts 72 = .ok (.lreturn, 1) := by decide +kernel
theorem dX5_counts_73 : decode cX5_counts 73 = .ok (.iload_n 2, 1) := by decide +kernel
theorem dX5_counts_74 : decode cX5_counts 74 = .ok (.ifCond .ne 10, 3) := by decide +kernel
theorem dX5_counts_77 : decode cX5_counts 77 = .ok (.aload_n 0, 1) := by decide +kernel
theorem dX5_counts_78 : decode cX5_counts 78 = .ok (.iconst (-1), 1) := by decide +kernel
theorem dX5_counts_79 : decode cX5_counts 79 = .ok (.invokevirtual 119, 3) := by decide +kernel
theorem dX5_counts_82 : decode cX5_counts 82 = .ok (.istore 6, 2) := by decide +kernel
theorem dX5_counts_84 : decode cX5_counts 84 = .ok (.lconst 0, 1) := by decide +kernel
theorem dX5_counts_85 : decode cX5_counts 85 = .ok (.lstore 6, 2) := by decide +kernel
theorem dX5_counts_87 : decode cX5_counts 87 = .ok (.iconst 0, 1) := by decide +kernel
theorem dX5_counts_88 : decode cX5_counts 88 = .ok (.istore 8, 2) := by decide +kernel
theorem dX5_counts_90 : decode cX5_counts 90 = .ok (.iload 8, 2) := by decide +kernel
theorem dX5_counts_92 : decode cX5_counts 92 = .ok (.sipush 300, 3) := by decide +kernel
theorem dX5_counts_95 : decode cX5_counts 95 = .ok (.if_icmp .ge 236, 3) := by decide +kernel
theorem dX5_counts_98 : decode cX5_counts 98 = .ok (.aload_n 0, 1) := by decide +kernel
theorem dX5_counts_99 : decode cX5_counts 99 = .ok (.iload 8, 2) := by decide +kernel
theorem dX5_counts_101 : decode cX5_counts 101 = .ok (.invokevirtual 123, 3) := by decide +kernel
theorem dX5_counts_104 : decode cX5_counts 104 = .ok (.ifCond .eq 221, 3) := by decide +kernel
theorem dX5_counts_107 : decode cX5_counts 107 = .ok (.aload_n 0, 1) := by decide +kernel
theorem dX5_counts_108 : decode cX5_counts 108 = .ok (.getfield 28, 3) := by decide +kernel
theorem dX5_counts_111 : decode cX5_counts 111 = .ok (.iload 8, 2) := by decide +kernel
theorem dX5_counts_113 : decode cX5_counts 113 = .ok (.iaload, 1) := by decide +kernel
theorem dX5_counts_114 : decode cX5_counts 114 = .ok (.iload_n 1, 1) := by decide +kernel
theorem dX5_counts_115 : decode cX5_counts 115 = .ok (.if_icmp .ne 210, 3) := by decide +kernel
theorem dX5_counts_118 : decode cX5_counts 118 = .ok (.iload_n 2, 1) := by decide +kernel
theorem dX5_counts_119 : decode cX5_counts 119 = .ok (.ifCond .eq 25, 3) := by decide +kernel
theorem dX5_counts_122 : decode cX5_counts 122 = .ok (.aload_n 0, 1) := by decide +kernel
theorem dX5_counts_123 : decode cX5_counts 123 = .ok (.getfield 34, 3) := by decide +kernel
theorem dX5_counts_126 : decode cX5_counts 126 = .ok (.iload 8, 2) := by decide +kernel
theorem dX5_counts_128 : decode cX5_counts 128 = .ok (.baload, 1) := by decide +kernel
theorem dX5_counts_129 : decode cX5_counts 129 = .ok (.ifCond .eq 196, 3) := by decide +kernel
theorem dX5_counts_132 : decode cX5_counts 132 = .ok (.aload_n 0, 1) := by decide +kernel
theorem dX5_counts_133 : decode cX5_counts 133 = .ok (.iload 8, 2) := by decide +kernel
theorem dX5_counts_135 : decode cX5_counts 135 = .ok (.invokevirtual 130, 3) := by decide +kernel
theorem dX5_counts_138 : decode cX5_counts 138 = .ok (.ifCond .ge 6, 3) := by decide +kernel
theorem dX5_counts_141 : decode cX5_counts 141 = .ok (.goto 184, 3) := by decide +kernel
theorem dX5_counts_144 : decode cX5_counts 144 = .ok (.iload_n 2, 1) := by decide +kernel
theorem dX5_counts_145 : decode cX5_counts 145 = .ok (.ifCond .eq 12, 3) := by decide +kernel
theorem dX5_counts_148 : decode cX5_counts 148 = .ok (.aload_n 0, 1) := by decide +kernel
theorem dX5_counts_149 : decode cX5_counts 149 = .ok (.iload 8, 2) := by decide +kernel
theorem dX5_counts_151 : decode cX5_counts 151 = .ok (.invokevirtual 130, 3) := by decide +kernel
theorem dX5_counts_154 : decode cX5_counts 154 = .ok (.goto 10, 3) := by decide +kernel
theorem dX5_counts_157 : decode cX5_counts 157 = .ok (.aload_n 0, 1) := by decide +kernel
theorem dX5_counts_158 : decode cX5_counts 158 = .ok (.getfield 44, 3) := by decide +kernel
theorem dX5_counts_161 : decode cX5_counts 161 = .ok (.iload 8, 2) := by decide +kernel
theorem dX5_counts_163 : decode cX5_counts 163 = .ok (.iaload, 1) := by decide +kernel
theorem dX5_counts_164 : decode cX5_counts 164 = .ok (.istore 9, 2) := by decide +kernel
theorem dX5_counts_166 : decode cX5_counts 166 = .ok (.iload_n 2, 1) := by decide +kernel
theorem dX5_counts_167 : decode cX5_counts 167 = .ok (.ifCond .eq 13, 3) := by decide +kernel
theorem dX5_counts_170 : decode cX5_counts 170 = .ok (.aload_n 0, 1) := by decide +kernel
theorem dX5_counts_171 : decode cX5_counts 171 = .ok (.getfield 38, 3) := by decide +kernel
theorem dX5_counts_174 : decode cX5_counts 174 = .ok (.iload 8, 2) := by decide +kernel
theorem dX5_counts_176 : decode cX5_counts 176 = .ok (.iaload, 1) := by decide +kernel
theorem dX5_counts_177 : decode cX5_counts 177 = .ok (.goto 10, 3) := by decide +kernel
theorem dX5_counts_180 : decode cX5_counts 180 = .ok (.aload_n 0, 1) := by decide +kernel
theorem dX5_counts_181 : decode cX5_counts 181 = .ok (.getfield 47, 3) := by decide +kernel
theorem dX5_counts_184 : decode cX5_counts 184 = .ok (.iload 8, 2) := by decide +kernel
theorem dX5_counts_186 : decode cX5_counts 186 = .ok (.iaload, 1) := by decide +kernel
theorem dX5_counts_187 : decode cX5_counts 187 = .ok (.istore 10, 2) := by decide +kernel
theorem dX5_counts_189 : decode cX5_counts 189 = .ok (.iload_n 2, 1) := by decide +kernel
theorem dX5_counts_190 : decode cX5_counts 190 = .ok (.ifCond .eq 13, 3) := by decide +kernel
theorem dX5_counts_193 : decode cX5_counts 193 = .ok (.aload_n 0, 1) := by decide +kernel
theorem dX5_counts_194 : decode cX5_counts 194 = .ok (.getfield 41, 3) := by decide +kernel
theorem dX5_counts_197 : decode cX5_counts 197 = .ok (.iload 8, 2) := by decide +kernel
theorem dX5_counts_199 : decode cX5_counts 199 = .ok (.iaload, 1) := by decide +kernel
theorem dX5_counts_200 : decode cX5_counts 200 = .ok (.goto 10, 3) := by decide +kernel
theorem dX5_counts_203 : decode cX5_counts 203 = .ok (.aload_n 0, 1) := by decide +kernel
theorem dX5_counts_204 : decode cX5_counts 204 = .ok (.getfield 50, 3) := by decide +kernel
theorem dX5_counts_207 : decode cX5_counts 207 = .ok (.iload 8, 2) := by decide +kernel
theorem dX5_counts_209 : decode cX5_counts 209 = .ok (.iaload, 1) := by decide +kernel
theorem dX5_counts_210 : decode cX5_counts 210 = .ok (.istore 11, 2) := by decide +kernel
theorem dX5_counts_212 : decode cX5_counts 212 = .ok (.iload 5, 2) := by decide +kernel
theorem dX5_counts_214 : decode cX5_counts 214 = .ok (.tableswitch 96 0 2 #[26, 52, 78], 26) := by decide +kernel
theorem dX5_counts_240 : decode cX5_counts 240 = .ok (.lload 6, 2) := by decide +kernel
theorem dX5_counts_242 : decode cX5_counts 242 = .ok (.iload 9, 2) := by decide +kernel
theorem dX5_counts_244 : decode cX5_counts 244 = .ok (.iload_n 3, 1) := by decide +kernel
theorem dX5_counts_245 : decode cX5_counts 245 = .ok (.if_icmp .lt 14, 3) := by decide +kernel
theorem dX5_counts_248 : decode cX5_counts 248 = .ok (.iload 9, 2) := by decide +kernel
theorem dX5_counts_250 : decode cX5_counts 250 = .ok (.iload 4, 2) := by decide +kernel
theorem dX5_counts_252 : decode cX5_counts 252 = .ok (.if_icmp .ge 7, 3) := by decide +kernel
theorem dX5_counts_255 : decode cX5_counts 255 = .ok (.lconst 1, 1) := by decide +kernel
theorem dX5_counts_256 : decode cX5_counts 256 = .ok (.goto 4, 3) := by decide +kernel
theorem dX5_counts_259 : decode cX5_counts 259 = .ok (.lconst 0, 1) := by decide +kernel
theorem dX5_counts_260 : decode cX5_counts 260 = .ok (.ladd, 1) := by decide +kernel
theorem dX5_counts_261 : decode cX5_counts 261 = .ok (.lstore 6, 2) := by decide +kernel
theorem dX5_counts_263 : decode cX5_counts 263 = .ok (.goto 62, 3) := by decide +kernel
theorem dX5_counts_266 : decode cX5_counts 266 = .ok (.lload 6, 2) := by decide +kernel
theorem dX5_counts_268 : decode cX5_counts 268 = .ok (.iload 11, 2) := by decide +kernel
theorem dX5_counts_270 : decode cX5_counts 270 = .ok (.iload_n 3, 1) := by decide +kernel
theorem dX5_counts_271 : decode cX5_counts 271 = .ok (.if_icmp .lt 14, 3) := by decide +kernel
theorem dX5_counts_274 : decode cX5_counts 274 = .ok (.iload 11, 2) := by decide +kernel
theorem dX5_counts_276 : decode cX5_counts 276 = .ok (.iload 4, 2) := by decide +kernel
theorem dX5_counts_278 : decode cX5_counts 278 = .ok (.if_icmp .ge 7, 3) := by decide +kernel
theorem dX5_counts_281 : decode cX5_counts 281 = .ok (.lconst 1, 1) := by decide +kernel
theorem dX5_counts_282 : decode cX5_counts 282 = .ok (.goto 4, 3) := by decide +kernel
theorem dX5_counts_285 : decode cX5_counts 285 = .ok (.lconst 0, 1) := by decide +kernel
theorem dX5_counts_286 : decode cX5_counts 286 = .ok (.ladd, 1) := by decide +kernel
theorem dX5_counts_287 : decode cX5_counts 287 = .ok (.lstore 6, 2) := by decide +kernel
theorem dX5_counts_289 : decode cX5_counts 289 = .ok (.goto 36, 3) := by decide +kernel
theorem dX5_counts_292 : decode cX5_counts 292 = .ok (.lload 6, 2) := by decide +kernel
theorem dX5_counts_294 : decode cX5_counts 294 = .ok (.iload 9, 2) := by decide +kernel
theorem dX5_counts_296 : decode cX5_counts 296 = .ok (.iload 11, 2) := by decide +kernel
theorem dX5_counts_298 : decode cX5_counts 298 = .ok (.iload_n 3, 1) := by decide +kernel
theorem dX5_counts_299 : decode cX5_counts 299 = .ok (.iload 4, 2) := by decide +kernel
theorem dX5_counts_301 : decode cX5_counts 301 = .ok (.invokestatic 142, 3) := by decide +kernel
theorem dX5_counts_304 : decode cX5_counts 304 = .ok (.ladd, 1) := by decide +kernel
theorem dX5_counts_305 : decode cX5_counts 305 = .ok (.lstore 6, 2) := by decide +kernel
theorem dX5_counts_307 : decode cX5_counts 307 = .ok (.goto 18, 3) := by decide +kernel
theorem dX5_counts_310 : decode cX5_counts 310 = .ok (.lload 6, 2) := by decide +kernel
theorem dX5_counts_312 : decode cX5_counts 312 = .ok (.iload 10, 2) := by decide +kernel
theorem dX5_counts_314 : decode cX5_counts 314 = .ok (.iload 11, 2) := by decide +kernel
theorem dX5_counts_316 : decode cX5_counts 316 = .ok (.iload_n 3, 1) := by decide +kernel
theorem dX5_counts_317 : decode cX5_counts 317 = .ok (.iload 4, 2) := by decide +kernel
theorem dX5_counts_319 : decode cX5_counts 319 = .ok (.invokestatic 142, 3) := by decide +kernel
theorem dX5_counts_322 : decode cX5_counts 322 = .ok (.ladd, 1) := by decide +kernel
theorem dX5_counts_323 : decode cX5_counts 323 = .ok (.lstore 6, 2) := by decide +kernel
theorem dX5_counts_325 : decode cX5_counts 325 = .ok (.iinc 8 1, 3) := by decide +kernel
theorem dX5_counts_328 : decode cX5_counts 328 = .ok (.goto (-238), 3) := by decide +kernel
theorem dX5_counts_331 : decode cX5_counts 331 = .ok (.lload 6, 2) := by decide +kernel
theorem dX5_counts_333 : decode cX5_counts 333 = .ok (.lreturn, 1) := by decide +kernel
theorem dX5_totalWith_0 : decode cX5_totalWith 0 = .ok (.aload_n 0, 1) := by decide +kernel
theorem dX5_totalWith_1 : decode cX5_totalWith 1 = .ok (.iload_n 1, 1) := by decide +kernel
theorem dX5_totalWith_2 : decode cX5_totalWith 2 = .ok (.invokevirtual 119, 3) := by decide +kernel
theorem dX5_totalWith_5 : decode cX5_totalWith 5 = .ok (.istore_n 2, 1) := by decide +kernel
theorem dX5_totalWith_6 : decode cX5_totalWith 6 = .ok (.lconst 0, 1) := by decide +kernel
theorem dX5_totalWith_7 : decode cX5_totalWith 7 = .ok (.lstore_n 3, 1) := by decide +kernel
theorem dX5_totalWith_8 : decode cX5_totalWith 8 = .ok (.iconst 0, 1) := by decide +kernel
theorem dX5_totalWith_9 : decode cX5_totalWith 9 = .ok (.istore 5, 2) := by decide +kernel
theorem dX5_totalWith_11 : decode cX5_totalWith 11 = .ok (.iload 5, 2) := by decide +kernel
theorem dX5_totalWith_13 : decode cX5_totalWith 13 = .ok (.aload_n 0, 1) := by decide +kernel
theorem dX5_totalWith_14 : decode cX5_totalWith 14 = .ok (.getfield 70, 3) := by decide +kernel
theorem dX5_totalWith_17 : decode cX5_totalWith 17 = .ok (.if_icmp .ge 40, 3) := by decide +kernel
theorem dX5_totalWith_20 : decode cX5_totalWith 20 = .ok (.lload_n 3, 1) := by decide +kernel
theorem dX5_totalWith_21 : decode cX5_totalWith 21 = .ok (.aload_n 0, 1) := by decide +kernel
theorem dX5_totalWith_22 : decode cX5_totalWith 22 = .ok (.getfield 50, 3) := by decide +kernel
theorem dX5_totalWith_25 : decode cX5_totalWith 25 = .ok (.iconst 5, 1) := by decide +kernel
theorem dX5_totalWith_26 : decode cX5_totalWith 26 = .ok (.iload 5, 2) := by decide +kernel
theorem dX5_totalWith_28 : decode cX5_totalWith 28 = .ok (.imul, 1) := by decide +kernel
theorem dX5_totalWith_29 : decode cX5_totalWith 29 = .ok (.aload_n 0, 1) := by decide +kernel
theorem dX5_totalWith_30 : decode cX5_totalWith 30 = .ok (.getfield 25, 3) := by decide +kernel
theorem dX5_totalWith_33 : decode cX5_totalWith 33 = .ok (.iload 5, 2) := by decide +kernel
theorem dX5_totalWith_35 : decode cX5_totalWith 35 = .ok (.iaload, 1) := by decide +kernel
theorem dX5_totalWith_36 : decode cX5_totalWith 36 = .ok (.iadd, 1) := by decide +kernel
theorem dX5_totalWith_37 : decode cX5_totalWith 37 = .ok (.iconst 1, 1) := by decide +kernel
theorem dX5_totalWith_38 : decode cX5_totalWith 38 = .ok (.isub, 1) := by decide +kernel
theorem dX5_totalWith_39 : decode cX5_totalWith 39 = .ok (.iaload, 1) := by decide +kernel
theorem dX5_totalWith_40 : decode cX5_totalWith 40 = .ok (.aload_n 0, 1) := by decide +kernel
theorem dX5_totalWith_41 : decode cX5_totalWith 41 = .ok (.getfield 22, 3) := by decide +kernel
theorem dX5_totalWith_44 : decode cX5_totalWith 44 = .ok (.iload 5, 2) := by decide +kernel
theorem dX5_totalWith_46 : decode cX5_totalWith 46 = .ok (.iaload, 1) := by decide +kernel
theorem dX5_totalWith_47 : decode cX5_totalWith 47 = .ok (.isub, 1) := by decide +kernel
theorem dX5_totalWith_48 : decode cX5_totalWith 48 = .ok (.i2l, 1) := by decide +kernel
theorem dX5_totalWith_49 : decode cX5_totalWith 49 = .ok (.ladd, 1) := by decide +kernel
theorem dX5_totalWith_50 : decode cX5_totalWith 50 = .ok (.lstore_n 3, 1) := by decide +kernel
theorem dX5_totalWith_51 : decode cX5_totalWith 51 = .ok (.iinc 5 1, 3) := by decide +kernel
theorem dX5_totalWith_54 : decode cX5_totalWith 54 = .ok (.goto (-43), 3) := by decide +kernel
theorem dX5_totalWith_57 : decode cX5_totalWith 57 = .ok (.lload_n 3, 1) := by decide +kernel
theorem dX5_totalWith_58 : decode cX5_totalWith 58 = .ok (.lreturn, 1) := by decide +kernel
theorem dX5_total_0 : decode cX5_total 0 = .ok (.aload_n 0, 1) := by decide +kernel
theorem dX5_total_1 : decode cX5_total 1 = .ok (.iconst 0, 1) := by decide +kernel
theorem dX5_total_2 : decode cX5_total 2 = .ok (.putfield 59, 3) := by decide +kernel
theorem dX5_total_5 : decode cX5_total 5 = .ok (.aload_n 0, 1) := by decide +kernel
theorem dX5_total_6 : decode cX5_total 6 = .ok (.iconst (-1), 1) := by decide +kernel
theorem dX5_total_7 : decode cX5_total 7 = .ok (.invokevirtual 146, 3) := by decide +kernel
theorem dX5_total_10 : decode cX5_total 10 = .ok (.lreturn, 1) := by decide +kernel
theorem dX5_saved_0 : decode cX5_saved 0 = .ok (.aload_n 0, 1) := by decide +kernel
theorem dX5_saved_1 : decode cX5_saved 1 = .ok (.iconst 0, 1) := by decide +kernel
theorem dX5_saved_2 : decode cX5_saved 2 = .ok (.putfield 59, 3) := by decide +kernel
theorem dX5_saved_5 : decode cX5_saved 5 = .ok (.aload_n 0, 1) := by decide +kernel
theorem dX5_saved_6 : decode cX5_saved 6 = .ok (.aload_n 0, 1) := by decide +kernel
theorem dX5_saved_7 : decode cX5_saved 7 = .ok (.iload_n 1, 1) := by decide +kernel
theorem dX5_saved_8 : decode cX5_saved 8 = .ok (.invokevirtual 84, 3) := by decide +kernel
theorem dX5_saved_11 : decode cX5_saved 11 = .ok (.iconst 1, 1) := by decide +kernel
theorem dX5_saved_12 : decode cX5_saved 12 = .ok (.invokevirtual 80, 3) := by decide +kernel
theorem dX5_saved_15 : decode cX5_saved 15 = .ok (.ifCond .eq 7, 3) := by decide +kernel
theorem dX5_saved_18 : decode cX5_saved 18 = .ok (.lconst 0, 1) := by decide +kernel
theorem dX5_saved_19 : decode cX5_saved 19 = .ok (.goto 14, 3) := by decide +kernel
theorem dX5_saved_22 : decode cX5_saved 22 = .ok (.aload_n 0, 1) := by decide +kernel
theorem dX5_saved_23 : decode cX5_saved 23 = .ok (.iconst (-1), 1) := by decide +kernel
theorem dX5_saved_24 : decode cX5_saved 24 = .ok (.invokevirtual 146, 3) := by decide +kernel
theorem dX5_saved_27 : decode cX5_saved 27 = .ok (.aload_n 0, 1) := by decide +kernel
theorem dX5_saved_28 : decode cX5_saved 28 = .ok (.iload_n 1, 1) := by decide +kernel
theorem dX5_saved_29 : decode cX5_saved 29 = .ok (.invokevirtual 146, 3) := by decide +kernel
theorem dX5_saved_32 : decode cX5_saved 32 = .ok (.lsub, 1) := by decide +kernel
theorem dX5_saved_33 : decode cX5_saved 33 = .ok (.lreturn, 1) := by decide +kernel
theorem dX5_narrow_0 : decode cX5_narrow 0 = .ok (.aload_n 0, 1) := by decide +kernel
theorem dX5_narrow_1 : decode cX5_narrow 1 = .ok (.iconst 0, 1) := by decide +kernel
theorem dX5_narrow_2 : decode cX5_narrow 2 = .ok (.putfield 59, 3) := by decide +kernel
theorem dX5_narrow_5 : decode cX5_narrow 5 = .ok (.iconst (-1), 1) := by decide +kernel
theorem dX5_narrow_6 : decode cX5_narrow 6 = .ok (.istore_n 1, 1) := by decide +kernel
theorem dX5_narrow_7 : decode cX5_narrow 7 = .ok (.lconst 0, 1) := by decide +kernel
theorem dX5_narrow_8 : decode cX5_narrow 8 = .ok (.lstore_n 2, 1) := by decide +kernel
theorem dX5_narrow_9 : decode cX5_narrow 9 = .ok (.iconst 0, 1) := by decide +kernel
theorem dX5_narrow_10 : decode cX5_narrow 10 = .ok (.istore 4, 2) := by decide +kernel
theorem dX5_narrow_12 : decode cX5_narrow 12 = .ok (.iload 4, 2) := by decide +kernel
theorem dX5_narrow_14 : decode cX5_narrow 14 = .ok (.aload_n 0, 1) := by decide +kernel
theorem dX5_narrow_15 : decode cX5_narrow 15 = .ok (.getfield 63, 3) := by decide +kernel
theorem dX5_narrow_18 : decode cX5_narrow 18 = .ok (.if_icmp .ge 37, 3) := by decide +kernel
theorem dX5_narrow_21 : decode cX5_narrow 21 = .ok (.aload_n 0, 1) := by decide +kernel
theorem dX5_narrow_22 : decode cX5_narrow 22 = .ok (.iload 4, 2) := by decide +kernel
theorem dX5_narrow_24 : decode cX5_narrow 24 = .ok (.invokevirtual 146, 3) := by decide +kernel
theorem dX5_narrow_27 : decode cX5_narrow 27 = .ok (.lstore 5, 2) := by decide +kernel
theorem dX5_narrow_29 : decode cX5_narrow 29 = .ok (.iload_n 1, 1) := by decide +kernel
theorem dX5_narrow_30 : decode cX5_narrow 30 = .ok (.ifCond .lt 13, 3) := by decide +kernel
theorem dX5_narrow_33 : decode cX5_narrow 33 = .ok (.lload 5, 2) := by decide +kernel
theorem dX5_narrow_35 : decode cX5_narrow 35 = .ok (.lload_n 2, 1) := by decide +kernel
theorem dX5_narrow_36 : decode cX5_narrow 36 = .ok (.lcmp, 1) := by decide +kernel
theorem dX5_narrow_37 : decode cX5_narrow 37 = .ok (.ifCond .lt 6, 3) := by decide +kernel
theorem dX5_narrow_40 : decode cX5_narrow 40 = .ok (.goto 9, 3) := by decide +kernel
theorem dX5_narrow_43 : decode cX5_narrow 43 = .ok (.iload 4, 2) := by decide +kernel
theorem dX5_narrow_45 : decode cX5_narrow 45 = .ok (.istore_n 1, 1) := by decide +kernel
theorem dX5_narrow_46 : decode cX5_narrow 46 = .ok (.lload 5, 2) := by decide +kernel
theorem dX5_narrow_48 : decode cX5_narrow 48 = .ok (.lstore_n 2, 1) := by decide +kernel
theorem dX5_narrow_49 : decode cX5_narrow 49 = .ok (.iinc 4 1, 3) := by decide +kernel
theorem dX5_narrow_52 : decode cX5_narrow 52 = .ok (.goto (-40), 3) := by decide +kernel
theorem dX5_narrow_55 : decode cX5_narrow 55 = .ok (.iload_n 1, 1) := by decide +kernel
theorem dX5_narrow_56 : decode cX5_narrow 56 = .ok (.ireturn, 1) := by decide +kernel
theorem dX5_alone_0 : decode cX5_alone 0 = .ok (.aload_n 0, 1) := by decide +kernel
theorem dX5_alone_1 : decode cX5_alone 1 = .ok (.iconst 0, 1) := by decide +kernel
theorem dX5_alone_2 : decode cX5_alone 2 = .ok (.putfield 59, 3) := by decide +kernel
theorem dX5_alone_5 : decode cX5_alone 5 = .ok (.aload_n 0, 1) := by decide +kernel
theorem dX5_alone_6 : decode cX5_alone 6 = .ok (.aload_n 0, 1) := by decide +kernel
theorem dX5_alone_7 : decode cX5_alone 7 = .ok (.iload_n 1, 1) := by decide +kernel
theorem dX5_alone_8 : decode cX5_alone 8 = .ok (.invokevirtual 73, 3) := by decide +kernel
theorem dX5_alone_11 : decode cX5_alone 11 = .ok (.iconst 1, 1) := by decide +kernel
theorem dX5_alone_12 : decode cX5_alone 12 = .ok (.invokevirtual 80, 3) := by decide +kernel
theorem dX5_alone_15 : decode cX5_alone 15 = .ok (.ifCond .eq 5, 3) := by decide +kernel
theorem dX5_alone_18 : decode cX5_alone 18 = .ok (.iconst 0, 1) := by decide +kernel
theorem dX5_alone_19 : decode cX5_alone 19 = .ok (.ireturn, 1) := by decide +kernel
theorem dX5_alone_20 : decode cX5_alone 20 = .ok (.aload_n 0, 1) := by decide +kernel
theorem dX5_alone_21 : decode cX5_alone 21 = .ok (.getfield 22, 3) := by decide +kernel
theorem dX5_alone_24 : decode cX5_alone 24 = .ok (.iload_n 1, 1) := by decide +kernel
theorem dX5_alone_25 : decode cX5_alone 25 = .ok (.iaload, 1) := by decide +kernel
theorem dX5_alone_26 : decode cX5_alone 26 = .ok (.istore_n 2, 1) := by decide +kernel
theorem dX5_alone_27 : decode cX5_alone 27 = .ok (.iconst 5, 1) := by decide +kernel
theorem dX5_alone_28 : decode cX5_alone 28 = .ok (.iload_n 1, 1) := by decide +kernel
theorem dX5_alone_29 : decode cX5_alone 29 = .ok (.imul, 1) := by decide +kernel
theorem dX5_alone_30 : decode cX5_alone 30 = .ok (.istore_n 3, 1) := by decide +kernel
theorem dX5_alone_31 : decode cX5_alone 31 = .ok (.iload_n 3, 1) := by decide +kernel
theorem dX5_alone_32 : decode cX5_alone 32 = .ok (.iconst 5, 1) := by decide +kernel
theorem dX5_alone_33 : decode cX5_alone 33 = .ok (.iload_n 1, 1) := by decide +kernel
theorem dX5_alone_34 : decode cX5_alone 34 = .ok (.imul, 1) := by decide +kernel
theorem dX5_alone_35 : decode cX5_alone 35 = .ok (.aload_n 0, 1) := by decide +kernel
theorem dX5_alone_36 : decode cX5_alone 36 = .ok (.getfield 25, 3) := by decide +kernel
theorem dX5_alone_39 : decode cX5_alone 39 = .ok (.iload_n 1, 1) := by decide +kernel
theorem dX5_alone_40 : decode cX5_alone 40 = .ok (.iaload, 1) := by decide +kernel
theorem dX5_alone_41 : decode cX5_alone 41 = .ok (.iadd, 1) := by decide +kernel
theorem dX5_alone_42 : decode cX5_alone 42 = .ok (.if_icmp .ge 48, 3) := by decide +kernel
theorem dX5_alone_45 : decode cX5_alone 45 = .ok (.iload_n 2, 1) := by decide +kernel
theorem dX5_alone_46 : decode cX5_alone 46 = .ok (.aload_n 0, 1) := by decide +kernel
theorem dX5_alone_47 : decode cX5_alone 47 = .ok (.getfield 31, 3) := by decide +kernel
theorem dX5_alone_50 : decode cX5_alone 50 = .ok (.iload_n 3, 1) := by decide +kernel
theorem dX5_alone_51 : decode cX5_alone 51 = .ok (.iaload, 1) := by decide +kernel
theorem dX5_alone_52 : decode cX5_alone 52 = .ok (.iload_n 3, 1) := by decide +kernel
theorem dX5_alone_53 : decode cX5_alone 53 = .ok (.iconst 5, 1) := by decide +kernel
theorem dX5_alone_54 : decode cX5_alone 54 = .ok (.irem, 1) := by decide +kernel
theorem dX5_alone_55 : decode cX5_alone 55 = .ok (.iconst 1, 1) := by decide +kernel
theorem dX5_alone_56 : decode cX5_alone 56 = .ok (.iadd, 1) := by decide +kernel
theorem dX5_alone_57 : decode cX5_alone 57 = .ok (.aload_n 0, 1) := by decide +kernel
theorem dX5_alone_58 : decode cX5_alone 58 = .ok (.getfield 25, 3) := by decide +kernel
theorem dX5_alone_61 : decode cX5_alone 61 = .ok (.iload_n 1, 1) := by decide +kernel
theorem dX5_alone_62 : decode cX5_alone 62 = .ok (.iaload, 1) := by decide +kernel
theorem dX5_alone_63 : decode cX5_alone 63 = .ok (.if_icmp .ge 17, 3) := by decide +kernel
theorem dX5_alone_66 : decode cX5_alone 66 = .ok (.aload_n 0, 1) := by decide +kernel
theorem dX5_alone_67 : decode cX5_alone 67 = .ok (.getfield 16, 3) := by decide +kernel
theorem dX5_alone_70 : decode cX5_alone 70 = .ok (.aload_n 0, 1) := by decide +kernel
theorem dX5_alone_71 : decode cX5_alone 71 = .ok (.getfield 28, 3) := by decide +kernel
theorem dX5_alone_74 : decode cX5_alone 74 = .ok (.iload_n 3, 1) := by decide +kernel
theorem dX5_alone_75 : decode cX5_alone 75 = .ok (.iaload, 1) := by decide +kernel
theorem dX5_alone_76 : decode cX5_alone 76 = .ok (.iaload, 1) := by decide +kernel
theorem dX5_alone_77 : decode cX5_alone 77 = .ok (.goto 4, 3) := by decide +kernel
theorem dX5_alone_80 : decode cX5_alone 80 = .ok (.iconst 0, 1) := by decide +kernel
theorem dX5_alone_81 : decode cX5_alone 81 = .ok (.iadd, 1) := by decide +kernel
theorem dX5_alone_82 : decode cX5_alone 82 = .ok (.iadd, 1) := by decide +kernel
theorem dX5_alone_83 : decode cX5_alone 83 = .ok (.istore_n 2, 1) := by decide +kernel
theorem dX5_alone_84 : decode cX5_alone 84 = .ok (.iinc 3 1, 3) := by decide +kernel
theorem dX5_alone_87 : decode cX5_alone 87 = .ok (.goto (-56), 3) := by decide +kernel
theorem dX5_alone_90 : decode cX5_alone 90 = .ok (.iload_n 2, 1) := by decide +kernel
theorem dX5_alone_91 : decode cX5_alone 91 = .ok (.ireturn, 1) := by decide +kernel
theorem dX5_count_0 : decode cX5_count 0 = .ok (.aload_n 0, 1) := by decide +kernel
theorem dX5_count_1 : decode cX5_count 1 = .ok (.iconst 0, 1) := by decide +kernel
theorem dX5_count_2 : decode cX5_count 2 = .ok (.putfield 59, 3) := by decide +kernel
theorem dX5_count_5 : decode cX5_count 5 = .ok (.iconst 0, 1) := by decide +kernel
theorem dX5_count_6 : decode cX5_count 6 = .ok (.istore_n 2, 1) := by decide +kernel
theorem dX5_count_7 : decode cX5_count 7 = .ok (.iload_n 1, 1) := by decide +kernel
theorem dX5_count_8 : decode cX5_count 8 = .ok (.tableswitch 99 0 4 #[36, 41, 46, 51, 93], 36) := by decide +kernel
theorem dX5_count_44 : decode cX5_count 44 = .ok (.aload_n 0, 1) := by decide +kernel
theorem dX5_count_45 : decode cX5_count 45 = .ok (.getfield 63, 3) := by decide +kernel
theorem dX5_count_48 : decode cX5_count 48 = .ok (.ireturn, 1) := by decide +kernel
theorem dX5_count_49 : decode cX5_count 49 = .ok (.aload_n 0, 1) := by decide +kernel
theorem dX5_count_50 : decode cX5_count 50 = .ok (.getfield 70, 3) := by decide +kernel
theorem dX5_count_53 : decode cX5_count 53 = .ok (.ireturn, 1) := by decide +kernel
theorem dX5_count_54 : decode cX5_count 54 = .ok (.aload_n 0, 1) := by decide +kernel
theorem dX5_count_55 : decode cX5_count 55 = .ok (.invokevirtual 126, 3) := by decide +kernel
theorem dX5_count_58 : decode cX5_count 58 = .ok (.ireturn, 1) := by decide +kernel
theorem dX5_count_59 : decode cX5_count 59 = .ok (.iconst 0, 1) := by decide +kernel
theorem dX5_count_60 : decode cX5_count 60 = .ok (.istore_n 3, 1) := by decide +kernel
theorem dX5_count_61 : decode cX5_count 61 = .ok (.iload_n 3, 1) := by decide +kernel
theorem dX5_count_62 : decode cX5_count 62 = .ok (.sipush 300, 3) := by decide +kernel
theorem dX5_count_65 : decode cX5_count 65 = .ok (.if_icmp .ge 34, 3) := by decide +kernel
theorem dX5_count_68 : decode cX5_count 68 = .ok (.iload_n 2, 1) := by decide +kernel
theorem dX5_count_69 : decode cX5_count 69 = .ok (.aload_n 0, 1) := by decide +kernel
theorem dX5_count_70 : decode cX5_count 70 = .ok (.iload_n 3, 1) := by decide +kernel
theorem dX5_count_71 : decode cX5_count 71 = .ok (.invokevirtual 123, 3) := by decide +kernel
theorem dX5_count_74 : decode cX5_count 74 = .ok (.ifCond .eq 16, 3) := by decide +kernel
theorem dX5_count_77 : decode cX5_count 77 = .ok (.aload_n 0, 1) := by decide +kernel
theorem dX5_count_78 : decode cX5_count 78 = .ok (.getfield 34, 3) := by decide +kernel
theorem dX5_count_81 : decode cX5_count 81 = .ok (.iload_n 3, 1) := by decide +kernel
theorem dX5_count_82 : decode cX5_count 82 = .ok (.baload, 1) := by decide +kernel
theorem dX5_count_83 : decode cX5_count 83 = .ok (.ifCond .eq 7, 3) := by decide +kernel
theorem dX5_count_86 : decode cX5_count 86 = .ok (.iconst 1, 1) := by decide +kernel
theorem dX5_count_87 : decode cX5_count 87 = .ok (.goto 4, 3) := by decide +kernel
theorem dX5_count_90 : decode cX5_count 90 = .ok (.iconst 0, 1) := by decide +kernel
theorem dX5_count_91 : decode cX5_count 91 = .ok (.iadd, 1) := by decide +kernel
theorem dX5_count_92 : decode cX5_count 92 = .ok (.istore_n 2, 1) := by decide +kernel
theorem dX5_count_93 : decode cX5_count 93 = .ok (.iinc 3 1, 3) := by decide +kernel
theorem dX5_count_96 : decode cX5_count 96 = .ok (.goto (-35), 3) := by decide +kernel
theorem dX5_count_99 : decode cX5_count 99 = .ok (.iload_n 2, 1) := by decide +kernel
theorem dX5_count_100 : decode cX5_count 100 = .ok (.ireturn, 1) := by decide +kernel
theorem dX5_count_101 : decode cX5_count 101 = .ok (.aload_n 0, 1) := by decide +kernel
theorem dX5_count_102 : decode cX5_count 102 = .ok (.iconst (-1), 1) := by decide +kernel
theorem dX5_count_103 : decode cX5_count 103 = .ok (.invokevirtual 119, 3) := by decide +kernel
theorem dX5_count_106 : decode cX5_count 106 = .ok (.ireturn, 1) := by decide +kernel
theorem dX5_count_107 : decode cX5_count 107 = .ok (.iconst (-1), 1) := by decide +kernel
theorem dX5_count_108 : decode cX5_count 108 = .ok (.ireturn, 1) := by decide +kernel
theorem dJ9_max_7cf53_0 : decode cJ9_max_7cf53 0 = .ok (.iload_n 0, 1) := by decide +kernel
theorem dJ9_max_7cf53_1 : decode cJ9_max_7cf53 1 = .ok (.iload_n 1, 1) := by decide +kernel
theorem dJ9_max_7cf53_2 : decode cJ9_max_7cf53 2 = .ok (.if_icmp .lt 7, 3) := by decide +kernel
theorem dJ9_max_7cf53_5 : decode cJ9_max_7cf53 5 = .ok (.iload_n 0, 1) := by decide +kernel
theorem dJ9_max_7cf53_6 : decode cJ9_max_7cf53 6 = .ok (.goto 4, 3) := by decide +kernel
theorem dJ9_max_7cf53_9 : decode cJ9_max_7cf53 9 = .ok (.iload_n 1, 1) := by decide +kernel
theorem dJ9_max_7cf53_10 : decode cJ9_max_7cf53 10 = .ok (.ireturn, 1) := by decide +kernel
theorem dJ9_max_f86c9_0 : decode cJ9_max_f86c9 0 = .ok (.lload_n 0, 1) := by decide +kernel
theorem dJ9_max_f86c9_1 : decode cJ9_max_f86c9 1 = .ok (.lload_n 2, 1) := by decide +kernel
theorem dJ9_max_f86c9_2 : decode cJ9_max_f86c9 2 = .ok (.lcmp, 1) := by decide +kernel
theorem dJ9_max_f86c9_3 : decode cJ9_max_f86c9 3 = .ok (.ifCond .lt 7, 3) := by decide +kernel
theorem dJ9_max_f86c9_6 : decode cJ9_max_f86c9 6 = .ok (.lload_n 0, 1) := by decide +kernel
theorem dJ9_max_f86c9_7 : decode cJ9_max_f86c9 7 = .ok (.goto 4, 3) := by decide +kernel
theorem dJ9_max_f86c9_10 : decode cJ9_max_f86c9 10 = .ok (.lload_n 2, 1) := by decide +kernel
theorem dJ9_max_f86c9_11 : decode cJ9_max_f86c9 11 = .ok (.lreturn, 1) := by decide +kernel
theorem dJ9_min_7cf53_0 : decode cJ9_min_7cf53 0 = .ok (.iload_n 0, 1) := by decide +kernel
theorem dJ9_min_7cf53_1 : decode cJ9_min_7cf53 1 = .ok (.iload_n 1, 1) := by decide +kernel
theorem dJ9_min_7cf53_2 : decode cJ9_min_7cf53 2 = .ok (.if_icmp .gt 7, 3) := by decide +kernel
theorem dJ9_min_7cf53_5 : decode cJ9_min_7cf53 5 = .ok (.iload_n 0, 1) := by decide +kernel
theorem dJ9_min_7cf53_6 : decode cJ9_min_7cf53 6 = .ok (.goto 4, 3) := by decide +kernel
theorem dJ9_min_7cf53_9 : decode cJ9_min_7cf53 9 = .ok (.iload_n 1, 1) := by decide +kernel
theorem dJ9_min_7cf53_10 : decode cJ9_min_7cf53 10 = .ok (.ireturn, 1) := by decide +kernel
theorem dJ7_fill_53178_0 : decode cJ7_fill_53178 0 = .ok (.iconst 0, 1) := by decide +kernel
theorem dJ7_fill_53178_1 : decode cJ7_fill_53178 1 = .ok (.istore_n 2, 1) := by decide +kernel
theorem dJ7_fill_53178_2 : decode cJ7_fill_53178 2 = .ok (.aload_n 0, 1) := by decide +kernel
theorem dJ7_fill_53178_3 : decode cJ7_fill_53178 3 = .ok (.arraylength, 1) := by decide +kernel
theorem dJ7_fill_53178_4 : decode cJ7_fill_53178 4 = .ok (.istore_n 3, 1) := by decide +kernel
theorem dJ7_fill_53178_5 : decode cJ7_fill_53178 5 = .ok (.iload_n 2, 1) := by decide +kernel
theorem dJ7_fill_53178_6 : decode cJ7_fill_53178 6 = .ok (.iload_n 3, 1) := by decide +kernel
theorem dJ7_fill_53178_7 : decode cJ7_fill_53178 7 = .ok (.if_icmp .ge 13, 3) := by decide +kernel
theorem dJ7_fill_53178_10 : decode cJ7_fill_53178 10 = .ok (.aload_n 0, 1) := by decide +kernel
theorem dJ7_fill_53178_11 : decode cJ7_fill_53178 11 = .ok (.iload_n 2, 1) := by decide +kernel
theorem dJ7_fill_53178_12 : decode cJ7_fill_53178 12 = .ok (.iload_n 1, 1) := by decide +kernel
theorem dJ7_fill_53178_13 : decode cJ7_fill_53178 13 = .ok (.iastore, 1) := by decide +kernel
theorem dJ7_fill_53178_14 : decode cJ7_fill_53178 14 = .ok (.iinc 2 1, 3) := by decide +kernel
theorem dJ7_fill_53178_17 : decode cJ7_fill_53178 17 = .ok (.goto (-12), 3) := by decide +kernel
theorem dJ7_fill_53178_20 : decode cJ7_fill_53178 20 = .ok (.return_, 1) := by decide +kernel
