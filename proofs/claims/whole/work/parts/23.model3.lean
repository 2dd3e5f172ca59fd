theorem dX10_laysBeliefs_0 : decode cX10_laysBeliefs 0 = .ok (.iconst 1, 1) := by decide +kernel
theorem dX10_laysBeliefs_1 : decode cX10_laysBeliefs 1 = .ok (.istore_n 2, 1) := by decide +kernel
theorem dX10_laysBeliefs_2 : decode cX10_laysBeliefs 2 = .ok (.iconst 0, 1) := by decide +kernel
theorem dX10_laysBeliefs_3 : decode cX10_laysBeliefs 3 = .ok (.istore_n 3, 1) := by decide +kernel
theorem dX10_laysBeliefs_4 : decode cX10_laysBeliefs 4 = .ok (.iload_n 3, 1) := by decide +kernel
theorem dX10_laysBeliefs_5 : decode cX10_laysBeliefs 5 = .ok (.aload_n 0, 1) := by decide +kernel
theorem dX10_laysBeliefs_6 : decode cX10_laysBeliefs 6 = .ok (.getfield 23, 3) := by decide +kernel
theorem dX10_laysBeliefs_9 : decode cX10_laysBeliefs 9 = .ok (.iconst 0, 1) := by decide +kernel
theorem dX10_laysBeliefs_10 : decode cX10_laysBeliefs 10 = .ok (.iaload, 1) := by decide +kernel
theorem dX10_laysBeliefs_11 : decode cX10_laysBeliefs 11 = .ok (.if_icmp .ge 40, 3) := by decide +kernel
theorem dX10_laysBeliefs_14 : decode cX10_laysBeliefs 14 = .ok (.iload_n 2, 1) := by decide +kernel
theorem dX10_laysBeliefs_15 : decode cX10_laysBeliefs 15 = .ok (.aload_n 0, 1) := by decide +kernel
theorem dX10_laysBeliefs_16 : decode cX10_laysBeliefs 16 = .ok (.getfield 29, 3) := by decide +kernel
theorem dX10_laysBeliefs_19 : decode cX10_laysBeliefs 19 = .ok (.iload_n 3, 1) := by decide +kernel
theorem dX10_laysBeliefs_20 : decode cX10_laysBeliefs 20 = .ok (.iaload, 1) := by decide +kernel
theorem dX10_laysBeliefs_21 : decode cX10_laysBeliefs 21 = .ok (.imul, 1) := by decide +kernel
theorem dX10_laysBeliefs_22 : decode cX10_laysBeliefs 22 = .ok (.istore_n 2, 1) := by decide +kernel
theorem dX10_laysBeliefs_23 : decode cX10_laysBeliefs 23 = .ok (.aload_n 0, 1) := by decide +kernel
theorem dX10_laysBeliefs_24 : decode cX10_laysBeliefs 24 = .ok (.getfield 115, 3) := by decide +kernel
theorem dX10_laysBeliefs_27 : decode cX10_laysBeliefs 27 = .ok (.iload_n 3, 1) := by decide +kernel
theorem dX10_laysBeliefs_28 : decode cX10_laysBeliefs 28 = .ok (.aload_n 0, 1) := by decide +kernel
theorem dX10_laysBeliefs_29 : decode cX10_laysBeliefs 29 = .ok (.getfield 49, 3) := by decide +kernel
theorem dX10_laysBeliefs_32 : decode cX10_laysBeliefs 32 = .ok (.iload_n 1, 1) := by decide +kernel
theorem dX10_laysBeliefs_33 : decode cX10_laysBeliefs 33 = .ok (.aaload, 1) := by decide +kernel
theorem dX10_laysBeliefs_34 : decode cX10_laysBeliefs 34 = .ok (.iload_n 3, 1) := by decide +kernel
theorem dX10_laysBeliefs_35 : decode cX10_laysBeliefs 35 = .ok (.iaload, 1) := by decide +kernel
theorem dX10_laysBeliefs_36 : decode cX10_laysBeliefs 36 = .ok (.iastore, 1) := by decide +kernel
theorem dX10_laysBeliefs_37 : decode cX10_laysBeliefs 37 = .ok (.aload_n 0, 1) := by decide +kernel
theorem dX10_laysBeliefs_38 : decode cX10_laysBeliefs 38 = .ok (.getfield 118, 3) := by decide +kernel
theorem dX10_laysBeliefs_41 : decode cX10_laysBeliefs 41 = .ok (.iload_n 3, 1) := by decide +kernel
theorem dX10_laysBeliefs_42 : decode cX10_laysBeliefs 42 = .ok (.bipush (-9), 2) := by decide +kernel
theorem dX10_laysBeliefs_44 : decode cX10_laysBeliefs 44 = .ok (.iastore, 1) := by decide +kernel
theorem dX10_laysBeliefs_45 : decode cX10_laysBeliefs 45 = .ok (.iinc 3 1, 3) := by decide +kernel
theorem dX10_laysBeliefs_48 : decode cX10_laysBeliefs 48 = .ok (.goto (-44), 3) := by decide +kernel
theorem dX10_laysBeliefs_51 : decode cX10_laysBeliefs 51 = .ok (.aload_n 0, 1) := by decide +kernel
theorem dX10_laysBeliefs_52 : decode cX10_laysBeliefs 52 = .ok (.iconst 0, 1) := by decide +kernel
theorem dX10_laysBeliefs_53 : decode cX10_laysBeliefs 53 = .ok (.putfield 388, 3) := by decide +kernel
theorem dX10_laysBeliefs_56 : decode cX10_laysBeliefs 56 = .ok (.aload_n 0, 1) := by decide +kernel
theorem dX10_laysBeliefs_57 : decode cX10_laysBeliefs 57 = .ok (.iconst (-1), 1) := by decide +kernel
theorem dX10_laysBeliefs_58 : decode cX10_laysBeliefs 58 = .ok (.putfield 391, 3) := by decide +kernel
theorem dX10_laysBeliefs_61 : decode cX10_laysBeliefs 61 = .ok (.iconst 0, 1) := by decide +kernel
theorem dX10_laysBeliefs_62 : decode cX10_laysBeliefs 62 = .ok (.istore_n 3, 1) := by decide +kernel
theorem dX10_laysBeliefs_63 : decode cX10_laysBeliefs 63 = .ok (.iload_n 3, 1) := by decide +kernel
theorem dX10_laysBeliefs_64 : decode cX10_laysBeliefs 64 = .ok (.iload_n 2, 1) := by decide +kernel
theorem dX10_laysBeliefs_65 : decode cX10_laysBeliefs 65 = .ok (.if_icmp .ge 209, 3) := by decide +kernel
theorem dX10_laysBeliefs_68 : decode cX10_laysBeliefs 68 = .ok (.iload_n 3, 1) := by decide +kernel
theorem dX10_laysBeliefs_69 : decode cX10_laysBeliefs 69 = .ok (.istore 4, 2) := by decide +kernel
theorem dX10_laysBeliefs_71 : decode cX10_laysBeliefs 71 = .ok (.iconst 0, 1) := by decide +kernel
theorem dX10_laysBeliefs_72 : decode cX10_laysBeliefs 72 = .ok (.istore 5, 2) := by decide +kernel
theorem dX10_laysBeliefs_74 : decode cX10_laysBeliefs 74 = .ok (.iconst 1, 1) := by decide +kernel
theorem dX10_laysBeliefs_75 : decode cX10_laysBeliefs 75 = .ok (.istore 6, 2) := by decide +kernel
theorem dX10_laysBeliefs_77 : decode cX10_laysBeliefs 77 = .ok (.aload_n 0, 1) := by decide +kernel
theorem dX10_laysBeliefs_78 : decode cX10_laysBeliefs 78 = .ok (.getfield 23, 3) := by decide +kernel
theorem dX10_laysBeliefs_81 : decode cX10_laysBeliefs 81 = .ok (.iconst 0, 1) := by decide +kernel
theorem dX10_laysBeliefs_82 : decode cX10_laysBeliefs 82 = .ok (.iaload, 1) := by decide +kernel
theorem dX10_laysBeliefs_83 : decode cX10_laysBeliefs 83 = .ok (.iconst 1, 1) := by decide +kernel
theorem dX10_laysBeliefs_84 : decode cX10_laysBeliefs 84 = .ok (.isub, 1) := by decide +kernel
theorem dX10_laysBeliefs_85 : decode cX10_laysBeliefs 85 = .ok (.istore 7, 2) := by decide +kernel
theorem dX10_laysBeliefs_87 : decode cX10_laysBeliefs 87 = .ok (.iload 7, 2) := by decide +kernel
theorem dX10_laysBeliefs_89 : decode cX10_laysBeliefs 89 = .ok (.ifCond .lt 64, 3) := by decide +kernel
theorem dX10_laysBeliefs_92 : decode cX10_laysBeliefs 92 = .ok (.aload_n 0, 1) := by decide +kernel
theorem dX10_laysBeliefs_93 : decode cX10_laysBeliefs 93 = .ok (.getfield 49, 3) := by decide +kernel
theorem dX10_laysBeliefs_96 : decode cX10_laysBeliefs 96 = .ok (.iload_n 1, 1) := by decide +kernel
theorem dX10_laysBeliefs_97 : decode cX10_laysBeliefs 97 = .ok (.aaload, 1) := by decide +kernel
theorem dX10_laysBeliefs_98 : decode cX10_laysBeliefs 98 = .ok (.iload 7, 2) := by decide +kernel
theorem dX10_laysBeliefs_100 : decode cX10_laysBeliefs 100 = .ok (.iload 4, 2) := by decide +kernel
theorem dX10_laysBeliefs_102 : decode cX10_laysBeliefs 102 = .ok (.aload_n 0, 1) := by decide +kernel
theorem dX10_laysBeliefs_103 : decode cX10_laysBeliefs 103 = .ok (.getfield 29, 3) := by decide +kernel
theorem dX10_laysBeliefs_106 : decode cX10_laysBeliefs 106 = .ok (.iload 7, 2) := by decide +kernel
theorem dX10_laysBeliefs_108 : decode cX10_laysBeliefs 108 = .ok (.iaload, 1) := by decide +kernel
theorem dX10_laysBeliefs_109 : decode cX10_laysBeliefs 109 = .ok (.irem, 1) := by decide +kernel
theorem dX10_laysBeliefs_110 : decode cX10_laysBeliefs 110 = .ok (.iastore, 1) := by decide +kernel
theorem dX10_laysBeliefs_111 : decode cX10_laysBeliefs 111 = .ok (.iload 4, 2) := by decide +kernel
theorem dX10_laysBeliefs_113 : decode cX10_laysBeliefs 113 = .ok (.aload_n 0, 1) := by decide +kernel
theorem dX10_laysBeliefs_114 : decode cX10_laysBeliefs 114 = .ok (.getfield 29, 3) := by decide +kernel
theorem dX10_laysBeliefs_117 : decode cX10_laysBeliefs 117 = .ok (.iload 7, 2) := by decide +kernel
theorem dX10_laysBeliefs_119 : decode cX10_laysBeliefs 119 = .ok (.iaload, 1) := by decide +kernel
theorem dX10_laysBeliefs_120 : decode cX10_laysBeliefs 120 = .ok (.idiv, 1) := by decide +kernel
theorem dX10_laysBeliefs_121 : decode cX10_laysBeliefs 121 = .ok (.istore 4, 2) := by decide +kernel
theorem dX10_laysBeliefs_123 : decode cX10_laysBeliefs 123 = .ok (.iload 5, 2) := by decide +kernel
theorem dX10_laysBeliefs_125 : decode cX10_laysBeliefs 125 = .ok (.iload 6, 2) := by decide +kernel
theorem dX10_laysBeliefs_127 : decode cX10_laysBeliefs 127 = .ok (.aload_n 0, 1) := by decide +kernel
theorem dX10_laysBeliefs_128 : decode cX10_laysBeliefs 128 = .ok (.getfield 49, 3) := by decide +kernel
theorem dX10_laysBeliefs_131 : decode cX10_laysBeliefs 131 = .ok (.iload_n 1, 1) := by decide +kernel
theorem dX10_laysBeliefs_132 : decode cX10_laysBeliefs 132 = .ok (.aaload, 1) := by decide +kernel
theorem dX10_laysBeliefs_133 : decode cX10_laysBeliefs 133 = .ok (.iload 7, 2) := by decide +kernel
theorem dX10_laysBeliefs_135 : decode cX10_laysBeliefs 135 = .ok (.iaload, 1) := by decide +kernel
theorem dX10_laysBeliefs_136 : decode cX10_laysBeliefs 136 = .ok (.imul, 1) := by decide +kernel
theorem dX10_laysBeliefs_137 : decode cX10_laysBeliefs 137 = .ok (.iadd, 1) := by decide +kernel
theorem dX10_laysBeliefs_138 : decode cX10_laysBeliefs 138 = .ok (.istore 5, 2) := by decide +kernel
theorem dX10_laysBeliefs_140 : decode cX10_laysBeliefs 140 = .ok (.iload 6, 2) := by decide +kernel
theorem dX10_laysBeliefs_142 : decode cX10_laysBeliefs 142 = .ok (.bipush 10, 2) := by decide +kernel
theorem dX10_laysBeliefs_144 : decode cX10_laysBeliefs 144 = .ok (.imul, 1) := by decide +kernel
theorem dX10_laysBeliefs_145 : decode cX10_laysBeliefs 145 = .ok (.istore 6, 2) := by decide +kernel
theorem dX10_laysBeliefs_147 : decode cX10_laysBeliefs 147 = .ok (.iinc 7 (-1), 3) := by decide +kernel
theorem dX10_laysBeliefs_150 : decode cX10_laysBeliefs 150 = .ok (.goto (-63), 3) := by decide +kernel
theorem dX10_laysBeliefs_153 : decode cX10_laysBeliefs 153 = .ok (.aload_n 0, 1) := by decide +kernel
theorem dX10_laysBeliefs_154 : decode cX10_laysBeliefs 154 = .ok (.invokevirtual 385, 3) := by decide +kernel
theorem dX10_laysBeliefs_157 : decode cX10_laysBeliefs 157 = .ok (.aload_n 0, 1) := by decide +kernel
theorem dX10_laysBeliefs_158 : decode cX10_laysBeliefs 158 = .ok (.getfield 244, 3) := by decide +kernel
theorem dX10_laysBeliefs_161 : decode cX10_laysBeliefs 161 = .ok (.if_icmp .ge 6, 3) := by decide +kernel
theorem dX10_laysBeliefs_164 : decode cX10_laysBeliefs 164 = .ok (.goto 104, 3) := by decide +kernel
theorem dX10_laysBeliefs_167 : decode cX10_laysBeliefs 167 = .ok (.aload_n 0, 1) := by decide +kernel
theorem dX10_laysBeliefs_168 : decode cX10_laysBeliefs 168 = .ok (.aload_n 0, 1) := by decide +kernel
theorem dX10_laysBeliefs_169 : decode cX10_laysBeliefs 169 = .ok (.getfield 388, 3) := by decide +kernel
theorem dX10_laysBeliefs_172 : decode cX10_laysBeliefs 172 = .ok (.ifCond .ne 8, 3) := by decide +kernel
theorem dX10_laysBeliefs_175 : decode cX10_laysBeliefs 175 = .ok (.iload 5, 2) := by decide +kernel
theorem dX10_laysBeliefs_177 : decode cX10_laysBeliefs 177 = .ok (.goto 7, 3) := by decide +kernel
theorem dX10_laysBeliefs_180 : decode cX10_laysBeliefs 180 = .ok (.aload_n 0, 1) := by decide +kernel
theorem dX10_laysBeliefs_181 : decode cX10_laysBeliefs 181 = .ok (.getfield 391, 3) := by decide +kernel
theorem dX10_laysBeliefs_184 : decode cX10_laysBeliefs 184 = .ok (.putfield 391, 3) := by decide +kernel
theorem dX10_laysBeliefs_187 : decode cX10_laysBeliefs 187 = .ok (.aload_n 0, 1) := by decide +kernel
theorem dX10_laysBeliefs_188 : decode cX10_laysBeliefs 188 = .ok (.dup, 1) := by decide +kernel
theorem dX10_laysBeliefs_189 : decode cX10_laysBeliefs 189 = .ok (.getfield 388, 3) := by decide +kernel
theorem dX10_laysBeliefs_192 : decode cX10_laysBeliefs 192 = .ok (.iconst 1, 1) := by decide +kernel
theorem dX10_laysBeliefs_193 : decode cX10_laysBeliefs 193 = .ok (.iadd, 1) := by decide +kernel
theorem dX10_laysBeliefs_194 : decode cX10_laysBeliefs 194 = .ok (.putfield 388, 3) := by decide +kernel
theorem dX10_laysBeliefs_197 : decode cX10_laysBeliefs 197 = .ok (.iconst 0, 1) := by decide +kernel
theorem dX10_laysBeliefs_198 : decode cX10_laysBeliefs 198 = .ok (.istore 7, 2) := by decide +kernel
theorem dX10_laysBeliefs_200 : decode cX10_laysBeliefs 200 = .ok (.iload 7, 2) := by decide +kernel
theorem dX10_laysBeliefs_202 : decode cX10_laysBeliefs 202 = .ok (.aload_n 0, 1) := by decide +kernel
theorem dX10_laysBeliefs_203 : decode cX10_laysBeliefs 203 = .ok (.getfield 23, 3) := by decide +kernel
theorem dX10_laysBeliefs_206 : decode cX10_laysBeliefs 206 = .ok (.iconst 0, 1) := by decide +kernel
theorem dX10_laysBeliefs_207 : decode cX10_laysBeliefs 207 = .ok (.iaload, 1) := by decide +kernel
theorem dX10_laysBeliefs_208 : decode cX10_laysBeliefs 208 = .ok (.if_icmp .ge 60, 3) := by decide +kernel
theorem dX10_laysBeliefs_211 : decode cX10_laysBeliefs 211 = .ok (.aload_n 0, 1) := by decide +kernel
theorem dX10_laysBeliefs_212 : decode cX10_laysBeliefs 212 = .ok (.getfield 118, 3) := by decide +kernel
theorem dX10_laysBeliefs_215 : decode cX10_laysBeliefs 215 = .ok (.iload 7, 2) := by decide +kernel
theorem dX10_laysBeliefs_217 : decode cX10_laysBeliefs 217 = .ok (.aload_n 0, 1) := by decide +kernel
theorem dX10_laysBeliefs_218 : decode cX10_laysBeliefs 218 = .ok (.getfield 118, 3) := by decide +kernel
theorem dX10_laysBeliefs_221 : decode cX10_laysBeliefs 221 = .ok (.iload 7, 2) := by decide +kernel
theorem dX10_laysBeliefs_223 : decode cX10_laysBeliefs 223 = .ok (.iaload, 1) := by decide +kernel
theorem dX10_laysBeliefs_224 : decode cX10_laysBeliefs 224 = .ok (.bipush (-9), 2) := by decide +kernel
theorem dX10_laysBeliefs_226 : decode cX10_laysBeliefs 226 = .ok (.if_icmp .eq 22, 3) := by decide +kernel
theorem dX10_laysBeliefs_229 : decode cX10_laysBeliefs 229 = .ok (.aload_n 0, 1) := by decide +kernel
theorem dX10_laysBeliefs_230 : decode cX10_laysBeliefs 230 = .ok (.getfield 118, 3) := by decide +kernel
theorem dX10_laysBeliefs_233 : decode cX10_laysBeliefs 233 = .ok (.iload 7, 2) := by decide +kernel
theorem dX10_laysBeliefs_235 : decode cX10_laysBeliefs 235 = .ok (.iaload, 1) := by decide +kernel
theorem dX10_laysBeliefs_236 : decode cX10_laysBeliefs 236 = .ok (.aload_n 0, 1) := by decide +kernel
theorem dX10_laysBeliefs_237 : decode cX10_laysBeliefs 237 = .ok (.getfield 49, 3) := by decide +kernel
theorem dX10_laysBeliefs_240 : decode cX10_laysBeliefs 240 = .ok (.iload_n 1, 1) := by decide +kernel
theorem dX10_laysBeliefs_241 : decode cX10_laysBeliefs 241 = .ok (.aaload, 1) := by decide +kernel
theorem dX10_laysBeliefs_242 : decode cX10_laysBeliefs 242 = .ok (.iload 7, 2) := by decide +kernel
theorem dX10_laysBeliefs_244 : decode cX10_laysBeliefs 244 = .ok (.iaload, 1) := by decide +kernel
theorem dX10_laysBeliefs_245 : decode cX10_laysBeliefs 245 = .ok (.if_icmp .ne 15, 3) := by decide +kernel
theorem dX10_laysBeliefs_248 : decode cX10_laysBeliefs 248 = .ok (.aload_n 0, 1) := by decide +kernel
theorem dX10_laysBeliefs_249 : decode cX10_laysBeliefs 249 = .ok (.getfield 49, 3) := by decide +kernel
theorem dX10_laysBeliefs_252 : decode cX10_laysBeliefs 252 = .ok (.iload_n 1, 1) := by decide +kernel
theorem dX10_laysBeliefs_253 : decode cX10_laysBeliefs 253 = .ok (.aaload, 1) := by decide +kernel
theorem dX10_laysBeliefs_254 : decode cX10_laysBeliefs 254 = .ok (.iload 7, 2) := by decide +kernel
theorem dX10_laysBeliefs_256 : decode cX10_laysBeliefs 256 = .ok (.iaload, 1) := by decide +kernel
theorem dX10_laysBeliefs_257 : decode cX10_laysBeliefs 257 = .ok (.goto 4, 3) := by decide +kernel
theorem dX10_laysBeliefs_260 : decode cX10_laysBeliefs 260 = .ok (.iconst (-1), 1) := by decide +kernel
theorem dX10_laysBeliefs_261 : decode cX10_laysBeliefs 261 = .ok (.iastore, 1) := by decide +kernel
theorem dX10_laysBeliefs_262 : decode cX10_laysBeliefs 262 = .ok (.iinc 7 1, 3) := by decide +kernel
theorem dX10_laysBeliefs_265 : decode cX10_laysBeliefs 265 = .ok (.goto (-65), 3) := by decide +kernel
theorem dX10_laysBeliefs_268 : decode cX10_laysBeliefs 268 = .ok (.iinc 3 1, 3) := by decide +kernel
theorem dX10_laysBeliefs_271 : decode cX10_laysBeliefs 271 = .ok (.goto (-208), 3) := by decide +kernel
theorem dX10_laysBeliefs_274 : decode cX10_laysBeliefs 274 = .ok (.iconst 0, 1) := by decide +kernel
theorem dX10_laysBeliefs_275 : decode cX10_laysBeliefs 275 = .ok (.istore_n 3, 1) := by decide +kernel
theorem dX10_laysBeliefs_276 : decode cX10_laysBeliefs 276 = .ok (.iload_n 3, 1) := by decide +kernel
theorem dX10_laysBeliefs_277 : decode cX10_laysBeliefs 277 = .ok (.aload_n 0, 1) := by decide +kernel
theorem dX10_laysBeliefs_278 : decode cX10_laysBeliefs 278 = .ok (.getfield 23, 3) := by decide +kernel
theorem dX10_laysBeliefs_281 : decode cX10_laysBeliefs 281 = .ok (.iconst 0, 1) := by decide +kernel
theorem dX10_laysBeliefs_282 : decode cX10_laysBeliefs 282 = .ok (.iaload, 1) := by decide +kernel
theorem dX10_laysBeliefs_283 : decode cX10_laysBeliefs 283 = .ok (.if_icmp .ge 23, 3) := by decide +kernel
theorem dX10_laysBeliefs_286 : decode cX10_laysBeliefs 286 = .ok (.aload_n 0, 1) := by decide +kernel
theorem dX10_laysBeliefs_287 : decode cX10_laysBeliefs 287 = .ok (.getfield 49, 3) := by decide +kernel
theorem dX10_laysBeliefs_290 : decode cX10_laysBeliefs 290 = .ok (.iload_n 1, 1) := by decide +kernel
theorem dX10_laysBeliefs_291 : decode cX10_laysBeliefs 291 = .ok (.aaload, 1) := by decide +kernel
theorem dX10_laysBeliefs_292 : decode cX10_laysBeliefs 292 = .ok (.iload_n 3, 1) := by decide +kernel
theorem dX10_laysBeliefs_293 : decode cX10_laysBeliefs 293 = .ok (.aload_n 0, 1) := by decide +kernel
theorem dX10_laysBeliefs_294 : decode cX10_laysBeliefs 294 = .ok (.getfield 115, 3) := by decide +kernel
theorem dX10_laysBeliefs_297 : decode cX10_laysBeliefs 297 = .ok (.iload_n 3, 1) := by decide +kernel
theorem dX10_laysBeliefs_298 : decode cX10_laysBeliefs 298 = .ok (.iaload, 1) := by decide +kernel
theorem dX10_laysBeliefs_299 : decode cX10_laysBeliefs 299 = .ok (.iastore, 1) := by decide +kernel
theorem dX10_laysBeliefs_300 : decode cX10_laysBeliefs 300 = .ok (.iinc 3 1, 3) := by decide +kernel
theorem dX10_laysBeliefs_303 : decode cX10_laysBeliefs 303 = .ok (.goto (-27), 3) := by decide +kernel
theorem dX10_laysBeliefs_306 : decode cX10_laysBeliefs 306 = .ok (.return_, 1) := by decide +kernel
def fX10_laysBeliefs_200 (K63 : Nat → Int32 → Int32 → Int32 → zV → Option zV) : Nat → Nat → Int32 → Int32 → Int32 → Int32 → zV → Option zV
  | 0 => fun _ _ _ _ _ _ => none
  | n + 1 => fun x0 x1 x2 x3 x7 v =>
    zix (0 : Int32) (zlen (zrf x0 12)) <|
    if (v (zrf x0 12) ((0 : Int32)).toNatClampNeg) ≤ x7 then
      K63 x0 x1 x2 (x3 + (1 : Int32)) v
    else
      zix x7 (zlen (zrf x0 56)) <|
      if (v (zrf x0 56) (x7).toNatClampNeg) = (-9 : Int32) then
        zix x1 (zlen (zrf x0 20)) <|
        zix x7 (zlen (zrf (zrf x0 20) (x1).toNatClampNeg)) <|
        zix x7 (zlen (zrf x0 56)) <|
        zlet (zup v (zrf x0 56) (x7).toNatClampNeg (v (zrf (zrf x0 20) (x1).toNatClampNeg) (x7).toNatClampNeg)) fun v_1 =>
        (fX10_laysBeliefs_200 K63 n) x0 x1 x2 x3 (x7 + (1 : Int32)) v_1
      else
        zix x7 (zlen (zrf x0 56)) <|
        zix x1 (zlen (zrf x0 20)) <|
        zix x7 (zlen (zrf (zrf x0 20) (x1).toNatClampNeg)) <|
        if (v (zrf x0 56) (x7).toNatClampNeg) = (v (zrf (zrf x0 20) (x1).toNatClampNeg) (x7).toNatClampNeg) then
          zix x1 (zlen (zrf x0 20)) <|
          zix x7 (zlen (zrf (zrf x0 20) (x1).toNatClampNeg)) <|
          zix x7 (zlen (zrf x0 56)) <|
          zlet (zup v (zrf x0 56) (x7).toNatClampNeg (v (zrf (zrf x0 20) (x1).toNatClampNeg) (x7).toNatClampNeg)) fun v_3 =>
          (fX10_laysBeliefs_200 K63 n) x0 x1 x2 x3 (x7 + (1 : Int32)) v_3
        else
          zix x7 (zlen (zrf x0 56)) <|
          zlet (zup v (zrf x0 56) (x7).toNatClampNeg (-1 : Int32)) fun v_2 =>
          (fX10_laysBeliefs_200 K63 n) x0 x1 x2 x3 (x7 + (1 : Int32)) v_2
set_option maxRecDepth 4000 in
theorem jX10_laysBeliefs_200 (x : zCx) (G : zG) (F : zF x G cX10_laysBeliefs 8 RX10 8 238) (hr : x.2.2.2.2.2.2.2.2.1.sig.returnType = (Option.none : Option FieldType)) (hk : x.2.2.2.2.2.2.2.2.1.locks = false) (w : zV) (K63 : Nat → Int32 → Int32 → Int32 → zV → Option zV) (hK63 : ∀ (x0 : Nat) (t0 : zty G x0 1 10) (x1 : Int32) (x2 : Int32) (x3 : Int32) (v : zV), K63 x0 x1 x2 x3 v = some w → zJ x G 8 (zQ x G none w 0 0) 0 0 63 [(0, zr G x0), (1, .int x1), (2, .int x2), (3, .int x3)] [] v) : ∀ (n : Nat) (x0 : Nat) (t0 : zty G x0 1 10) (x1 : Int32) (x2 : Int32) (x3 : Int32) (x7 : Int32) (v : zV), fX10_laysBeliefs_200 K63 n x0 x1 x2 x3 x7 v = some w → zJ x G 8 (zQ x G none w 0 0) 0 0 200 [(0, zr G x0), (1, .int x1), (2, .int x2), (3, .int x3), (7, .int x7)] [] v := by
  intro n
  induction n with
  | zero => intro x0 t0 x1 x2 x3 x7 v h; exact absurd h (by intro q; cases q)
  | succ n ih =>
    intro x0 t0 x1 x2 x3 x7 v h
    rw [fX10_laysBeliefs_200] at h
    dsimp only at h
    refine z_iload F dX10_laysBeliefs_200 4 rfl ?_
    refine z_aload_n F dX10_laysBeliefs_202 rfl 0 rfl ?_
    refine zg_10_12 F t0 wF_X10_23 dX10_laysBeliefs_203 ?_
    refine z_iconst (y := (0 : Int32)) F dX10_laysBeliefs_206 rfl ?_
    obtain ⟨hi207, h⟩ := zix_ex h
    refine z_iald F (zt_f tc_10_12 t0) dX10_laysBeliefs_207 hi207 ?_
    refine z_icmp_ge F 268 dX10_laysBeliefs_208 rfl (fun hc => ?_) (fun hc => ?_)
    · replace h := zif_t hc h
      refine z_iinc F [(3, .int (x3 + (1 : Int32))), (0, zr G x0), (1, .int x1), (2, .int x2), (7, .int x7)] dX10_laysBeliefs_268 3 rfl rfl (Nat.le_of_ble_eq_true rfl) rfl ?_
      refine z_goto F 63 dX10_laysBeliefs_271 rfl ?_
      refine z_ls [(0, zr G x0), (1, .int x1), (2, .int x2), (3, .int (x3 + (1 : Int32)))] [1, 2, 3, 0] rfl ?_
      exact hK63 x0 t0 x1 x2 (x3 + (1 : Int32)) v h
    · replace h := zif_f hc h
      refine z_aload_n F dX10_laysBeliefs_211 rfl 0 rfl ?_
      refine zg_10_56 F t0 wF_X10_118 dX10_laysBeliefs_212 ?_
      refine z_iload F dX10_laysBeliefs_215 4 rfl ?_
      refine z_aload_n F dX10_laysBeliefs_217 rfl 0 rfl ?_
      refine zg_10_56 F t0 wF_X10_118 dX10_laysBeliefs_218 ?_
      refine z_iload F dX10_laysBeliefs_221 4 rfl ?_
      obtain ⟨hi223, h⟩ := zix_ex h
      refine z_iald F (zt_f tc_10_56 t0) dX10_laysBeliefs_223 hi223 ?_
      refine z_bipush (y := (-9 : Int32)) F dX10_laysBeliefs_224 rfl ?_
      refine z_icmp_eq F 248 dX10_laysBeliefs_226 rfl (fun hc => ?_) (fun hc => ?_)
      · replace h := zif_t hc h
        refine z_aload_n F dX10_laysBeliefs_248 rfl 0 rfl ?_
        refine zg_10_20 F t0 wF_X10_49 dX10_laysBeliefs_249 ?_
        refine z_iload_n F dX10_laysBeliefs_252 rfl 1 rfl ?_
        obtain ⟨hi253, h⟩ := zix_ex h
        refine z_aald3 F (zt_f tc_10_20 t0) dX10_laysBeliefs_253 hi253 ?_
        refine z_iload F dX10_laysBeliefs_254 4 rfl ?_
        obtain ⟨hi256, h⟩ := zix_ex h
        refine z_iald F (zt_a tcA_3 (zt_f tc_10_20 t0) (zin_lt hi253)) dX10_laysBeliefs_256 hi256 ?_
        refine z_goto F 261 dX10_laysBeliefs_257 rfl ?_
        obtain ⟨hi261, h⟩ := zix_ex h
        refine z_iast F (zt_f tc_10_56 t0) dX10_laysBeliefs_261 hi261 ?_
        obtain ⟨v_1, ev_1, h⟩ := zlet_ex h
        refine z_heap ev_1 ?_
        refine z_iinc F [(7, .int (x7 + (1 : Int32))), (0, zr G x0), (1, .int x1), (2, .int x2), (3, .int x3)] dX10_laysBeliefs_262 4 rfl rfl (Nat.le_of_ble_eq_true rfl) rfl ?_
        refine z_goto F 200 dX10_laysBeliefs_265 rfl ?_
        refine z_ls [(0, zr G x0), (1, .int x1), (2, .int x2), (3, .int x3), (7, .int (x7 + (1 : Int32)))] [1, 2, 3, 4, 0] rfl ?_
        exact ih x0 t0 x1 x2 x3 (x7 + (1 : Int32)) v_1 h
      · replace h := zif_f hc h
        refine z_aload_n F dX10_laysBeliefs_229 rfl 0 rfl ?_
        refine zg_10_56 F t0 wF_X10_118 dX10_laysBeliefs_230 ?_
        refine z_iload F dX10_laysBeliefs_233 4 rfl ?_
        obtain ⟨hi235, h⟩ := zix_ex h
        refine z_iald F (zt_f tc_10_56 t0) dX10_laysBeliefs_235 hi235 ?_
        refine z_aload_n F dX10_laysBeliefs_236 rfl 0 rfl ?_
        refine zg_10_20 F t0 wF_X10_49 dX10_laysBeliefs_237 ?_
        refine z_iload_n F dX10_laysBeliefs_240 rfl 1 rfl ?_
        obtain ⟨hi241, h⟩ := zix_ex h
        refine z_aald3 F (zt_f tc_10_20 t0) dX10_laysBeliefs_241 hi241 ?_
        refine z_iload F dX10_laysBeliefs_242 4 rfl ?_
        obtain ⟨hi244, h⟩ := zix_ex h
        refine z_iald F (zt_a tcA_3 (zt_f tc_10_20 t0) (zin_lt hi241)) dX10_laysBeliefs_244 hi244 ?_
        refine z_icmp_ne F 260 dX10_laysBeliefs_245 rfl (fun hc => ?_) (fun hc => ?_)
        · replace h := zif_f hc h
          refine z_iconst (y := (-1 : Int32)) F dX10_laysBeliefs_260 rfl ?_
          obtain ⟨hi261, h⟩ := zix_ex h
          refine z_iast F (zt_f tc_10_56 t0) dX10_laysBeliefs_261 hi261 ?_
          obtain ⟨v_2, ev_2, h⟩ := zlet_ex h
          refine z_heap ev_2 ?_
          refine z_iinc F [(7, .int (x7 + (1 : Int32))), (0, zr G x0), (1, .int x1), (2, .int x2), (3, .int x3)] dX10_laysBeliefs_262 4 rfl rfl (Nat.le_of_ble_eq_true rfl) rfl ?_
          refine z_goto F 200 dX10_laysBeliefs_265 rfl ?_
          refine z_ls [(0, zr G x0), (1, .int x1), (2, .int x2), (3, .int x3), (7, .int (x7 + (1 : Int32)))] [1, 2, 3, 4, 0] rfl ?_
          exact ih x0 t0 x1 x2 x3 (x7 + (1 : Int32)) v_2 h
        · replace h := zif_t hc h
          refine z_aload_n F dX10_laysBeliefs_248 rfl 0 rfl ?_
          refine zg_10_20 F t0 wF_X10_49 dX10_laysBeliefs_249 ?_
          refine z_iload_n F dX10_laysBeliefs_252 rfl 1 rfl ?_
          obtain ⟨hi253, h⟩ := zix_ex h
          refine z_aald3 F (zt_f tc_10_20 t0) dX10_laysBeliefs_253 hi253 ?_
          refine z_iload F dX10_laysBeliefs_254 4 rfl ?_
          obtain ⟨hi256, h⟩ := zix_ex h
          refine z_iald F (zt_a tcA_3 (zt_f tc_10_20 t0) (zin_lt hi253)) dX10_laysBeliefs_256 hi256 ?_
          refine z_goto F 261 dX10_laysBeliefs_257 rfl ?_
          obtain ⟨hi261, h⟩ := zix_ex h
          refine z_iast F (zt_f tc_10_56 t0) dX10_laysBeliefs_261 hi261 ?_
          obtain ⟨v_3, ev_3, h⟩ := zlet_ex h
          refine z_heap ev_3 ?_
          refine z_iinc F [(7, .int (x7 + (1 : Int32))), (0, zr G x0), (1, .int x1), (2, .int x2), (3, .int x3)] dX10_laysBeliefs_262 4 rfl rfl (Nat.le_of_ble_eq_true rfl) rfl ?_
          refine z_goto F 200 dX10_laysBeliefs_265 rfl ?_
          refine z_ls [(0, zr G x0), (1, .int x1), (2, .int x2), (3, .int x3), (7, .int (x7 + (1 : Int32)))] [1, 2, 3, 4, 0] rfl ?_
          exact ih x0 t0 x1 x2 x3 (x7 + (1 : Int32)) v_3 h

def fX10_laysBeliefs_153 (K63 : Nat → Int32 → Int32 → Int32 → zV → Option zV) (x0 : Nat) (x1 : Int32) (x2 : Int32) (x3 : Int32) (x5 : Int32) (v : zV) : Option zV :=
  zbind (fX10_rightLines x0 v) fun r_2 v_1 =>
  if (v_1 x0 40) ≤ r_2 then
    if (v_1 x0 57) = (0 : Int32) then
      zlet (zup v_1 x0 58 x5) fun v_5 =>
      zlet (zup v_5 x0 57 ((v_5 x0 57) + (1 : Int32))) fun v_6 =>
      fX10_laysBeliefs_200 K63 zFU x0 x1 x2 x3 (0 : Int32) v_6
    else
      zlet (zup v_1 x0 58 (v_1 x0 58)) fun v_3 =>
      zlet (zup v_3 x0 57 ((v_3 x0 57) + (1 : Int32))) fun v_4 =>
      fX10_laysBeliefs_200 K63 zFU x0 x1 x2 x3 (0 : Int32) v_4
  else
    K63 x0 x1 x2 (x3 + (1 : Int32)) v_1
set_option maxRecDepth 4000 in
theorem jX10_laysBeliefs_153 (x : zCx) (G : zG) (F : zF x G cX10_laysBeliefs 8 RX10 8 238) (hr : x.2.2.2.2.2.2.2.2.1.sig.returnType = (Option.none : Option FieldType)) (hk : x.2.2.2.2.2.2.2.2.1.locks = false) (w : zV) (K63 : Nat → Int32 → Int32 → Int32 → zV → Option zV) (hK63 : ∀ (x0 : Nat) (t0 : zty G x0 1 10) (x1 : Int32) (x2 : Int32) (x3 : Int32) (v : zV), K63 x0 x1 x2 x3 v = some w → zJ x G 8 (zQ x G none w 0 0) 0 0 63 [(0, zr G x0), (1, .int x1), (2, .int x2), (3, .int x3)] [] v) : ∀ (x0 : Nat) (t0 : zty G x0 1 10) (x1 : Int32) (x2 : Int32) (x3 : Int32) (x5 : Int32) (v : zV), fX10_laysBeliefs_153 K63 x0 x1 x2 x3 x5 v = some w → zJ x G 8 (zQ x G none w 0 0) 0 0 153 [(0, zr G x0), (1, .int x1), (2, .int x2), (3, .int x3), (5, .int x5)] [] v := by
  intro x0 t0 x1 x2 x3 x5 v h
  unfold fX10_laysBeliefs_153 at h
  refine z_aload_n F dX10_laysBeliefs_153 rfl 0 rfl ?_
  obtain ⟨r_2, v_1, hq154, h⟩ := zbind_ex h
  refine z_callVi F [] [] (kX10_rightLines x.2.1 G x0 t0 v r_2 v_1 hq154) mI_X10_rightLines (c := 10) rfl t0 wM_X10_385 mi_X10_rightLines sl_X10_rightLines dX10_laysBeliefs_154 rfl ⟨Nat.le_of_ble_eq_true rfl, Nat.le_of_ble_eq_true rfl⟩ rfl (Nat.le_of_ble_eq_true rfl) ⟨Nat.zero_le _, Nat.zero_le _⟩ ?_
  refine z_aload_n F dX10_laysBeliefs_157 rfl 0 rfl ?_
  refine zg_10_40 F t0 wF_X10_244 dX10_laysBeliefs_158 ?_
  refine z_icmp_ge F 167 dX10_laysBeliefs_161 rfl (fun hc => ?_) (fun hc => ?_)
  · replace h := zif_t hc h
    refine z_aload_n F dX10_laysBeliefs_167 rfl 0 rfl ?_
    refine z_aload_n F dX10_laysBeliefs_168 rfl 0 rfl ?_
    refine zg_10_57 F t0 wF_X10_388 dX10_laysBeliefs_169 ?_
    refine z_if_ne F 180 dX10_laysBeliefs_172 rfl (fun hc => ?_) (fun hc => ?_)
    · replace h := zif_f hc h
      refine z_aload_n F dX10_laysBeliefs_180 rfl 0 rfl ?_
      refine zg_10_58 F t0 wF_X10_391 dX10_laysBeliefs_181 ?_
      refine zp_10_58 F t0 wF_X10_391 dX10_laysBeliefs_184 ?_
      obtain ⟨v_3, ev_3, h⟩ := zlet_ex h
      refine z_heap ev_3 ?_
      refine z_aload_n F dX10_laysBeliefs_187 rfl 0 rfl ?_
      refine z_dup F dX10_laysBeliefs_188 rfl ?_
      refine zg_10_57 F t0 wF_X10_388 dX10_laysBeliefs_189 ?_
      refine z_iconst (y := (1 : Int32)) F dX10_laysBeliefs_192 rfl ?_
      refine z_iadd F dX10_laysBeliefs_193 ?_
      refine zp_10_57 F t0 wF_X10_388 dX10_laysBeliefs_194 ?_
      obtain ⟨v_4, ev_4, h⟩ := zlet_ex h
      refine z_heap ev_4 ?_
      refine z_iconst (y := (0 : Int32)) F dX10_laysBeliefs_197 rfl ?_
      refine z_istore (n := 0) F [(7, .int (0 : Int32)), (0, zr G x0), (1, .int x1), (2, .int x2), (3, .int x3), (5, .int x5)] dX10_laysBeliefs_198 (Nat.le_of_ble_eq_true rfl) rfl ?_
      refine z_ls [(0, zr G x0), (1, .int x1), (2, .int x2), (3, .int x3), (7, .int (0 : Int32))] [1, 2, 3, 4, 0] rfl ?_
      exact jX10_laysBeliefs_200 x G F hr hk w K63 hK63 zFU x0 t0 x1 x2 x3 (0 : Int32) v_4 h
    · replace h := zif_t hc h
      refine z_iload F dX10_laysBeliefs_175 4 rfl ?_
      refine z_goto F 184 dX10_laysBeliefs_177 rfl ?_
      refine zp_10_58 F t0 wF_X10_391 dX10_laysBeliefs_184 ?_
      obtain ⟨v_5, ev_5, h⟩ := zlet_ex h
      refine z_heap ev_5 ?_
      refine z_aload_n F dX10_laysBeliefs_187 rfl 0 rfl ?_
      refine z_dup F dX10_laysBeliefs_188 rfl ?_
      refine zg_10_57 F t0 wF_X10_388 dX10_laysBeliefs_189 ?_
      refine z_iconst (y := (1 : Int32)) F dX10_laysBeliefs_192 rfl ?_
      refine z_iadd F dX10_laysBeliefs_193 ?_
      refine zp_10_57 F t0 wF_X10_388 dX10_laysBeliefs_194 ?_
      obtain ⟨v_6, ev_6, h⟩ := zlet_ex h
      refine z_heap ev_6 ?_
      refine z_iconst (y := (0 : Int32)) F dX10_laysBeliefs_197 rfl ?_
      refine z_istore (n := 0) F [(7, .int (0 : Int32)), (0, zr G x0), (1, .int x1), (2, .int x2), (3, .int x3), (5, .int x5)] dX10_laysBeliefs_198 (Nat.le_of_ble_eq_true rfl) rfl ?_
      refine z_ls [(0, zr G x0), (1, .int x1), (2, .int x2), (3, .int x3), (7, .int (0 : Int32))] [1, 2, 3, 4, 0] rfl ?_
      exact jX10_laysBeliefs_200 x G F hr hk w K63 hK63 zFU x0 t0 x1 x2 x3 (0 : Int32) v_6 h
  · replace h := zif_f hc h
    refine z_goto F 268 dX10_laysBeliefs_164 rfl ?_
    refine z_iinc F [(3, .int (x3 + (1 : Int32))), (0, zr G x0), (1, .int x1), (2, .int x2), (5, .int x5)] dX10_laysBeliefs_268 3 rfl rfl (Nat.le_of_ble_eq_true rfl) rfl ?_
    refine z_goto F 63 dX10_laysBeliefs_271 rfl ?_
    refine z_ls [(0, zr G x0), (1, .int x1), (2, .int x2), (3, .int (x3 + (1 : Int32)))] [1, 2, 3, 0] rfl ?_
    exact hK63 x0 t0 x1 x2 (x3 + (1 : Int32)) v_1 h

def fX10_laysBeliefs_87 (K63 : Nat → Int32 → Int32 → Int32 → zV → Option zV) : Nat → Nat → Int32 → Int32 → Int32 → Int32 → Int32 → Int32 → Int32 → zV → Option zV
  | 0 => fun _ _ _ _ _ _ _ _ _ => none
  | n + 1 => fun x0 x1 x2 x3 x4 x5 x6 x7 v =>
    if x7 < (0 : Int32) then
      fX10_laysBeliefs_153 K63 x0 x1 x2 x3 x5 v
    else
      zix x1 (zlen (zrf x0 20)) <|
      zix x7 (zlen (zrf x0 14)) <|
      znz (v (zrf x0 14) (x7).toNatClampNeg) <|
      zix x7 (zlen (zrf (zrf x0 20) (x1).toNatClampNeg)) <|
      zlet (zup v (zrf (zrf x0 20) (x1).toNatClampNeg) (x7).toNatClampNeg (x4 - x4 / (v (zrf x0 14) (x7).toNatClampNeg) * (v (zrf x0 14) (x7).toNatClampNeg))) fun v_1 =>
      zix x7 (zlen (zrf x0 14)) <|
      znz (v_1 (zrf x0 14) (x7).toNatClampNeg) <|
      zix x1 (zlen (zrf x0 20)) <|
      zix x7 (zlen (zrf (zrf x0 20) (x1).toNatClampNeg)) <|
      zlet (x5 + (x6 * (v_1 (zrf (zrf x0 20) (x1).toNatClampNeg) (x7).toNatClampNeg))) fun y_2 =>
      (fX10_laysBeliefs_87 K63 n) x0 x1 x2 x3 (x4 / (v_1 (zrf x0 14) (x7).toNatClampNeg)) y_2 (x6 * (10 : Int32)) (x7 + (-1 : Int32)) v_1
set_option maxRecDepth 4000 in
theorem jX10_laysBeliefs_87 (x : zCx) (G : zG) (F : zF x G cX10_laysBeliefs 8 RX10 8 238) (hr : x.2.2.2.2.2.2.2.2.1.sig.returnType = (Option.none : Option FieldType)) (hk : x.2.2.2.2.2.2.2.2.1.locks = false) (w : zV) (K63 : Nat → Int32 → Int32 → Int32 → zV → Option zV) (hK63 : ∀ (x0 : Nat) (t0 : zty G x0 1 10) (x1 : Int32) (x2 : Int32) (x3 : Int32) (v : zV), K63 x0 x1 x2 x3 v = some w → zJ x G 8 (zQ x G none w 0 0) 0 0 63 [(0, zr G x0), (1, .int x1), (2, .int x2), (3, .int x3)] [] v) : ∀ (n : Nat) (x0 : Nat) (t0 : zty G x0 1 10) (x1 : Int32) (x2 : Int32) (x3 : Int32) (x4 : Int32) (x5 : Int32) (x6 : Int32) (x7 : Int32) (v : zV), fX10_laysBeliefs_87 K63 n x0 x1 x2 x3 x4 x5 x6 x7 v = some w → zJ x G 8 (zQ x G none w 0 0) 0 0 87 [(0, zr G x0), (1, .int x1), (2, .int x2), (3, .int x3), (4, .int x4), (5, .int x5), (6, .int x6), (7, .int x7)] [] v := by
  intro n
  induction n with
  | zero => intro x0 t0 x1 x2 x3 x4 x5 x6 x7 v h; exact absurd h (by intro q; cases q)
  | succ n ih =>
    intro x0 t0 x1 x2 x3 x4 x5 x6 x7 v h
    rw [fX10_laysBeliefs_87] at h
    dsimp only at h
    refine z_iload F dX10_laysBeliefs_87 7 rfl ?_
    refine z_if_lt F 153 dX10_laysBeliefs_89 rfl (fun hc => ?_) (fun hc => ?_)
    · replace h := zif_t hc h
      refine z_ls [(0, zr G x0), (1, .int x1), (2, .int x2), (3, .int x3), (5, .int x5)] [0, 1, 2, 3, 5] rfl ?_
      exact jX10_laysBeliefs_153 x G F hr hk w K63 hK63 x0 t0 x1 x2 x3 x5 v h
    · replace h := zif_f hc h
      refine z_aload_n F dX10_laysBeliefs_92 rfl 0 rfl ?_
      refine zg_10_20 F t0 wF_X10_49 dX10_laysBeliefs_93 ?_
      refine z_iload_n F dX10_laysBeliefs_96 rfl 1 rfl ?_
      obtain ⟨hi97, h⟩ := zix_ex h
      refine z_aald3 F (zt_f tc_10_20 t0) dX10_laysBeliefs_97 hi97 ?_
      refine z_iload F dX10_laysBeliefs_98 7 rfl ?_
      refine z_iload F dX10_laysBeliefs_100 4 rfl ?_
      refine z_aload_n F dX10_laysBeliefs_102 rfl 0 rfl ?_
      refine zg_10_14 F t0 wF_X10_29 dX10_laysBeliefs_103 ?_
      refine z_iload F dX10_laysBeliefs_106 7 rfl ?_
      obtain ⟨hi108, h⟩ := zix_ex h
      refine z_iald F (zt_f tc_10_14 t0) dX10_laysBeliefs_108 hi108 ?_
      obtain ⟨hz109, h⟩ := znz_ex h
      refine z_irem F dX10_laysBeliefs_109 hz109 ?_
      obtain ⟨hi110, h⟩ := zix_ex h
      refine z_iast F (zt_a tcA_3 (zt_f tc_10_20 t0) (zin_lt hi97)) dX10_laysBeliefs_110 hi110 ?_
      obtain ⟨v_1, ev_1, h⟩ := zlet_ex h
      refine z_heap ev_1 ?_
      refine z_iload F dX10_laysBeliefs_111 4 rfl ?_
      refine z_aload_n F dX10_laysBeliefs_113 rfl 0 rfl ?_
      refine zg_10_14 F t0 wF_X10_29 dX10_laysBeliefs_114 ?_
      refine z_iload F dX10_laysBeliefs_117 7 rfl ?_
      obtain ⟨hi119, h⟩ := zix_ex h
      refine z_iald F (zt_f tc_10_14 t0) dX10_laysBeliefs_119 hi119 ?_
      obtain ⟨hz120, h⟩ := znz_ex h
      refine z_idiv F dX10_laysBeliefs_120 hz120 ?_
      refine z_istore (n := 0) F [(4, .int (x4 / (v_1 (zrf x0 14) (x7).toNatClampNeg))), (0, zr G x0), (1, .int x1), (2, .int x2), (3, .int x3), (5, .int x5), (6, .int x6), (7, .int x7)] dX10_laysBeliefs_121 (Nat.le_of_ble_eq_true rfl) rfl ?_
      refine z_iload F dX10_laysBeliefs_123 5 rfl ?_
      refine z_iload F dX10_laysBeliefs_125 6 rfl ?_
      refine z_aload_n F dX10_laysBeliefs_127 rfl 1 rfl ?_
      refine zg_10_20 F t0 wF_X10_49 dX10_laysBeliefs_128 ?_
      refine z_iload_n F dX10_laysBeliefs_131 rfl 2 rfl ?_
      obtain ⟨hi132, h⟩ := zix_ex h
      refine z_aald3 F (zt_f tc_10_20 t0) dX10_laysBeliefs_132 hi132 ?_
      refine z_iload F dX10_laysBeliefs_133 7 rfl ?_
      obtain ⟨hi135, h⟩ := zix_ex h
      refine z_iald F (zt_a tcA_3 (zt_f tc_10_20 t0) (zin_lt hi132)) dX10_laysBeliefs_135 hi135 ?_
      refine z_imul F dX10_laysBeliefs_136 ?_
      refine z_iadd F dX10_laysBeliefs_137 ?_
      obtain ⟨y_2, ey_2, h⟩ := zlet_ex h
      refine z_topi ey_2 ?_
      refine z_istore (n := 0) F [(5, .int y_2), (4, .int (x4 / (v_1 (zrf x0 14) (x7).toNatClampNeg))), (0, zr G x0), (1, .int x1), (2, .int x2), (3, .int x3), (6, .int x6), (7, .int x7)] dX10_laysBeliefs_138 (Nat.le_of_ble_eq_true rfl) rfl ?_
      refine z_iload F dX10_laysBeliefs_140 6 rfl ?_
      refine z_bipush (y := (10 : Int32)) F dX10_laysBeliefs_142 rfl ?_
      refine z_imul F dX10_laysBeliefs_144 ?_
      refine z_istore (n := 0) F [(6, .int (x6 * (10 : Int32))), (5, .int y_2), (4, .int (x4 / (v_1 (zrf x0 14) (x7).toNatClampNeg))), (0, zr G x0), (1, .int x1), (2, .int x2), (3, .int x3), (7, .int x7)] dX10_laysBeliefs_145 (Nat.le_of_ble_eq_true rfl) rfl ?_
      refine z_iinc F [(7, .int (x7 + (-1 : Int32))), (6, .int (x6 * (10 : Int32))), (5, .int y_2), (4, .int (x4 / (v_1 (zrf x0 14) (x7).toNatClampNeg))), (0, zr G x0), (1, .int x1), (2, .int x2), (3, .int x3)] dX10_laysBeliefs_147 7 rfl rfl (Nat.le_of_ble_eq_true rfl) rfl ?_
      refine z_goto F 87 dX10_laysBeliefs_150 rfl ?_
      refine z_ls [(0, zr G x0), (1, .int x1), (2, .int x2), (3, .int x3), (4, .int (x4 / (v_1 (zrf x0 14) (x7).toNatClampNeg))), (5, .int y_2), (6, .int (x6 * (10 : Int32))), (7, .int (x7 + (-1 : Int32)))] [4, 5, 6, 7, 3, 2, 1, 0] rfl ?_
      exact ih x0 t0 x1 x2 x3 (x4 / (v_1 (zrf x0 14) (x7).toNatClampNeg)) y_2 (x6 * (10 : Int32)) (x7 + (-1 : Int32)) v_1 h

def fX10_laysBeliefs_276  : Nat → Nat → Int32 → Int32 → zV → Option zV
  | 0 => fun _ _ _ _ => none
  | n + 1 => fun x0 x1 x3 v =>
    zix (0 : Int32) (zlen (zrf x0 12)) <|
    if (v (zrf x0 12) ((0 : Int32)).toNatClampNeg) ≤ x3 then
      some v
    else
      zix x1 (zlen (zrf x0 20)) <|
      zix x3 (zlen (zrf x0 55)) <|
      zix x3 (zlen (zrf (zrf x0 20) (x1).toNatClampNeg)) <|
      zlet (zup v (zrf (zrf x0 20) (x1).toNatClampNeg) (x3).toNatClampNeg (v (zrf x0 55) (x3).toNatClampNeg)) fun v_1 =>
      (fX10_laysBeliefs_276 n) x0 x1 (x3 + (1 : Int32)) v_1
set_option maxRecDepth 4000 in
theorem jX10_laysBeliefs_276 (x : zCx) (G : zG) (F : zF x G cX10_laysBeliefs 8 RX10 8 238) (hr : x.2.2.2.2.2.2.2.2.1.sig.returnType = (Option.none : Option FieldType)) (hk : x.2.2.2.2.2.2.2.2.1.locks = false) (w : zV)  : ∀ (n : Nat) (x0 : Nat) (t0 : zty G x0 1 10) (x1 : Int32) (x3 : Int32) (v : zV), fX10_laysBeliefs_276 n x0 x1 x3 v = some w → zJ x G 8 (zQ x G none w 0 0) 0 0 276 [(0, zr G x0), (1, .int x1), (3, .int x3)] [] v := by
  intro n
  induction n with
  | zero => intro x0 t0 x1 x3 v h; exact absurd h (by intro q; cases q)
  | succ n ih =>
    intro x0 t0 x1 x3 v h
    rw [fX10_laysBeliefs_276] at h
    dsimp only at h
    refine z_iload_n F dX10_laysBeliefs_276 rfl 2 rfl ?_
    refine z_aload_n F dX10_laysBeliefs_277 rfl 0 rfl ?_
    refine zg_10_12 F t0 wF_X10_23 dX10_laysBeliefs_278 ?_
    refine z_iconst (y := (0 : Int32)) F dX10_laysBeliefs_281 rfl ?_
    obtain ⟨hi282, h⟩ := zix_ex h
    refine z_iald F (zt_f tc_10_12 t0) dX10_laysBeliefs_282 hi282 ?_
    refine z_icmp_ge F 306 dX10_laysBeliefs_283 rfl (fun hc => ?_) (fun hc => ?_)
    · replace h := zif_t hc h
      cases h
      exact z_retv F hr hk dX10_laysBeliefs_306
    · replace h := zif_f hc h
      refine z_aload_n F dX10_laysBeliefs_286 rfl 0 rfl ?_
      refine zg_10_20 F t0 wF_X10_49 dX10_laysBeliefs_287 ?_
      refine z_iload_n F dX10_laysBeliefs_290 rfl 1 rfl ?_
      obtain ⟨hi291, h⟩ := zix_ex h
      refine z_aald3 F (zt_f tc_10_20 t0) dX10_laysBeliefs_291 hi291 ?_
      refine z_iload_n F dX10_laysBeliefs_292 rfl 2 rfl ?_
      refine z_aload_n F dX10_laysBeliefs_293 rfl 0 rfl ?_
      refine zg_10_55 F t0 wF_X10_115 dX10_laysBeliefs_294 ?_
      refine z_iload_n F dX10_laysBeliefs_297 rfl 2 rfl ?_
      obtain ⟨hi298, h⟩ := zix_ex h
      refine z_iald F (zt_f tc_10_55 t0) dX10_laysBeliefs_298 hi298 ?_
      obtain ⟨hi299, h⟩ := zix_ex h
      refine z_iast F (zt_a tcA_3 (zt_f tc_10_20 t0) (zin_lt hi291)) dX10_laysBeliefs_299 hi299 ?_
      obtain ⟨v_1, ev_1, h⟩ := zlet_ex h
      refine z_heap ev_1 ?_
      refine z_iinc F [(3, .int (x3 + (1 : Int32))), (0, zr G x0), (1, .int x1)] dX10_laysBeliefs_300 2 rfl rfl (Nat.le_of_ble_eq_true rfl) rfl ?_
      refine z_goto F 276 dX10_laysBeliefs_303 rfl ?_
      refine z_ls [(0, zr G x0), (1, .int x1), (3, .int (x3 + (1 : Int32)))] [1, 2, 0] rfl ?_
      exact ih x0 t0 x1 (x3 + (1 : Int32)) v_1 h

def fX10_laysBeliefs_63  : Nat → Nat → Int32 → Int32 → Int32 → zV → Option zV
  | 0 => fun _ _ _ _ _ => none
  | n + 1 => fun x0 x1 x2 x3 v =>
    if x2 ≤ x3 then
      fX10_laysBeliefs_276  zFU x0 x1 (0 : Int32) v
    else
      zix (0 : Int32) (zlen (zrf x0 12)) <|
      fX10_laysBeliefs_87 (fX10_laysBeliefs_63 n) zFU x0 x1 x2 x3 x3 (0 : Int32) (1 : Int32) ((v (zrf x0 12) ((0 : Int32)).toNatClampNeg) - (1 : Int32)) v
set_option maxRecDepth 4000 in
theorem jX10_laysBeliefs_63 (x : zCx) (G : zG) (F : zF x G cX10_laysBeliefs 8 RX10 8 238) (hr : x.2.2.2.2.2.2.2.2.1.sig.returnType = (Option.none : Option FieldType)) (hk : x.2.2.2.2.2.2.2.2.1.locks = false) (w : zV)  : ∀ (n : Nat) (x0 : Nat) (t0 : zty G x0 1 10) (x1 : Int32) (x2 : Int32) (x3 : Int32) (v : zV), fX10_laysBeliefs_63 n x0 x1 x2 x3 v = some w → zJ x G 8 (zQ x G none w 0 0) 0 0 63 [(0, zr G x0), (1, .int x1), (2, .int x2), (3, .int x3)] [] v := by
  intro n
  induction n with
  | zero => intro x0 t0 x1 x2 x3 v h; exact absurd h (by intro q; cases q)
  | succ n ih =>
    intro x0 t0 x1 x2 x3 v h
    rw [fX10_laysBeliefs_63] at h
    dsimp only at h
    refine z_iload_n F dX10_laysBeliefs_63 rfl 3 rfl ?_
    refine z_iload_n F dX10_laysBeliefs_64 rfl 2 rfl ?_
    refine z_icmp_ge F 274 dX10_laysBeliefs_65 rfl (fun hc => ?_) (fun hc => ?_)
    · replace h := zif_t hc h
      refine z_iconst (y := (0 : Int32)) F dX10_laysBeliefs_274 rfl ?_
      refine z_istore_n F [(3, .int (0 : Int32)), (0, zr G x0), (1, .int x1), (2, .int x2)] dX10_laysBeliefs_275 rfl (Nat.le_of_ble_eq_true rfl) rfl ?_
      refine z_ls [(0, zr G x0), (1, .int x1), (3, .int (0 : Int32))] [1, 2, 0] rfl ?_
      exact jX10_laysBeliefs_276 x G F hr hk w   zFU x0 t0 x1 (0 : Int32) v h
    · replace h := zif_f hc h
      refine z_iload_n F dX10_laysBeliefs_68 rfl 3 rfl ?_
      refine z_istore (n := 0) F [(4, .int x3), (0, zr G x0), (1, .int x1), (2, .int x2), (3, .int x3)] dX10_laysBeliefs_69 (Nat.le_of_ble_eq_true rfl) rfl ?_
      refine z_iconst (y := (0 : Int32)) F dX10_laysBeliefs_71 rfl ?_
      refine z_istore (n := 0) F [(5, .int (0 : Int32)), (4, .int x3), (0, zr G x0), (1, .int x1), (2, .int x2), (3, .int x3)] dX10_laysBeliefs_72 (Nat.le_of_ble_eq_true rfl) rfl ?_
      refine z_iconst (y := (1 : Int32)) F dX10_laysBeliefs_74 rfl ?_
      refine z_istore (n := 0) F [(6, .int (1 : Int32)), (5, .int (0 : Int32)), (4, .int x3), (0, zr G x0), (1, .int x1), (2, .int x2), (3, .int x3)] dX10_laysBeliefs_75 (Nat.le_of_ble_eq_true rfl) rfl ?_
      refine z_aload_n F dX10_laysBeliefs_77 rfl 3 rfl ?_
      refine zg_10_12 F t0 wF_X10_23 dX10_laysBeliefs_78 ?_
      refine z_iconst (y := (0 : Int32)) F dX10_laysBeliefs_81 rfl ?_
      obtain ⟨hi82, h⟩ := zix_ex h
      refine z_iald F (zt_f tc_10_12 t0) dX10_laysBeliefs_82 hi82 ?_
      refine z_iconst (y := (1 : Int32)) F dX10_laysBeliefs_83 rfl ?_
      refine z_isub F dX10_laysBeliefs_84 ?_
      refine z_istore (n := 0) F [(7, .int ((v (zrf x0 12) ((0 : Int32)).toNatClampNeg) - (1 : Int32))), (6, .int (1 : Int32)), (5, .int (0 : Int32)), (4, .int x3), (0, zr G x0), (1, .int x1), (2, .int x2), (3, .int x3)] dX10_laysBeliefs_85 (Nat.le_of_ble_eq_true rfl) rfl ?_
      refine z_ls [(0, zr G x0), (1, .int x1), (2, .int x2), (3, .int x3), (4, .int x3), (5, .int (0 : Int32)), (6, .int (1 : Int32)), (7, .int ((v (zrf x0 12) ((0 : Int32)).toNatClampNeg) - (1 : Int32)))] [4, 5, 6, 7, 3, 2, 1, 0] rfl ?_
      exact jX10_laysBeliefs_87 x G F hr hk w (fX10_laysBeliefs_63 n) ih zFU x0 t0 x1 x2 x3 x3 (0 : Int32) (1 : Int32) ((v (zrf x0 12) ((0 : Int32)).toNatClampNeg) - (1 : Int32)) v h

def fX10_laysBeliefs_4  : Nat → Nat → Int32 → Int32 → Int32 → zV → Option zV
  | 0 => fun _ _ _ _ _ => none
  | n + 1 => fun x0 x1 x2 x3 v =>
    zix (0 : Int32) (zlen (zrf x0 12)) <|
    if (v (zrf x0 12) ((0 : Int32)).toNatClampNeg) ≤ x3 then
      zlet (zup v x0 57 (0 : Int32)) fun v_1 =>
      zlet (zup v_1 x0 58 (-1 : Int32)) fun v_2 =>
      fX10_laysBeliefs_63  zFU x0 x1 x2 (0 : Int32) v_2
    else
      zix x3 (zlen (zrf x0 14)) <|
      zix x1 (zlen (zrf x0 20)) <|
      zix x3 (zlen (zrf (zrf x0 20) (x1).toNatClampNeg)) <|
      zix x3 (zlen (zrf x0 55)) <|
      zlet (zup v (zrf x0 55) (x3).toNatClampNeg (v (zrf (zrf x0 20) (x1).toNatClampNeg) (x3).toNatClampNeg)) fun v_3 =>
      zix x3 (zlen (zrf x0 56)) <|
      zlet (zup v_3 (zrf x0 56) (x3).toNatClampNeg (-9 : Int32)) fun v_4 =>
      (fX10_laysBeliefs_4 n) x0 x1 (x2 * (v (zrf x0 14) (x3).toNatClampNeg)) (x3 + (1 : Int32)) v_4
set_option maxRecDepth 4000 in
theorem jX10_laysBeliefs_4 (x : zCx) (G : zG) (F : zF x G cX10_laysBeliefs 8 RX10 8 238) (hr : x.2.2.2.2.2.2.2.2.1.sig.returnType = (Option.none : Option FieldType)) (hk : x.2.2.2.2.2.2.2.2.1.locks = false) (w : zV)  : ∀ (n : Nat) (x0 : Nat) (t0 : zty G x0 1 10) (x1 : Int32) (x2 : Int32) (x3 : Int32) (v : zV), fX10_laysBeliefs_4 n x0 x1 x2 x3 v = some w → zJ x G 8 (zQ x G none w 0 0) 0 0 4 [(0, zr G x0), (1, .int x1), (2, .int x2), (3, .int x3)] [] v := by
  intro n
  induction n with
  | zero => intro x0 t0 x1 x2 x3 v h; exact absurd h (by intro q; cases q)
  | succ n ih =>
    intro x0 t0 x1 x2 x3 v h
    rw [fX10_laysBeliefs_4] at h
    dsimp only at h
    refine z_iload_n F dX10_laysBeliefs_4 rfl 3 rfl ?_
    refine z_aload_n F dX10_laysBeliefs_5 rfl 0 rfl ?_
    refine zg_10_12 F t0 wF_X10_23 dX10_laysBeliefs_6 ?_
    refine z_iconst (y := (0 : Int32)) F dX10_laysBeliefs_9 rfl ?_
    obtain ⟨hi10, h⟩ := zix_ex h
    refine z_iald F (zt_f tc_10_12 t0) dX10_laysBeliefs_10 hi10 ?_
    refine z_icmp_ge F 51 dX10_laysBeliefs_11 rfl (fun hc => ?_) (fun hc => ?_)
    · replace h := zif_t hc h
      refine z_aload_n F dX10_laysBeliefs_51 rfl 0 rfl ?_
      refine z_iconst (y := (0 : Int32)) F dX10_laysBeliefs_52 rfl ?_
      refine zp_10_57 F t0 wF_X10_388 dX10_laysBeliefs_53 ?_
      obtain ⟨v_1, ev_1, h⟩ := zlet_ex h
      refine z_heap ev_1 ?_
      refine z_aload_n F dX10_laysBeliefs_56 rfl 0 rfl ?_
      refine z_iconst (y := (-1 : Int32)) F dX10_laysBeliefs_57 rfl ?_
      refine zp_10_58 F t0 wF_X10_391 dX10_laysBeliefs_58 ?_
      obtain ⟨v_2, ev_2, h⟩ := zlet_ex h
      refine z_heap ev_2 ?_
      refine z_iconst (y := (0 : Int32)) F dX10_laysBeliefs_61 rfl ?_
      refine z_istore_n F [(3, .int (0 : Int32)), (0, zr G x0), (1, .int x1), (2, .int x2)] dX10_laysBeliefs_62 rfl (Nat.le_of_ble_eq_true rfl) rfl ?_
      refine z_ls [(0, zr G x0), (1, .int x1), (2, .int x2), (3, .int (0 : Int32))] [1, 2, 3, 0] rfl ?_
      exact jX10_laysBeliefs_63 x G F hr hk w   zFU x0 t0 x1 x2 (0 : Int32) v_2 h
    · replace h := zif_f hc h
      refine z_iload_n F dX10_laysBeliefs_14 rfl 2 rfl ?_
      refine z_aload_n F dX10_laysBeliefs_15 rfl 0 rfl ?_
      refine zg_10_14 F t0 wF_X10_29 dX10_laysBeliefs_16 ?_
      refine z_iload_n F dX10_laysBeliefs_19 rfl 3 rfl ?_
      obtain ⟨hi20, h⟩ := zix_ex h
      refine z_iald F (zt_f tc_10_14 t0) dX10_laysBeliefs_20 hi20 ?_
      refine z_imul F dX10_laysBeliefs_21 ?_
      refine z_istore_n F [(2, .int (x2 * (v (zrf x0 14) (x3).toNatClampNeg))), (0, zr G x0), (1, .int x1), (3, .int x3)] dX10_laysBeliefs_22 rfl (Nat.le_of_ble_eq_true rfl) rfl ?_
      refine z_aload_n F dX10_laysBeliefs_23 rfl 1 rfl ?_
      refine zg_10_55 F t0 wF_X10_115 dX10_laysBeliefs_24 ?_
      refine z_iload_n F dX10_laysBeliefs_27 rfl 3 rfl ?_
      refine z_aload_n F dX10_laysBeliefs_28 rfl 1 rfl ?_
      refine zg_10_20 F t0 wF_X10_49 dX10_laysBeliefs_29 ?_
      refine z_iload_n F dX10_laysBeliefs_32 rfl 2 rfl ?_
      obtain ⟨hi33, h⟩ := zix_ex h
      refine z_aald3 F (zt_f tc_10_20 t0) dX10_laysBeliefs_33 hi33 ?_
      refine z_iload_n F dX10_laysBeliefs_34 rfl 3 rfl ?_
      obtain ⟨hi35, h⟩ := zix_ex h
      refine z_iald F (zt_a tcA_3 (zt_f tc_10_20 t0) (zin_lt hi33)) dX10_laysBeliefs_35 hi35 ?_
      obtain ⟨hi36, h⟩ := zix_ex h
      refine z_iast F (zt_f tc_10_55 t0) dX10_laysBeliefs_36 hi36 ?_
      obtain ⟨v_3, ev_3, h⟩ := zlet_ex h
      refine z_heap ev_3 ?_
      refine z_aload_n F dX10_laysBeliefs_37 rfl 1 rfl ?_
      refine zg_10_56 F t0 wF_X10_118 dX10_laysBeliefs_38 ?_
      refine z_iload_n F dX10_laysBeliefs_41 rfl 3 rfl ?_
      refine z_bipush (y := (-9 : Int32)) F dX10_laysBeliefs_42 rfl ?_
      obtain ⟨hi44, h⟩ := zix_ex h
      refine z_iast F (zt_f tc_10_56 t0) dX10_laysBeliefs_44 hi44 ?_
      obtain ⟨v_4, ev_4, h⟩ := zlet_ex h
      refine z_heap ev_4 ?_
      refine z_iinc F [(3, .int (x3 + (1 : Int32))), (2, .int (x2 * (v (zrf x0 14) (x3).toNatClampNeg))), (0, zr G x0), (1, .int x1)] dX10_laysBeliefs_45 3 rfl rfl (Nat.le_of_ble_eq_true rfl) rfl ?_
      refine z_goto F 4 dX10_laysBeliefs_48 rfl ?_
      refine z_ls [(0, zr G x0), (1, .int x1), (2, .int (x2 * (v (zrf x0 14) (x3).toNatClampNeg))), (3, .int (x3 + (1 : Int32)))] [2, 3, 1, 0] rfl ?_
      exact ih x0 t0 x1 (x2 * (v (zrf x0 14) (x3).toNatClampNeg)) (x3 + (1 : Int32)) v_4 h

def fX10_laysBeliefs (x0 : Nat) (x1 : Int32) (v : zV) : Option zV :=
  fX10_laysBeliefs_4  zFU x0 x1 (1 : Int32) (0 : Int32) v
set_option maxRecDepth 4000 in
theorem kX10_laysBeliefs (l : Launch) (G : zG) (x0 : Nat) (t0 : zty G x0 1 10) (x1 : Int32) (v : zV) (w : zV) (h : fX10_laysBeliefs x0 x1 v = some w) : zMet l yX10_laysBeliefs cX10_laysBeliefs 8 (Option.none : Option FieldType) 8 238 0 0 [zr G x0, .int x1] G v none w := by
  refine zM_of (own := RX10) (by decide) rfl (Nat.le_of_ble_eq_true rfl) (fun x hl F hr hk hcs => ?_)
  subst hl
  refine z_ls [(0, zr G x0), (1, .int x1)] [0, 1] rfl ?_
  unfold fX10_laysBeliefs at h
  refine z_iconst (y := (1 : Int32)) F dX10_laysBeliefs_0 rfl ?_
  refine z_istore_n F [(2, .int (1 : Int32)), (0, zr G x0), (1, .int x1)] dX10_laysBeliefs_1 rfl (Nat.le_of_ble_eq_true rfl) rfl ?_
  refine z_iconst (y := (0 : Int32)) F dX10_laysBeliefs_2 rfl ?_
  refine z_istore_n F [(3, .int (0 : Int32)), (2, .int (1 : Int32)), (0, zr G x0), (1, .int x1)] dX10_laysBeliefs_3 rfl (Nat.le_of_ble_eq_true rfl) rfl ?_
  refine z_ls [(0, zr G x0), (1, .int x1), (2, .int (1 : Int32)), (3, .int (0 : Int32))] [2, 3, 1, 0] rfl ?_
  exact jX10_laysBeliefs_4 x G F hr hk w   zFU x0 t0 x1 (1 : Int32) (0 : Int32) v h

theorem dX10_beliefs_0 : decode cX10_beliefs 0 = .ok (.aload_n 0, 1) := by decide +kernel
theorem dX10_beliefs_1 : decode cX10_beliefs 1 = .ok (.iconst 0, 1) := by decide +kernel
theorem dX10_beliefs_2 : decode cX10_beliefs 2 = .ok (.putfield 134, 3) := by decide +kernel
theorem dX10_beliefs_5 : decode cX10_beliefs 5 = .ok (.aload_n 0, 1) := by decide +kernel
theorem dX10_beliefs_6 : decode cX10_beliefs 6 = .ok (.aload_n 0, 1) := by decide +kernel
theorem dX10_beliefs_7 : decode cX10_beliefs 7 = .ok (.iload_n 1, 1) := by decide +kernel
theorem dX10_beliefs_8 : decode cX10_beliefs 8 = .ok (.invokevirtual 298, 3) := by decide +kernel
theorem dX10_beliefs_11 : decode cX10_beliefs 11 = .ok (.ifCond .ne 7, 3) := by decide +kernel
theorem dX10_beliefs_14 : decode cX10_beliefs 14 = .ok (.iconst 1, 1) := by decide +kernel
theorem dX10_beliefs_15 : decode cX10_beliefs 15 = .ok (.goto 4, 3) := by decide +kernel
theorem dX10_beliefs_18 : decode cX10_beliefs 18 = .ok (.iconst 0, 1) := by decide +kernel
theorem dX10_beliefs_19 : decode cX10_beliefs 19 = .ok (.iconst 1, 1) := by decide +kernel
theorem dX10_beliefs_20 : decode cX10_beliefs 20 = .ok (.iconst 0, 1) := by decide +kernel
theorem dX10_beliefs_21 : decode cX10_beliefs 21 = .ok (.invokevirtual 220, 3) := by decide +kernel
theorem dX10_beliefs_24 : decode cX10_beliefs 24 = .ok (.ifCond .ne 26, 3) := by decide +kernel
theorem dX10_beliefs_27 : decode cX10_beliefs 27 = .ok (.aload_n 0, 1) := by decide +kernel
theorem dX10_beliefs_28 : decode cX10_beliefs 28 = .ok (.iload_n 2, 1) := by decide +kernel
theorem dX10_beliefs_29 : decode cX10_beliefs 29 = .ok (.iconst 0, 1) := by decide +kernel
theorem dX10_beliefs_30 : decode cX10_beliefs 30 = .ok (.iconst 1, 1) := by decide +kernel
theorem dX10_beliefs_31 : decode cX10_beliefs 31 = .ok (.invokestatic 168, 3) := by decide +kernel
theorem dX10_beliefs_34 : decode cX10_beliefs 34 = .ok (.ifCond .ne 7, 3) := by decide +kernel
theorem dX10_beliefs_37 : decode cX10_beliefs 37 = .ok (.iconst 1, 1) := by decide +kernel
theorem dX10_beliefs_38 : decode cX10_beliefs 38 = .ok (.goto 4, 3) := by decide +kernel
theorem dX10_beliefs_41 : decode cX10_beliefs 41 = .ok (.iconst 0, 1) := by decide +kernel
theorem dX10_beliefs_42 : decode cX10_beliefs 42 = .ok (.iconst 2, 1) := by decide +kernel
theorem dX10_beliefs_43 : decode cX10_beliefs 43 = .ok (.iconst 1, 1) := by decide +kernel
theorem dX10_beliefs_44 : decode cX10_beliefs 44 = .ok (.invokevirtual 220, 3) := by decide +kernel
theorem dX10_beliefs_47 : decode cX10_beliefs 47 = .ok (.ifCond .eq 5, 3) := by decide +kernel
theorem dX10_beliefs_50 : decode cX10_beliefs 50 = .ok (.iconst 0, 1) := by decide +kernel
theorem dX10_beliefs_51 : decode cX10_beliefs 51 = .ok (.ireturn, 1) := by decide +kernel
theorem dX10_beliefs_52 : decode cX10_beliefs 52 = .ok (.aload_n 0, 1) := by decide +kernel
theorem dX10_beliefs_53 : decode cX10_beliefs 53 = .ok (.iload_n 1, 1) := by decide +kernel
theorem dX10_beliefs_54 : decode cX10_beliefs 54 = .ok (.invokevirtual 394, 3) := by decide +kernel
theorem dX10_beliefs_57 : decode cX10_beliefs 57 = .ok (.iload_n 2, 1) := by decide +kernel
theorem dX10_beliefs_58 : decode cX10_beliefs 58 = .ok (.ifCond .ne 10, 3) := by decide +kernel
theorem dX10_beliefs_61 : decode cX10_beliefs 61 = .ok (.aload_n 0, 1) := by decide +kernel
theorem dX10_beliefs_62 : decode cX10_beliefs 62 = .ok (.getfield 388, 3) := by decide +kernel
theorem dX10_beliefs_65 : decode cX10_beliefs 65 = .ok (.goto 7, 3) := by decide +kernel
theorem dX10_beliefs_68 : decode cX10_beliefs 68 = .ok (.aload_n 0, 1) := by decide +kernel
theorem dX10_beliefs_69 : decode cX10_beliefs 69 = .ok (.getfield 391, 3) := by decide +kernel
theorem dX10_beliefs_72 : decode cX10_beliefs 72 = .ok (.ireturn, 1) := by decide +kernel
def fX10_beliefs_42  (x0 : Nat) (x1 : Int32) (x2 : Int32) (s0 : Nat) (s1 : Int32) (v : zV) : Option (Int32 × zV) :=
  zbind (fX10_bad s0 s1 (2 : Int32) (1 : Int32) v) fun r_2 v_1 =>
  if r_2 = (0 : Int32) then
    zbindv (fX10_laysBeliefs x0 x1 v_1) fun v_3 =>
    if x2 = (0 : Int32) then
      some (v_3 x0 57, v_3)
    else
      some (v_3 x0 58, v_3)
  else
    some ((0 : Int32), v_1)
set_option maxRecDepth 4000 in
theorem jX10_beliefs_42 (x : zCx) (G : zG) (F : zF x G cX10_beliefs 3 RX10 9 265) (hr : x.2.2.2.2.2.2.2.2.1.sig.returnType = (Option.some FieldType.int)) (hk : x.2.2.2.2.2.2.2.2.1.locks = false) (r : Int32) (w : zV)  : ∀ (x0 : Nat) (t0 : zty G x0 1 10) (x1 : Int32) (x2 : Int32) (s0 : Nat) (ts0 : zty G s0 1 10) (s1 : Int32) (v : zV), fX10_beliefs_42 x0 x1 x2 s0 s1 v = some (r, w) → zJ x G 3 (zQ x G (some (.int r)) w 0 0) 0 0 42 [(0, zr G x0), (1, .int x1), (2, .int x2)] [.int s1, zr G s0] v := by
  intro x0 t0 x1 x2 s0 ts0 s1 v h
  unfold fX10_beliefs_42 at h
  refine z_iconst (y := (2 : Int32)) F dX10_beliefs_42 rfl ?_
  refine z_iconst (y := (1 : Int32)) F dX10_beliefs_43 rfl ?_
  obtain ⟨r_2, v_1, hq44, h⟩ := zbind_ex h
  refine z_callVi F [.int s1, .int (2 : Int32), .int (1 : Int32)] [] (kX10_bad x.2.1 G s0 ts0 s1 (2 : Int32) (1 : Int32) v r_2 v_1 hq44) mI_X10_bad (c := 10) rfl ts0 wM_X10_220 mi_X10_bad sl_X10_bad dX10_beliefs_44 rfl ⟨Nat.le_of_ble_eq_true rfl, Nat.le_of_ble_eq_true rfl⟩ rfl (Nat.le_of_ble_eq_true rfl) ⟨Nat.zero_le _, Nat.zero_le _⟩ ?_
  refine z_if_eq F 52 dX10_beliefs_47 rfl (fun hc => ?_) (fun hc => ?_)
  · replace h := zif_t hc h
    refine z_aload_n F dX10_beliefs_52 rfl 0 rfl ?_
    refine z_iload_n F dX10_beliefs_53 rfl 1 rfl ?_
    obtain ⟨v_3, hq54, h⟩ := zbindv_ex h
    refine z_callVv F [.int x1] [] (kX10_laysBeliefs x.2.1 G x0 t0 x1 v_1 v_3 hq54) mI_X10_laysBeliefs (c := 10) rfl t0 wM_X10_394 mi_X10_laysBeliefs sl_X10_laysBeliefs dX10_beliefs_54 rfl ⟨Nat.le_of_ble_eq_true rfl, Nat.le_of_ble_eq_true rfl⟩ rfl (Nat.le_of_ble_eq_true rfl) ⟨Nat.zero_le _, Nat.zero_le _⟩ ?_
    refine z_iload_n F dX10_beliefs_57 rfl 2 rfl ?_
    refine z_if_ne F 68 dX10_beliefs_58 rfl (fun hc => ?_) (fun hc => ?_)
    · replace h := zif_f hc h
      refine z_aload_n F dX10_beliefs_68 rfl 0 rfl ?_
      refine zg_10_58 F t0 wF_X10_391 dX10_beliefs_69 ?_
      cases h
      exact z_reti F hr hk dX10_beliefs_72
    · replace h := zif_t hc h
      refine z_aload_n F dX10_beliefs_61 rfl 0 rfl ?_
      refine zg_10_57 F t0 wF_X10_388 dX10_beliefs_62 ?_
      refine z_goto F 72 dX10_beliefs_65 rfl ?_
      cases h
      exact z_reti F hr hk dX10_beliefs_72
  · replace h := zif_f hc h
    refine z_iconst (y := (0 : Int32)) F dX10_beliefs_50 rfl ?_
    cases h
    exact z_reti F hr hk dX10_beliefs_51

def fX10_beliefs_19  (x0 : Nat) (x1 : Int32) (x2 : Int32) (s0 : Nat) (s1 : Int32) (v : zV) : Option (Int32 × zV) :=
  zbind (fX10_bad s0 s1 (1 : Int32) (0 : Int32) v) fun r_2 v_1 =>
  if r_2 = (0 : Int32) then
    zbind (fX10_in x2 (0 : Int32) (1 : Int32) v_1) fun r_4 v_3 =>
    if r_4 = (0 : Int32) then
      fX10_beliefs_42  x0 x1 x2 x0 (1 : Int32) v_3
    else
      fX10_beliefs_42  x0 x1 x2 x0 (0 : Int32) v_3
  else
    some ((0 : Int32), v_1)
set_option maxRecDepth 4000 in
theorem jX10_beliefs_19 (x : zCx) (G : zG) (F : zF x G cX10_beliefs 3 RX10 9 265) (hr : x.2.2.2.2.2.2.2.2.1.sig.returnType = (Option.some FieldType.int)) (hk : x.2.2.2.2.2.2.2.2.1.locks = false) (r : Int32) (w : zV)  : ∀ (x0 : Nat) (t0 : zty G x0 1 10) (x1 : Int32) (x2 : Int32) (s0 : Nat) (ts0 : zty G s0 1 10) (s1 : Int32) (v : zV), fX10_beliefs_19 x0 x1 x2 s0 s1 v = some (r, w) → zJ x G 3 (zQ x G (some (.int r)) w 0 0) 0 0 19 [(0, zr G x0), (1, .int x1), (2, .int x2)] [.int s1, zr G s0] v := by
  intro x0 t0 x1 x2 s0 ts0 s1 v h
  unfold fX10_beliefs_19 at h
  refine z_iconst (y := (1 : Int32)) F dX10_beliefs_19 rfl ?_
  refine z_iconst (y := (0 : Int32)) F dX10_beliefs_20 rfl ?_
  obtain ⟨r_2, v_1, hq21, h⟩ := zbind_ex h
  refine z_callVi F [.int s1, .int (1 : Int32), .int (0 : Int32)] [] (kX10_bad x.2.1 G s0 ts0 s1 (1 : Int32) (0 : Int32) v r_2 v_1 hq21) mI_X10_bad (c := 10) rfl ts0 wM_X10_220 mi_X10_bad sl_X10_bad dX10_beliefs_21 rfl ⟨Nat.le_of_ble_eq_true rfl, Nat.le_of_ble_eq_true rfl⟩ rfl (Nat.le_of_ble_eq_true rfl) ⟨Nat.zero_le _, Nat.zero_le _⟩ ?_
  refine z_if_ne F 50 dX10_beliefs_24 rfl (fun hc => ?_) (fun hc => ?_)
  · replace h := zif_f hc h
    refine z_iconst (y := (0 : Int32)) F dX10_beliefs_50 rfl ?_
    cases h
    exact z_reti F hr hk dX10_beliefs_51
  · replace h := zif_t hc h
    refine z_aload_n F dX10_beliefs_27 rfl 0 rfl ?_
    refine z_iload_n F dX10_beliefs_28 rfl 2 rfl ?_
    refine z_iconst (y := (0 : Int32)) F dX10_beliefs_29 rfl ?_
    refine z_iconst (y := (1 : Int32)) F dX10_beliefs_30 rfl ?_
    obtain ⟨r_4, v_3, hq31, h⟩ := zbind_ex h
    refine z_callSi F [.int x2, .int (0 : Int32), .int (1 : Int32)] [zr G x0] (kX10_in x.2.1 G x2 (0 : Int32) (1 : Int32) v_1 r_4 v_3 hq31) mI_X10_in wM_X10_168 ms_X10_in dX10_beliefs_31 rfl ⟨Nat.le_of_ble_eq_true rfl, Nat.le_of_ble_eq_true rfl⟩ rfl (Nat.le_of_ble_eq_true rfl) ⟨Nat.zero_le _, Nat.zero_le _⟩ ?_
    refine z_if_ne F 41 dX10_beliefs_34 rfl (fun hc => ?_) (fun hc => ?_)
    · replace h := zif_f hc h
      refine z_iconst (y := (0 : Int32)) F dX10_beliefs_41 rfl ?_
      refine z_ls [(0, zr G x0), (1, .int x1), (2, .int x2)] [0, 1, 2] rfl ?_
      exact jX10_beliefs_42 x G F hr hk r w   x0 t0 x1 x2 x0 t0 (0 : Int32) v_3 h
    · replace h := zif_t hc h
      refine z_iconst (y := (1 : Int32)) F dX10_beliefs_37 rfl ?_
      refine z_goto F 42 dX10_beliefs_38 rfl ?_
      refine z_ls [(0, zr G x0), (1, .int x1), (2, .int x2)] [0, 1, 2] rfl ?_
      exact jX10_beliefs_42 x G F hr hk r w   x0 t0 x1 x2 x0 t0 (1 : Int32) v_3 h

def fX10_beliefs (x0 : Nat) (x1 : Int32) (x2 : Int32) (v : zV) : Option (Int32 × zV) :=
  zlet (zup v x0 0 (0 : Int32)) fun v_1 =>
  zbind (fX10_isMan x0 x1 v_1) fun r_3 v_2 =>
  if r_3 = (0 : Int32) then
    fX10_beliefs_19  x0 x1 x2 x0 (1 : Int32) v_2
  else
    fX10_beliefs_19  x0 x1 x2 x0 (0 : Int32) v_2
set_option maxRecDepth 4000 in
theorem kX10_beliefs (l : Launch) (G : zG) (x0 : Nat) (t0 : zty G x0 1 10) (x1 : Int32) (x2 : Int32) (v : zV) (r : Int32) (w : zV) (h : fX10_beliefs x0 x1 x2 v = some (r, w)) : zMet l yX10_beliefs cX10_beliefs 3 (Option.some FieldType.int) 9 265 0 0 [zr G x0, .int x1, .int x2] G v (some (.int r)) w := by
  refine zM_of (own := RX10) (by decide) rfl (Nat.le_of_ble_eq_true rfl) (fun x hl F hr hk hcs => ?_)
  subst hl
  refine z_ls [(0, zr G x0), (1, .int x1), (2, .int x2)] [0, 1, 2] rfl ?_
  unfold fX10_beliefs at h
  refine z_aload_n F dX10_beliefs_0 rfl 0 rfl ?_
  refine z_iconst (y := (0 : Int32)) F dX10_beliefs_1 rfl ?_
  refine zp_10_0 F t0 wF_X10_134 dX10_beliefs_2 ?_
  obtain ⟨v_1, ev_1, h⟩ := zlet_ex h
  refine z_heap ev_1 ?_
  refine z_aload_n F dX10_beliefs_5 rfl 0 rfl ?_
  refine z_aload_n F dX10_beliefs_6 rfl 0 rfl ?_
  refine z_iload_n F dX10_beliefs_7 rfl 1 rfl ?_
  obtain ⟨r_3, v_2, hq8, h⟩ := zbind_ex h
  refine z_callVi F [.int x1] [zr G x0] (kX10_isMan x.2.1 G x0 t0 x1 v_1 r_3 v_2 hq8) mI_X10_isMan (c := 10) rfl t0 wM_X10_298 mi_X10_isMan sl_X10_isMan dX10_beliefs_8 rfl ⟨Nat.le_of_ble_eq_true rfl, Nat.le_of_ble_eq_true rfl⟩ rfl (Nat.le_of_ble_eq_true rfl) ⟨Nat.zero_le _, Nat.zero_le _⟩ ?_
  refine z_if_ne F 18 dX10_beliefs_11 rfl (fun hc => ?_) (fun hc => ?_)
  · replace h := zif_f hc h
    refine z_iconst (y := (0 : Int32)) F dX10_beliefs_18 rfl ?_
    refine z_ls [(0, zr G x0), (1, .int x1), (2, .int x2)] [0, 1, 2] rfl ?_
    exact jX10_beliefs_19 x G F hr hk r w   x0 t0 x1 x2 x0 t0 (0 : Int32) v_2 h
  · replace h := zif_t hc h
    refine z_iconst (y := (1 : Int32)) F dX10_beliefs_14 rfl ?_
    refine z_goto F 19 dX10_beliefs_15 rfl ?_
    refine z_ls [(0, zr G x0), (1, .int x1), (2, .int x2)] [0, 1, 2] rfl ?_
    exact jX10_beliefs_19 x G F hr hk r w   x0 t0 x1 x2 x0 t0 (1 : Int32) v_2 h

theorem dX10_sure_0 : decode cX10_sure 0 = .ok (.aload_n 0, 1) := by decide +kernel
theorem dX10_sure_1 : decode cX10_sure 1 = .ok (.iconst 0, 1) := by decide +kernel
theorem dX10_sure_2 : decode cX10_sure 2 = .ok (.putfield 134, 3) := by decide +kernel
theorem dX10_sure_5 : decode cX10_sure 5 = .ok (.aload_n 0, 1) := by decide +kernel
theorem dX10_sure_6 : decode cX10_sure 6 = .ok (.aload_n 0, 1) := by decide +kernel
theorem dX10_sure_7 : decode cX10_sure 7 = .ok (.iload_n 1, 1) := by decide +kernel
theorem dX10_sure_8 : decode cX10_sure 8 = .ok (.invokevirtual 298, 3) := by decide +kernel
theorem dX10_sure_11 : decode cX10_sure 11 = .ok (.ifCond .eq 11, 3) := by decide +kernel
theorem dX10_sure_14 : decode cX10_sure 14 = .ok (.aload_n 0, 1) := by decide +kernel
theorem dX10_sure_15 : decode cX10_sure 15 = .ok (.iload_n 2, 1) := by decide +kernel
theorem dX10_sure_16 : decode cX10_sure 16 = .ok (.invokevirtual 304, 3) := by decide +kernel
theorem dX10_sure_19 : decode cX10_sure 19 = .ok (.ifCond .ne 7, 3) := by decide +kernel
theorem dX10_sure_22 : decode cX10_sure 22 = .ok (.iconst 1, 1) := by decide +kernel
theorem dX10_sure_23 : decode cX10_sure 23 = .ok (.goto 4, 3) := by decide +kernel
theorem dX10_sure_26 : decode cX10_sure 26 = .ok (.iconst 0, 1) := by decide +kernel
theorem dX10_sure_27 : decode cX10_sure 27 = .ok (.iconst 1, 1) := by decide +kernel
theorem dX10_sure_28 : decode cX10_sure 28 = .ok (.iconst 0, 1) := by decide +kernel
theorem dX10_sure_29 : decode cX10_sure 29 = .ok (.invokevirtual 220, 3) := by decide +kernel
theorem dX10_sure_32 : decode cX10_sure 32 = .ok (.ifCond .eq 5, 3) := by decide +kernel
theorem dX10_sure_35 : decode cX10_sure 35 = .ok (.iconst 0, 1) := by decide +kernel
theorem dX10_sure_36 : decode cX10_sure 36 = .ok (.ireturn, 1) := by decide +kernel
theorem dX10_sure_37 : decode cX10_sure 37 = .ok (.aload_n 0, 1) := by decide +kernel
theorem dX10_sure_38 : decode cX10_sure 38 = .ok (.iload_n 1, 1) := by decide +kernel
theorem dX10_sure_39 : decode cX10_sure 39 = .ok (.invokevirtual 394, 3) := by decide +kernel
theorem dX10_sure_42 : decode cX10_sure 42 = .ok (.aload_n 0, 1) := by decide +kernel
theorem dX10_sure_43 : decode cX10_sure 43 = .ok (.getfield 388, 3) := by decide +kernel
theorem dX10_sure_46 : decode cX10_sure 46 = .ok (.ifCond .ne 7, 3) := by decide +kernel
theorem dX10_sure_49 : decode cX10_sure 49 = .ok (.iconst (-1), 1) := by decide +kernel
theorem dX10_sure_50 : decode cX10_sure 50 = .ok (.goto 9, 3) := by decide +kernel
theorem dX10_sure_53 : decode cX10_sure 53 = .ok (.aload_n 0, 1) := by decide +kernel
theorem dX10_sure_54 : decode cX10_sure 54 = .ok (.getfield 118, 3) := by decide +kernel
theorem dX10_sure_57 : decode cX10_sure 57 = .ok (.iload_n 2, 1) := by decide +kernel
theorem dX10_sure_58 : decode cX10_sure 58 = .ok (.iaload, 1) := by decide +kernel
theorem dX10_sure_59 : decode cX10_sure 59 = .ok (.ireturn, 1) := by decide +kernel
def fX10_sure_27  (x0 : Nat) (x1 : Int32) (x2 : Int32) (s0 : Nat) (s1 : Int32) (v : zV) : Option (Int32 × zV) :=
  zbind (fX10_bad s0 s1 (1 : Int32) (0 : Int32) v) fun r_2 v_1 =>
  if r_2 = (0 : Int32) then
    zbindv (fX10_laysBeliefs x0 x1 v_1) fun v_3 =>
    if (v_3 x0 57) = (0 : Int32) then
      some ((-1 : Int32), v_3)
    else
      zix x2 (zlen (zrf x0 56)) <|
      some (v_3 (zrf x0 56) (x2).toNatClampNeg, v_3)
  else
    some ((0 : Int32), v_1)
set_option maxRecDepth 4000 in
theorem jX10_sure_27 (x : zCx) (G : zG) (F : zF x G cX10_sure 3 RX10 9 265) (hr : x.2.2.2.2.2.2.2.2.1.sig.returnType = (Option.some FieldType.int)) (hk : x.2.2.2.2.2.2.2.2.1.locks = false) (r : Int32) (w : zV)  : ∀ (x0 : Nat) (t0 : zty G x0 1 10) (x1 : Int32) (x2 : Int32) (s0 : Nat) (ts0 : zty G s0 1 10) (s1 : Int32) (v : zV), fX10_sure_27 x0 x1 x2 s0 s1 v = some (r, w) → zJ x G 3 (zQ x G (some (.int r)) w 0 0) 0 0 27 [(0, zr G x0), (1, .int x1), (2, .int x2)] [.int s1, zr G s0] v := by
  intro x0 t0 x1 x2 s0 ts0 s1 v h
  unfold fX10_sure_27 at h
  refine z_iconst (y := (1 : Int32)) F dX10_sure_27 rfl ?_
  refine z_iconst (y := (0 : Int32)) F dX10_sure_28 rfl ?_
  obtain ⟨r_2, v_1, hq29, h⟩ := zbind_ex h
  refine z_callVi F [.int s1, .int (1 : Int32), .int (0 : Int32)] [] (kX10_bad x.2.1 G s0 ts0 s1 (1 : Int32) (0 : Int32) v r_2 v_1 hq29) mI_X10_bad (c := 10) rfl ts0 wM_X10_220 mi_X10_bad sl_X10_bad dX10_sure_29 rfl ⟨Nat.le_of_ble_eq_true rfl, Nat.le_of_ble_eq_true rfl⟩ rfl (Nat.le_of_ble_eq_true rfl) ⟨Nat.zero_le _, Nat.zero_le _⟩ ?_
  refine z_if_eq F 37 dX10_sure_32 rfl (fun hc => ?_) (fun hc => ?_)
  · replace h := zif_t hc h
    refine z_aload_n F dX10_sure_37 rfl 0 rfl ?_
    refine z_iload_n F dX10_sure_38 rfl 1 rfl ?_
    obtain ⟨v_3, hq39, h⟩ := zbindv_ex h
    refine z_callVv F [.int x1] [] (kX10_laysBeliefs x.2.1 G x0 t0 x1 v_1 v_3 hq39) mI_X10_laysBeliefs (c := 10) rfl t0 wM_X10_394 mi_X10_laysBeliefs sl_X10_laysBeliefs dX10_sure_39 rfl ⟨Nat.le_of_ble_eq_true rfl, Nat.le_of_ble_eq_true rfl⟩ rfl (Nat.le_of_ble_eq_true rfl) ⟨Nat.zero_le _, Nat.zero_le _⟩ ?_
    refine z_aload_n F dX10_sure_42 rfl 0 rfl ?_
    refine zg_10_57 F t0 wF_X10_388 dX10_sure_43 ?_
    refine z_if_ne F 53 dX10_sure_46 rfl (fun hc => ?_) (fun hc => ?_)
    · replace h := zif_f hc h
      refine z_aload_n F dX10_sure_53 rfl 0 rfl ?_
      refine zg_10_56 F t0 wF_X10_118 dX10_sure_54 ?_
      refine z_iload_n F dX10_sure_57 rfl 2 rfl ?_
      obtain ⟨hi58, h⟩ := zix_ex h
      refine z_iald F (zt_f tc_10_56 t0) dX10_sure_58 hi58 ?_
      cases h
      exact z_reti F hr hk dX10_sure_59
    · replace h := zif_t hc h
      refine z_iconst (y := (-1 : Int32)) F dX10_sure_49 rfl ?_
      refine z_goto F 59 dX10_sure_50 rfl ?_
      cases h
      exact z_reti F hr hk dX10_sure_59
  · replace h := zif_f hc h
    refine z_iconst (y := (0 : Int32)) F dX10_sure_35 rfl ?_
    cases h
    exact z_reti F hr hk dX10_sure_36

def fX10_sure (x0 : Nat) (x1 : Int32) (x2 : Int32) (v : zV) : Option (Int32 × zV) :=
  zlet (zup v x0 0 (0 : Int32)) fun v_1 =>
  zbind (fX10_isMan x0 x1 v_1) fun r_3 v_2 =>
  if r_3 = (0 : Int32) then
    fX10_sure_27  x0 x1 x2 x0 (1 : Int32) v_2
  else
    zbind (fX10_isQuestion x0 x2 v_2) fun r_5 v_4 =>
    if r_5 = (0 : Int32) then
      fX10_sure_27  x0 x1 x2 x0 (1 : Int32) v_4
    else
      fX10_sure_27  x0 x1 x2 x0 (0 : Int32) v_4
set_option maxRecDepth 4000 in
theorem kX10_sure (l : Launch) (G : zG) (x0 : Nat) (t0 : zty G x0 1 10) (x1 : Int32) (x2 : Int32) (v : zV) (r : Int32) (w : zV) (h : fX10_sure x0 x1 x2 v = some (r, w)) : zMet l yX10_sure cX10_sure 3 (Option.some FieldType.int) 9 265 0 0 [zr G x0, .int x1, .int x2] G v (some (.int r)) w := by
  refine zM_of (own := RX10) (by decide) rfl (Nat.le_of_ble_eq_true rfl) (fun x hl F hr hk hcs => ?_)
  subst hl
  refine z_ls [(0, zr G x0), (1, .int x1), (2, .int x2)] [0, 1, 2] rfl ?_
  unfold fX10_sure at h
  refine z_aload_n F dX10_sure_0 rfl 0 rfl ?_
  refine z_iconst (y := (0 : Int32)) F dX10_sure_1 rfl ?_
  refine zp_10_0 F t0 wF_X10_134 dX10_sure_2 ?_
  obtain ⟨v_1, ev_1, h⟩ := zlet_ex h
  refine z_heap ev_1 ?_
  refine z_aload_n F dX10_sure_5 rfl 0 rfl ?_
  refine z_aload_n F dX10_sure_6 rfl 0 rfl ?_
  refine z_iload_n F dX10_sure_7 rfl 1 rfl ?_
  obtain ⟨r_3, v_2, hq8, h⟩ := zbind_ex h
  refine z_callVi F [.int x1] [zr G x0] (kX10_isMan x.2.1 G x0 t0 x1 v_1 r_3 v_2 hq8) mI_X10_isMan (c := 10) rfl t0 wM_X10_298 mi_X10_isMan sl_X10_isMan dX10_sure_8 rfl ⟨Nat.le_of_ble_eq_true rfl, Nat.le_of_ble_eq_true rfl⟩ rfl (Nat.le_of_ble_eq_true rfl) ⟨Nat.zero_le _, Nat.zero_le _⟩ ?_
  refine z_if_eq F 22 dX10_sure_11 rfl (fun hc => ?_) (fun hc => ?_)
  · replace h := zif_t hc h
    refine z_iconst (y := (1 : Int32)) F dX10_sure_22 rfl ?_
    refine z_goto F 27 dX10_sure_23 rfl ?_
    refine z_ls [(0, zr G x0), (1, .int x1), (2, .int x2)] [0, 1, 2] rfl ?_
    exact jX10_sure_27 x G F hr hk r w   x0 t0 x1 x2 x0 t0 (1 : Int32) v_2 h
  · replace h := zif_f hc h
    refine z_aload_n F dX10_sure_14 rfl 0 rfl ?_
    refine z_iload_n F dX10_sure_15 rfl 2 rfl ?_
    obtain ⟨r_5, v_4, hq16, h⟩ := zbind_ex h
    refine z_callVi F [.int x2] [zr G x0] (kX10_isQuestion x.2.1 G x0 t0 x2 v_2 r_5 v_4 hq16) mI_X10_isQuestion (c := 10) rfl t0 wM_X10_304 mi_X10_isQuestion sl_X10_isQuestion dX10_sure_16 rfl ⟨Nat.le_of_ble_eq_true rfl, Nat.le_of_ble_eq_true rfl⟩ rfl (Nat.le_of_ble_eq_true rfl) ⟨Nat.zero_le _, Nat.zero_le _⟩ ?_
    refine z_if_ne F 26 dX10_sure_19 rfl (fun hc => ?_) (fun hc => ?_)
    · replace h := zif_f hc h
      refine z_iconst (y := (0 : Int32)) F dX10_sure_26 rfl ?_
      refine z_ls [(0, zr G x0), (1, .int x1), (2, .int x2)] [0, 1, 2] rfl ?_
      exact jX10_sure_27 x G F hr hk r w   x0 t0 x1 x2 x0 t0 (0 : Int32) v_4 h
    · replace h := zif_t hc h
      refine z_iconst (y := (1 : Int32)) F dX10_sure_22 rfl ?_
      refine z_goto F 27 dX10_sure_23 rfl ?_
      refine z_ls [(0, zr G x0), (1, .int x1), (2, .int x2)] [0, 1, 2] rfl ?_
      exact jX10_sure_27 x G F hr hk r w   x0 t0 x1 x2 x0 t0 (1 : Int32) v_4 h

theorem dX10_dead_0 : decode cX10_dead 0 = .ok (.aload_n 0, 1) := by decide +kernel
theorem dX10_dead_1 : decode cX10_dead 1 = .ok (.iconst 0, 1) := by decide +kernel
theorem dX10_dead_2 : decode cX10_dead 2 = .ok (.putfield 134, 3) := by decide +kernel
theorem dX10_dead_5 : decode cX10_dead 5 = .ok (.aload_n 0, 1) := by decide +kernel
theorem dX10_dead_6 : decode cX10_dead 6 = .ok (.iload_n 1, 1) := by decide +kernel
theorem dX10_dead_7 : decode cX10_dead 7 = .ok (.iconst 1, 1) := by decide +kernel
theorem dX10_dead_8 : decode cX10_dead 8 = .ok (.bipush 60, 2) := by decide +kernel
theorem dX10_dead_10 : decode cX10_dead 10 = .ok (.invokestatic 168, 3) := by decide +kernel
theorem dX10_dead_13 : decode cX10_dead 13 = .ok (.ifCond .ne 7, 3) := by decide +kernel
theorem dX10_dead_16 : decode cX10_dead 16 = .ok (.iconst 1, 1) := by decide +kernel
theorem dX10_dead_17 : decode cX10_dead 17 = .ok (.goto 4, 3) := by decide +kernel
theorem dX10_dead_20 : decode cX10_dead 20 = .ok (.iconst 0, 1) := by decide +kernel
theorem dX10_dead_21 : decode cX10_dead 21 = .ok (.iconst 1, 1) := by decide +kernel
theorem dX10_dead_22 : decode cX10_dead 22 = .ok (.iconst 1, 1) := by decide +kernel
theorem dX10_dead_23 : decode cX10_dead 23 = .ok (.invokevirtual 220, 3) := by decide +kernel
theorem dX10_dead_26 : decode cX10_dead 26 = .ok (.ifCond .eq 5, 3) := by decide +kernel
theorem dX10_dead_29 : decode cX10_dead 29 = .ok (.iconst 0, 1) := by decide +kernel
theorem dX10_dead_30 : decode cX10_dead 30 = .ok (.ireturn, 1) := by decide +kernel
theorem dX10_dead_31 : decode cX10_dead 31 = .ok (.aload_n 0, 1) := by decide +kernel
theorem dX10_dead_32 : decode cX10_dead 32 = .ok (.invokevirtual 385, 3) := by decide +kernel
theorem dX10_dead_35 : decode cX10_dead 35 = .ok (.aload_n 0, 1) := by decide +kernel
theorem dX10_dead_36 : decode cX10_dead 36 = .ok (.getfield 244, 3) := by decide +kernel
theorem dX10_dead_39 : decode cX10_dead 39 = .ok (.if_icmp .ne 9, 3) := by decide +kernel
theorem dX10_dead_42 : decode cX10_dead 42 = .ok (.ldc_w 397, 3) := by decide +kernel
theorem dX10_dead_45 : decode cX10_dead 45 = .ok (.goto 4, 3) := by decide +kernel
theorem dX10_dead_48 : decode cX10_dead 48 = .ok (.iconst 0, 1) := by decide +kernel
theorem dX10_dead_49 : decode cX10_dead 49 = .ok (.istore_n 2, 1) := by decide +kernel
theorem dX10_dead_50 : decode cX10_dead 50 = .ok (.aload_n 0, 1) := by decide +kernel
theorem dX10_dead_51 : decode cX10_dead 51 = .ok (.iload_n 1, 1) := by decide +kernel
theorem dX10_dead_52 : decode cX10_dead 52 = .ok (.putfield 336, 3) := by decide +kernel
theorem dX10_dead_55 : decode cX10_dead 55 = .ok (.iconst 0, 1) := by decide +kernel
theorem dX10_dead_56 : decode cX10_dead 56 = .ok (.istore_n 3, 1) := by decide +kernel
theorem dX10_dead_57 : decode cX10_dead 57 = .ok (.iload_n 3, 1) := by decide +kernel
theorem dX10_dead_58 : decode cX10_dead 58 = .ok (.aload_n 0, 1) := by decide +kernel
theorem dX10_dead_59 : decode cX10_dead 59 = .ok (.getfield 23, 3) := by decide +kernel
theorem dX10_dead_62 : decode cX10_dead 62 = .ok (.iconst 1, 1) := by decide +kernel
theorem dX10_dead_63 : decode cX10_dead 63 = .ok (.iaload, 1) := by decide +kernel
theorem dX10_dead_64 : decode cX10_dead 64 = .ok (.if_icmp .ge 35, 3) := by decide +kernel
theorem dX10_dead_67 : decode cX10_dead 67 = .ok (.aload_n 0, 1) := by decide +kernel
theorem dX10_dead_68 : decode cX10_dead 68 = .ok (.iload_n 3, 1) := by decide +kernel
theorem dX10_dead_69 : decode cX10_dead 69 = .ok (.putfield 103, 3) := by decide +kernel
theorem dX10_dead_72 : decode cX10_dead 72 = .ok (.iload_n 2, 1) := by decide +kernel
theorem dX10_dead_73 : decode cX10_dead 73 = .ok (.aload_n 0, 1) := by decide +kernel
theorem dX10_dead_74 : decode cX10_dead 74 = .ok (.invokevirtual 385, 3) := by decide +kernel
theorem dX10_dead_77 : decode cX10_dead 77 = .ok (.aload_n 0, 1) := by decide +kernel
theorem dX10_dead_78 : decode cX10_dead 78 = .ok (.getfield 244, 3) := by decide +kernel
theorem dX10_dead_81 : decode cX10_dead 81 = .ok (.if_icmp .ne 9, 3) := by decide +kernel
theorem dX10_dead_84 : decode cX10_dead 84 = .ok (.iconst 1, 1) := by decide +kernel
theorem dX10_dead_85 : decode cX10_dead 85 = .ok (.iload_n 3, 1) := by decide +kernel
theorem dX10_dead_86 : decode cX10_dead 86 = .ok (.ishl, 1) := by decide +kernel
theorem dX10_dead_87 : decode cX10_dead 87 = .ok (.goto 4, 3) := by decide +kernel
theorem dX10_dead_90 : decode cX10_dead 90 = .ok (.iconst 0, 1) := by decide +kernel
theorem dX10_dead_91 : decode cX10_dead 91 = .ok (.ior, 1) := by decide +kernel
theorem dX10_dead_92 : decode cX10_dead 92 = .ok (.istore_n 2, 1) := by decide +kernel
theorem dX10_dead_93 : decode cX10_dead 93 = .ok (.iinc 3 1, 3) := by decide +kernel
theorem dX10_dead_96 : decode cX10_dead 96 = .ok (.goto (-39), 3) := by decide +kernel
theorem dX10_dead_99 : decode cX10_dead 99 = .ok (.aload_n 0, 1) := by decide +kernel
theorem dX10_dead_100 : decode cX10_dead 100 = .ok (.iconst (-1), 1) := by decide +kernel
theorem dX10_dead_101 : decode cX10_dead 101 = .ok (.putfield 103, 3) := by decide +kernel
theorem dX10_dead_104 : decode cX10_dead 104 = .ok (.iload_n 2, 1) := by decide +kernel
theorem dX10_dead_105 : decode cX10_dead 105 = .ok (.ireturn, 1) := by decide +kernel
def fX10_dead_57  : Nat → Nat → Int32 → Int32 → zV → Option (Int32 × zV)
  | 0 => fun _ _ _ _ => none
  | n + 1 => fun x0 x2 x3 v =>
    zix (1 : Int32) (zlen (zrf x0 12)) <|
    if (v (zrf x0 12) ((1 : Int32)).toNatClampNeg) ≤ x3 then
      zlet (zup v x0 46 (-1 : Int32)) fun v_1 =>
      some (x2, v_1)
    else
      zlet (zup v x0 46 x3) fun v_2 =>
      zbind (fX10_rightLines x0 v_2) fun r_4 v_3 =>
      if r_4 = (v_3 x0 40) then
        (fX10_dead_57 n) x0 (x2 ||| ((1 : Int32) <<< (x3 &&& 31))) (x3 + (1 : Int32)) v_3
      else
        (fX10_dead_57 n) x0 (x2 ||| (0 : Int32)) (x3 + (1 : Int32)) v_3
set_option maxRecDepth 4000 in
theorem jX10_dead_57 (x : zCx) (G : zG) (F : zF x G cX10_dead 4 RX10 8 238) (hr : x.2.2.2.2.2.2.2.2.1.sig.returnType = (Option.some FieldType.int)) (hk : x.2.2.2.2.2.2.2.2.1.locks = false) (r : Int32) (w : zV)  : ∀ (n : Nat) (x0 : Nat) (t0 : zty G x0 1 10) (x2 : Int32) (x3 : Int32) (v : zV), fX10_dead_57 n x0 x2 x3 v = some (r, w) → zJ x G 4 (zQ x G (some (.int r)) w 0 0) 0 0 57 [(0, zr G x0), (2, .int x2), (3, .int x3)] [] v := by
  intro n
  induction n with
  | zero => intro x0 t0 x2 x3 v h; exact absurd h (by intro q; cases q)
  | succ n ih =>
    intro x0 t0 x2 x3 v h
    rw [fX10_dead_57] at h
    dsimp only at h
    refine z_iload_n F dX10_dead_57 rfl 2 rfl ?_
    refine z_aload_n F dX10_dead_58 rfl 0 rfl ?_
    refine zg_10_12 F t0 wF_X10_23 dX10_dead_59 ?_
    refine z_iconst (y := (1 : Int32)) F dX10_dead_62 rfl ?_
    obtain ⟨hi63, h⟩ := zix_ex h
    refine z_iald F (zt_f tc_10_12 t0) dX10_dead_63 hi63 ?_
    refine z_icmp_ge F 99 dX10_dead_64 rfl (fun hc => ?_) (fun hc => ?_)
    · replace h := zif_t hc h
      refine z_aload_n F dX10_dead_99 rfl 0 rfl ?_
      refine z_iconst (y := (-1 : Int32)) F dX10_dead_100 rfl ?_
      refine zp_10_46 F t0 wF_X10_103 dX10_dead_101 ?_
      obtain ⟨v_1, ev_1, h⟩ := zlet_ex h
      refine z_heap ev_1 ?_
      refine z_iload_n F dX10_dead_104 rfl 1 rfl ?_
      cases h
      exact z_reti F hr hk dX10_dead_105
    · replace h := zif_f hc h
      refine z_aload_n F dX10_dead_67 rfl 0 rfl ?_
      refine z_iload_n F dX10_dead_68 rfl 2 rfl ?_
      refine zp_10_46 F t0 wF_X10_103 dX10_dead_69 ?_
      obtain ⟨v_2, ev_2, h⟩ := zlet_ex h
      refine z_heap ev_2 ?_
      refine z_iload_n F dX10_dead_72 rfl 1 rfl ?_
      refine z_aload_n F dX10_dead_73 rfl 0 rfl ?_
      obtain ⟨r_4, v_3, hq74, h⟩ := zbind_ex h
      refine z_callVi F [] [.int x2] (kX10_rightLines x.2.1 G x0 t0 v_2 r_4 v_3 hq74) mI_X10_rightLines (c := 10) rfl t0 wM_X10_385 mi_X10_rightLines sl_X10_rightLines dX10_dead_74 rfl ⟨Nat.le_of_ble_eq_true rfl, Nat.le_of_ble_eq_true rfl⟩ rfl (Nat.le_of_ble_eq_true rfl) ⟨Nat.zero_le _, Nat.zero_le _⟩ ?_
      refine z_aload_n F dX10_dead_77 rfl 0 rfl ?_
      refine zg_10_40 F t0 wF_X10_244 dX10_dead_78 ?_
      refine z_icmp_ne F 90 dX10_dead_81 rfl (fun hc => ?_) (fun hc => ?_)
      · replace h := zif_f hc h
        refine z_iconst (y := (0 : Int32)) F dX10_dead_90 rfl ?_
        refine z_ior F dX10_dead_91 ?_
        refine z_istore_n F [(2, .int (x2 ||| (0 : Int32))), (0, zr G x0), (3, .int x3)] dX10_dead_92 rfl (Nat.le_of_ble_eq_true rfl) rfl ?_
        refine z_iinc F [(3, .int (x3 + (1 : Int32))), (2, .int (x2 ||| (0 : Int32))), (0, zr G x0)] dX10_dead_93 2 rfl rfl (Nat.le_of_ble_eq_true rfl) rfl ?_
        refine z_goto F 57 dX10_dead_96 rfl ?_
        refine z_ls [(0, zr G x0), (2, .int (x2 ||| (0 : Int32))), (3, .int (x3 + (1 : Int32)))] [2, 1, 0] rfl ?_
        exact ih x0 t0 (x2 ||| (0 : Int32)) (x3 + (1 : Int32)) v_3 h
      · replace h := zif_t hc h
        refine z_iconst (y := (1 : Int32)) F dX10_dead_84 rfl ?_
        refine z_iload_n F dX10_dead_85 rfl 2 rfl ?_
        refine z_ishl F dX10_dead_86 ?_
        refine z_goto F 91 dX10_dead_87 rfl ?_
        refine z_ior F dX10_dead_91 ?_
        refine z_istore_n F [(2, .int (x2 ||| ((1 : Int32) <<< (x3 &&& 31)))), (0, zr G x0), (3, .int x3)] dX10_dead_92 rfl (Nat.le_of_ble_eq_true rfl) rfl ?_
        refine z_iinc F [(3, .int (x3 + (1 : Int32))), (2, .int (x2 ||| ((1 : Int32) <<< (x3 &&& 31)))), (0, zr G x0)] dX10_dead_93 2 rfl rfl (Nat.le_of_ble_eq_true rfl) rfl ?_
        refine z_goto F 57 dX10_dead_96 rfl ?_
        refine z_ls [(0, zr G x0), (2, .int (x2 ||| ((1 : Int32) <<< (x3 &&& 31)))), (3, .int (x3 + (1 : Int32)))] [2, 1, 0] rfl ?_
        exact ih x0 t0 (x2 ||| ((1 : Int32) <<< (x3 &&& 31))) (x3 + (1 : Int32)) v_3 h

def fX10_dead_21  (x0 : Nat) (x1 : Int32) (s0 : Nat) (s1 : Int32) (v : zV) : Option (Int32 × zV) :=
  zbind (fX10_bad s0 s1 (1 : Int32) (1 : Int32) v) fun r_2 v_1 =>
  if r_2 = (0 : Int32) then
    zbind (fX10_rightLines x0 v_1) fun r_4 v_3 =>
    if r_4 = (v_3 x0 40) then
      zlet (zup v_3 x0 45 x1) fun v_6 =>
      fX10_dead_57  zFU x0 (65536 : Int32) (0 : Int32) v_6
    else
      zlet (zup v_3 x0 45 x1) fun v_5 =>
      fX10_dead_57  zFU x0 (0 : Int32) (0 : Int32) v_5
  else
    some ((0 : Int32), v_1)
set_option maxRecDepth 4000 in
theorem jX10_dead_21 (x : zCx) (G : zG) (F : zF x G cX10_dead 4 RX10 8 238) (hr : x.2.2.2.2.2.2.2.2.1.sig.returnType = (Option.some FieldType.int)) (hk : x.2.2.2.2.2.2.2.2.1.locks = false) (r : Int32) (w : zV)  : ∀ (x0 : Nat) (t0 : zty G x0 1 10) (x1 : Int32) (s0 : Nat) (ts0 : zty G s0 1 10) (s1 : Int32) (v : zV), fX10_dead_21 x0 x1 s0 s1 v = some (r, w) → zJ x G 4 (zQ x G (some (.int r)) w 0 0) 0 0 21 [(0, zr G x0), (1, .int x1)] [.int s1, zr G s0] v := by
  intro x0 t0 x1 s0 ts0 s1 v h
  unfold fX10_dead_21 at h
  refine z_iconst (y := (1 : Int32)) F dX10_dead_21 rfl ?_
  refine z_iconst (y := (1 : Int32)) F dX10_dead_22 rfl ?_
  obtain ⟨r_2, v_1, hq23, h⟩ := zbind_ex h
  refine z_callVi F [.int s1, .int (1 : Int32), .int (1 : Int32)] [] (kX10_bad x.2.1 G s0 ts0 s1 (1 : Int32) (1 : Int32) v r_2 v_1 hq23) mI_X10_bad (c := 10) rfl ts0 wM_X10_220 mi_X10_bad sl_X10_bad dX10_dead_23 rfl ⟨Nat.le_of_ble_eq_true rfl, Nat.le_of_ble_eq_true rfl⟩ rfl (Nat.le_of_ble_eq_true rfl) ⟨Nat.zero_le _, Nat.zero_le _⟩ ?_
  refine z_if_eq F 31 dX10_dead_26 rfl (fun hc => ?_) (fun hc => ?_)
  · replace h := zif_t hc h
    refine z_aload_n F dX10_dead_31 rfl 0 rfl ?_
    obtain ⟨r_4, v_3, hq32, h⟩ := zbind_ex h
    refine z_callVi F [] [] (kX10_rightLines x.2.1 G x0 t0 v_1 r_4 v_3 hq32) mI_X10_rightLines (c := 10) rfl t0 wM_X10_385 mi_X10_rightLines sl_X10_rightLines dX10_dead_32 rfl ⟨Nat.le_of_ble_eq_true rfl, Nat.le_of_ble_eq_true rfl⟩ rfl (Nat.le_of_ble_eq_true rfl) ⟨Nat.zero_le _, Nat.zero_le _⟩ ?_
    refine z_aload_n F dX10_dead_35 rfl 0 rfl ?_
    refine zg_10_40 F t0 wF_X10_244 dX10_dead_36 ?_
    refine z_icmp_ne F 48 dX10_dead_39 rfl (fun hc => ?_) (fun hc => ?_)
    · replace h := zif_f hc h
      refine z_iconst (y := (0 : Int32)) F dX10_dead_48 rfl ?_
      refine z_istore_n F [(2, .int (0 : Int32)), (0, zr G x0), (1, .int x1)] dX10_dead_49 rfl (Nat.le_of_ble_eq_true rfl) rfl ?_
      refine z_aload_n F dX10_dead_50 rfl 1 rfl ?_
      refine z_iload_n F dX10_dead_51 rfl 2 rfl ?_
      refine zp_10_45 F t0 wF_X10_336 dX10_dead_52 ?_
      obtain ⟨v_5, ev_5, h⟩ := zlet_ex h
      refine z_heap ev_5 ?_
      refine z_iconst (y := (0 : Int32)) F dX10_dead_55 rfl ?_
      refine z_istore_n F [(3, .int (0 : Int32)), (2, .int (0 : Int32)), (0, zr G x0), (1, .int x1)] dX10_dead_56 rfl (Nat.le_of_ble_eq_true rfl) rfl ?_
      refine z_ls [(0, zr G x0), (2, .int (0 : Int32)), (3, .int (0 : Int32))] [2, 1, 0] rfl ?_
      exact jX10_dead_57 x G F hr hk r w   zFU x0 t0 (0 : Int32) (0 : Int32) v_5 h
    · replace h := zif_t hc h
      refine z_ldcw (y := (65536 : Int32)) F kC_RX10_397 dX10_dead_42 ?_
      refine z_goto F 49 dX10_dead_45 rfl ?_
      refine z_istore_n F [(2, .int (65536 : Int32)), (0, zr G x0), (1, .int x1)] dX10_dead_49 rfl (Nat.le_of_ble_eq_true rfl) rfl ?_
      refine z_aload_n F dX10_dead_50 rfl 1 rfl ?_
      refine z_iload_n F dX10_dead_51 rfl 2 rfl ?_
      refine zp_10_45 F t0 wF_X10_336 dX10_dead_52 ?_
      obtain ⟨v_6, ev_6, h⟩ := zlet_ex h
      refine z_heap ev_6 ?_
      refine z_iconst (y := (0 : Int32)) F dX10_dead_55 rfl ?_
      refine z_istore_n F [(3, .int (0 : Int32)), (2, .int (65536 : Int32)), (0, zr G x0), (1, .int x1)] dX10_dead_56 rfl (Nat.le_of_ble_eq_true rfl) rfl ?_
      refine z_ls [(0, zr G x0), (2, .int (65536 : Int32)), (3, .int (0 : Int32))] [2, 1, 0] rfl ?_
      exact jX10_dead_57 x G F hr hk r w   zFU x0 t0 (65536 : Int32) (0 : Int32) v_6 h
  · replace h := zif_f hc h
    refine z_iconst (y := (0 : Int32)) F dX10_dead_29 rfl ?_
    cases h
    exact z_reti F hr hk dX10_dead_30

def fX10_dead (x0 : Nat) (x1 : Int32) (v : zV) : Option (Int32 × zV) :=
  zlet (zup v x0 0 (0 : Int32)) fun v_1 =>
  zbind (fX10_in x1 (1 : Int32) (60 : Int32) v_1) fun r_3 v_2 =>
  if r_3 = (0 : Int32) then
    fX10_dead_21  x0 x1 x0 (1 : Int32) v_2
  else
    fX10_dead_21  x0 x1 x0 (0 : Int32) v_2
set_option maxRecDepth 4000 in
theorem kX10_dead (l : Launch) (G : zG) (x0 : Nat) (t0 : zty G x0 1 10) (x1 : Int32) (v : zV) (r : Int32) (w : zV) (h : fX10_dead x0 x1 v = some (r, w)) : zMet l yX10_dead cX10_dead 4 (Option.some FieldType.int) 8 238 0 0 [zr G x0, .int x1] G v (some (.int r)) w := by
  refine zM_of (own := RX10) (by decide) rfl (Nat.le_of_ble_eq_true rfl) (fun x hl F hr hk hcs => ?_)
  subst hl
  refine z_ls [(0, zr G x0), (1, .int x1)] [0, 1] rfl ?_
  unfold fX10_dead at h
  refine z_aload_n F dX10_dead_0 rfl 0 rfl ?_
  refine z_iconst (y := (0 : Int32)) F dX10_dead_1 rfl ?_
  refine zp_10_0 F t0 wF_X10_134 dX10_dead_2 ?_
  obtain ⟨v_1, ev_1, h⟩ := zlet_ex h
  refine z_heap ev_1 ?_
  refine z_aload_n F dX10_dead_5 rfl 0 rfl ?_
  refine z_iload_n F dX10_dead_6 rfl 1 rfl ?_
  refine z_iconst (y := (1 : Int32)) F dX10_dead_7 rfl ?_
  refine z_bipush (y := (60 : Int32)) F dX10_dead_8 rfl ?_
  obtain ⟨r_3, v_2, hq10, h⟩ := zbind_ex h
  refine z_callSi F [.int x1, .int (1 : Int32), .int (60 : Int32)] [zr G x0] (kX10_in x.2.1 G x1 (1 : Int32) (60 : Int32) v_1 r_3 v_2 hq10) mI_X10_in wM_X10_168 ms_X10_in dX10_dead_10 rfl ⟨Nat.le_of_ble_eq_true rfl, Nat.le_of_ble_eq_true rfl⟩ rfl (Nat.le_of_ble_eq_true rfl) ⟨Nat.zero_le _, Nat.zero_le _⟩ ?_
  refine z_if_ne F 20 dX10_dead_13 rfl (fun hc => ?_) (fun hc => ?_)
  · replace h := zif_f hc h
    refine z_iconst (y := (0 : Int32)) F dX10_dead_20 rfl ?_
    refine z_ls [(0, zr G x0), (1, .int x1)] [0, 1] rfl ?_
    exact jX10_dead_21 x G F hr hk r w   x0 t0 x1 x0 t0 (0 : Int32) v_2 h
  · replace h := zif_t hc h
    refine z_iconst (y := (1 : Int32)) F dX10_dead_16 rfl ?_
    refine z_goto F 21 dX10_dead_17 rfl ?_
    refine z_ls [(0, zr G x0), (1, .int x1)] [0, 1] rfl ?_
    exact jX10_dead_21 x G F hr hk r w   x0 t0 x1 x0 t0 (1 : Int32) v_2 h

theorem dX10_enemyOf_0 : decode cX10_enemyOf 0 = .ok (.iconst (-1), 1) := by decide +kernel
theorem dX10_enemyOf_1 : decode cX10_enemyOf 1 = .ok (.istore_n 2, 1) := by decide +kernel
theorem dX10_enemyOf_2 : decode cX10_enemyOf 2 = .ok (.iconst 0, 1) := by decide +kernel
theorem dX10_enemyOf_3 : decode cX10_enemyOf 3 = .ok (.istore_n 3, 1) := by decide +kernel
theorem dX10_enemyOf_4 : decode cX10_enemyOf 4 = .ok (.iload_n 3, 1) := by decide +kernel
theorem dX10_enemyOf_5 : decode cX10_enemyOf 5 = .ok (.aload_n 0, 1) := by decide +kernel
theorem dX10_enemyOf_6 : decode cX10_enemyOf 6 = .ok (.getfield 23, 3) := by decide +kernel
theorem dX10_enemyOf_9 : decode cX10_enemyOf 9 = .ok (.iconst 1, 1) := by decide +kernel
theorem dX10_enemyOf_10 : decode cX10_enemyOf 10 = .ok (.iaload, 1) := by decide +kernel
theorem dX10_enemyOf_11 : decode cX10_enemyOf 11 = .ok (.if_icmp .ge 48, 3) := by decide +kernel
theorem dX10_enemyOf_14 : decode cX10_enemyOf 14 = .ok (.iload_n 3, 1) := by decide +kernel
theorem dX10_enemyOf_15 : decode cX10_enemyOf 15 = .ok (.iload_n 1, 1) := by decide +kernel
theorem dX10_enemyOf_16 : decode cX10_enemyOf 16 = .ok (.if_icmp .eq 37, 3) := by decide +kernel
theorem dX10_enemyOf_19 : decode cX10_enemyOf 19 = .ok (.aload_n 0, 1) := by decide +kernel
theorem dX10_enemyOf_20 : decode cX10_enemyOf 20 = .ok (.getfield 85, 3) := by decide +kernel
theorem dX10_enemyOf_23 : decode cX10_enemyOf 23 = .ok (.iconst 0, 1) := by decide +kernel
theorem dX10_enemyOf_24 : decode cX10_enemyOf 24 = .ok (.iload_n 3, 1) := by decide +kernel
theorem dX10_enemyOf_25 : decode cX10_enemyOf 25 = .ok (.iadd, 1) := by decide +kernel
theorem dX10_enemyOf_26 : decode cX10_enemyOf 26 = .ok (.iaload, 1) := by decide +kernel
theorem dX10_enemyOf_27 : decode cX10_enemyOf 27 = .ok (.iconst 3, 1) := by decide +kernel
theorem dX10_enemyOf_28 : decode cX10_enemyOf 28 = .ok (.if_icmp .eq 25, 3) := by decide +kernel
theorem dX10_enemyOf_31 : decode cX10_enemyOf 31 = .ok (.iload_n 2, 1) := by decide +kernel
theorem dX10_enemyOf_32 : decode cX10_enemyOf 32 = .ok (.iconst (-1), 1) := by decide +kernel
theorem dX10_enemyOf_33 : decode cX10_enemyOf 33 = .ok (.if_icmp .eq 18, 3) := by decide +kernel
theorem dX10_enemyOf_36 : decode cX10_enemyOf 36 = .ok (.aload_n 0, 1) := by decide +kernel
theorem dX10_enemyOf_37 : decode cX10_enemyOf 37 = .ok (.iload_n 1, 1) := by decide +kernel
theorem dX10_enemyOf_38 : decode cX10_enemyOf 38 = .ok (.iload_n 3, 1) := by decide +kernel
theorem dX10_enemyOf_39 : decode cX10_enemyOf 39 = .ok (.invokevirtual 307, 3) := by decide +kernel
theorem dX10_enemyOf_42 : decode cX10_enemyOf 42 = .ok (.aload_n 0, 1) := by decide +kernel
theorem dX10_enemyOf_43 : decode cX10_enemyOf 43 = .ok (.iload_n 1, 1) := by decide +kernel
theorem dX10_enemyOf_44 : decode cX10_enemyOf 44 = .ok (.iload_n 2, 1) := by decide +kernel
theorem dX10_enemyOf_45 : decode cX10_enemyOf 45 = .ok (.invokevirtual 307, 3) := by decide +kernel
theorem dX10_enemyOf_48 : decode cX10_enemyOf 48 = .ok (.if_icmp .le 5, 3) := by decide +kernel
theorem dX10_enemyOf_51 : decode cX10_enemyOf 51 = .ok (.iload_n 3, 1) := by decide +kernel
theorem dX10_enemyOf_52 : decode cX10_enemyOf 52 = .ok (.istore_n 2, 1) := by decide +kernel
theorem dX10_enemyOf_53 : decode cX10_enemyOf 53 = .ok (.iinc 3 1, 3) := by decide +kernel
theorem dX10_enemyOf_56 : decode cX10_enemyOf 56 = .ok (.goto (-52), 3) := by decide +kernel
theorem dX10_enemyOf_59 : decode cX10_enemyOf 59 = .ok (.iload_n 2, 1) := by decide +kernel
theorem dX10_enemyOf_60 : decode cX10_enemyOf 60 = .ok (.ireturn, 1) := by decide +kernel
def fX10_enemyOf_4  : Nat → Nat → Int32 → Int32 → Int32 → zV → Option (Int32 × zV)
  | 0 => fun _ _ _ _ _ => none
  | n + 1 => fun x0 x1 x2 x3 v =>
    zix (1 : Int32) (zlen (zrf x0 12)) <|
    if (v (zrf x0 12) ((1 : Int32)).toNatClampNeg) ≤ x3 then
      some (x2, v)
    else
      if x3 = x1 then
        (fX10_enemyOf_4 n) x0 x1 x2 (x3 + (1 : Int32)) v
      else
        zix ((0 : Int32) + x3) (zlen (zrf x0 35)) <|
        if (v (zrf x0 35) ((0 : Int32) + x3).toNatClampNeg) = (3 : Int32) then
          (fX10_enemyOf_4 n) x0 x1 x2 (x3 + (1 : Int32)) v
        else
          if x2 = (-1 : Int32) then
            (fX10_enemyOf_4 n) x0 x1 x3 (x3 + (1 : Int32)) v
          else
            zbind (fX10_differsOf x0 x1 x3 v) fun r_2 v_1 =>
            zbind (fX10_differsOf x0 x1 x2 v_1) fun r_4 v_3 =>
            if r_2 ≤ r_4 then
              (fX10_enemyOf_4 n) x0 x1 x2 (x3 + (1 : Int32)) v_3
            else
              (fX10_enemyOf_4 n) x0 x1 x3 (x3 + (1 : Int32)) v_3
set_option maxRecDepth 4000 in
theorem jX10_enemyOf_4 (x : zCx) (G : zG) (F : zF x G cX10_enemyOf 4 RX10 2 104) (hr : x.2.2.2.2.2.2.2.2.1.sig.returnType = (Option.some FieldType.int)) (hk : x.2.2.2.2.2.2.2.2.1.locks = false) (r : Int32) (w : zV)  : ∀ (n : Nat) (x0 : Nat) (t0 : zty G x0 1 10) (x1 : Int32) (x2 : Int32) (x3 : Int32) (v : zV), fX10_enemyOf_4 n x0 x1 x2 x3 v = some (r, w) → zJ x G 4 (zQ x G (some (.int r)) w 0 0) 0 0 4 [(0, zr G x0), (1, .int x1), (2, .int x2), (3, .int x3)] [] v := by
  intro n
  induction n with
  | zero => intro x0 t0 x1 x2 x3 v h; exact absurd h (by intro q; cases q)
  | succ n ih =>
    intro x0 t0 x1 x2 x3 v h
    rw [fX10_enemyOf_4] at h
    dsimp only at h
    refine z_iload_n F dX10_enemyOf_4 rfl 3 rfl ?_
    refine z_aload_n F dX10_enemyOf_5 rfl 0 rfl ?_
    refine zg_10_12 F t0 wF_X10_23 dX10_enemyOf_6 ?_
    refine z_iconst (y := (1 : Int32)) F dX10_enemyOf_9 rfl ?_
    obtain ⟨hi10, h⟩ := zix_ex h
    refine z_iald F (zt_f tc_10_12 t0) dX10_enemyOf_10 hi10 ?_
    refine z_icmp_ge F 59 dX10_enemyOf_11 rfl (fun hc => ?_) (fun hc => ?_)
    · replace h := zif_t hc h
      refine z_iload_n F dX10_enemyOf_59 rfl 2 rfl ?_
      cases h
      exact z_reti F hr hk dX10_enemyOf_60
    · replace h := zif_f hc h
      refine z_iload_n F dX10_enemyOf_14 rfl 3 rfl ?_
      refine z_iload_n F dX10_enemyOf_15 rfl 1 rfl ?_
      refine z_icmp_eq F 53 dX10_enemyOf_16 rfl (fun hc => ?_) (fun hc => ?_)
      · replace h := zif_t hc h
        refine z_iinc F [(3, .int (x3 + (1 : Int32))), (0, zr G x0), (1, .int x1), (2, .int x2)] dX10_enemyOf_53 3 rfl rfl (Nat.le_of_ble_eq_true rfl) rfl ?_
        refine z_goto F 4 dX10_enemyOf_56 rfl ?_
        refine z_ls [(0, zr G x0), (1, .int x1), (2, .int x2), (3, .int (x3 + (1 : Int32)))] [1, 2, 3, 0] rfl ?_
        exact ih x0 t0 x1 x2 (x3 + (1 : Int32)) v h
      · replace h := zif_f hc h
        refine z_aload_n F dX10_enemyOf_19 rfl 0 rfl ?_
        refine zg_10_35 F t0 wF_X10_85 dX10_enemyOf_20 ?_
        refine z_iconst (y := (0 : Int32)) F dX10_enemyOf_23 rfl ?_
        refine z_iload_n F dX10_enemyOf_24 rfl 3 rfl ?_
        refine z_iadd F dX10_enemyOf_25 ?_
        obtain ⟨hi26, h⟩ := zix_ex h
        refine z_iald F (zt_f tc_10_35 t0) dX10_enemyOf_26 hi26 ?_
        refine z_iconst (y := (3 : Int32)) F dX10_enemyOf_27 rfl ?_
        refine z_icmp_eq F 53 dX10_enemyOf_28 rfl (fun hc => ?_) (fun hc => ?_)
        · replace h := zif_t hc h
          refine z_iinc F [(3, .int (x3 + (1 : Int32))), (0, zr G x0), (1, .int x1), (2, .int x2)] dX10_enemyOf_53 3 rfl rfl (Nat.le_of_ble_eq_true rfl) rfl ?_
          refine z_goto F 4 dX10_enemyOf_56 rfl ?_
          refine z_ls [(0, zr G x0), (1, .int x1), (2, .int x2), (3, .int (x3 + (1 : Int32)))] [1, 2, 3, 0] rfl ?_
          exact ih x0 t0 x1 x2 (x3 + (1 : Int32)) v h
        · replace h := zif_f hc h
          refine z_iload_n F dX10_enemyOf_31 rfl 2 rfl ?_
          refine z_iconst (y := (-1 : Int32)) F dX10_enemyOf_32 rfl ?_
          refine z_icmp_eq F 51 dX10_enemyOf_33 rfl (fun hc => ?_) (fun hc => ?_)
          · replace h := zif_t hc h
            refine z_iload_n F dX10_enemyOf_51 rfl 3 rfl ?_
            refine z_istore_n F [(2, .int x3), (0, zr G x0), (1, .int x1), (3, .int x3)] dX10_enemyOf_52 rfl (Nat.le_of_ble_eq_true rfl) rfl ?_
            refine z_iinc F [(3, .int (x3 + (1 : Int32))), (2, .int x3), (0, zr G x0), (1, .int x1)] dX10_enemyOf_53 3 rfl rfl (Nat.le_of_ble_eq_true rfl) rfl ?_
            refine z_goto F 4 dX10_enemyOf_56 rfl ?_
            refine z_ls [(0, zr G x0), (1, .int x1), (2, .int x3), (3, .int (x3 + (1 : Int32)))] [2, 3, 1, 0] rfl ?_
            exact ih x0 t0 x1 x3 (x3 + (1 : Int32)) v h
          · replace h := zif_f hc h
            refine z_aload_n F dX10_enemyOf_36 rfl 0 rfl ?_
            refine z_iload_n F dX10_enemyOf_37 rfl 1 rfl ?_
            refine z_iload_n F dX10_enemyOf_38 rfl 3 rfl ?_
            obtain ⟨r_2, v_1, hq39, h⟩ := zbind_ex h
            refine z_callVi F [.int x1, .int x3] [] (kX10_differsOf x.2.1 G x0 t0 x1 x3 v r_2 v_1 hq39) mI_X10_differsOf (c := 10) rfl t0 wM_X10_307 mi_X10_differsOf sl_X10_differsOf dX10_enemyOf_39 rfl ⟨Nat.le_of_ble_eq_true rfl, Nat.le_of_ble_eq_true rfl⟩ rfl (Nat.le_of_ble_eq_true rfl) ⟨Nat.zero_le _, Nat.zero_le _⟩ ?_
            refine z_aload_n F dX10_enemyOf_42 rfl 0 rfl ?_
            refine z_iload_n F dX10_enemyOf_43 rfl 1 rfl ?_
            refine z_iload_n F dX10_enemyOf_44 rfl 2 rfl ?_
            obtain ⟨r_4, v_3, hq45, h⟩ := zbind_ex h
            refine z_callVi F [.int x1, .int x2] [.int r_2] (kX10_differsOf x.2.1 G x0 t0 x1 x2 v_1 r_4 v_3 hq45) mI_X10_differsOf (c := 10) rfl t0 wM_X10_307 mi_X10_differsOf sl_X10_differsOf dX10_enemyOf_45 rfl ⟨Nat.le_of_ble_eq_true rfl, Nat.le_of_ble_eq_true rfl⟩ rfl (Nat.le_of_ble_eq_true rfl) ⟨Nat.zero_le _, Nat.zero_le _⟩ ?_
            refine z_icmp_le F 53 dX10_enemyOf_48 rfl (fun hc => ?_) (fun hc => ?_)
            · replace h := zif_t hc h
              refine z_iinc F [(3, .int (x3 + (1 : Int32))), (0, zr G x0), (1, .int x1), (2, .int x2)] dX10_enemyOf_53 3 rfl rfl (Nat.le_of_ble_eq_true rfl) rfl ?_
              refine z_goto F 4 dX10_enemyOf_56 rfl ?_
              refine z_ls [(0, zr G x0), (1, .int x1), (2, .int x2), (3, .int (x3 + (1 : Int32)))] [1, 2, 3, 0] rfl ?_
              exact ih x0 t0 x1 x2 (x3 + (1 : Int32)) v_3 h
            · replace h := zif_f hc h
              refine z_iload_n F dX10_enemyOf_51 rfl 3 rfl ?_
              refine z_istore_n F [(2, .int x3), (0, zr G x0), (1, .int x1), (3, .int x3)] dX10_enemyOf_52 rfl (Nat.le_of_ble_eq_true rfl) rfl ?_
              refine z_iinc F [(3, .int (x3 + (1 : Int32))), (2, .int x3), (0, zr G x0), (1, .int x1)] dX10_enemyOf_53 3 rfl rfl (Nat.le_of_ble_eq_true rfl) rfl ?_
              refine z_goto F 4 dX10_enemyOf_56 rfl ?_
              refine z_ls [(0, zr G x0), (1, .int x1), (2, .int x3), (3, .int (x3 + (1 : Int32)))] [2, 3, 1, 0] rfl ?_
              exact ih x0 t0 x1 x3 (x3 + (1 : Int32)) v_3 h

def fX10_enemyOf (x0 : Nat) (x1 : Int32) (v : zV) : Option (Int32 × zV) :=
  fX10_enemyOf_4  zFU x0 x1 (-1 : Int32) (0 : Int32) v
set_option maxRecDepth 4000 in
theorem kX10_enemyOf (l : Launch) (G : zG) (x0 : Nat) (t0 : zty G x0 1 10) (x1 : Int32) (v : zV) (r : Int32) (w : zV) (h : fX10_enemyOf x0 x1 v = some (r, w)) : zMet l yX10_enemyOf cX10_enemyOf 4 (Option.some FieldType.int) 2 104 0 0 [zr G x0, .int x1] G v (some (.int r)) w := by
  refine zM_of (own := RX10) (by decide) rfl (Nat.le_of_ble_eq_true rfl) (fun x hl F hr hk hcs => ?_)
  subst hl
  refine z_ls [(0, zr G x0), (1, .int x1)] [0, 1] rfl ?_
  unfold fX10_enemyOf at h
  refine z_iconst (y := (-1 : Int32)) F dX10_enemyOf_0 rfl ?_
  refine z_istore_n F [(2, .int (-1 : Int32)), (0, zr G x0), (1, .int x1)] dX10_enemyOf_1 rfl (Nat.le_of_ble_eq_true rfl) rfl ?_
  refine z_iconst (y := (0 : Int32)) F dX10_enemyOf_2 rfl ?_
  refine z_istore_n F [(3, .int (0 : Int32)), (2, .int (-1 : Int32)), (0, zr G x0), (1, .int x1)] dX10_enemyOf_3 rfl (Nat.le_of_ble_eq_true rfl) rfl ?_
  refine z_ls [(0, zr G x0), (1, .int x1), (2, .int (-1 : Int32)), (3, .int (0 : Int32))] [2, 3, 1, 0] rfl ?_
  exact jX10_enemyOf_4 x G F hr hk r w   zFU x0 t0 x1 (-1 : Int32) (0 : Int32) v h

theorem dX10_enemy_0 : decode cX10_enemy 0 = .ok (.aload_n 0, 1) := by decide +kernel
theorem dX10_enemy_1 : decode cX10_enemy 1 = .ok (.iconst 0, 1) := by decide +kernel
theorem dX10_enemy_2 : decode cX10_enemy 2 = .ok (.putfield 134, 3) := by decide +kernel
theorem dX10_enemy_5 : decode cX10_enemy 5 = .ok (.aload_n 0, 1) := by decide +kernel
theorem dX10_enemy_6 : decode cX10_enemy 6 = .ok (.aload_n 0, 1) := by decide +kernel
theorem dX10_enemy_7 : decode cX10_enemy 7 = .ok (.iload_n 1, 1) := by decide +kernel
theorem dX10_enemy_8 : decode cX10_enemy 8 = .ok (.invokevirtual 298, 3) := by decide +kernel
theorem dX10_enemy_11 : decode cX10_enemy 11 = .ok (.ifCond .ne 7, 3) := by decide +kernel
theorem dX10_enemy_14 : decode cX10_enemy 14 = .ok (.iconst 1, 1) := by decide +kernel
theorem dX10_enemy_15 : decode cX10_enemy 15 = .ok (.goto 4, 3) := by decide +kernel
theorem dX10_enemy_18 : decode cX10_enemy 18 = .ok (.iconst 0, 1) := by decide +kernel
theorem dX10_enemy_19 : decode cX10_enemy 19 = .ok (.iconst 1, 1) := by decide +kernel
theorem dX10_enemy_20 : decode cX10_enemy 20 = .ok (.iconst 0, 1) := by decide +kernel
theorem dX10_enemy_21 : decode cX10_enemy 21 = .ok (.invokevirtual 220, 3) := by decide +kernel
theorem dX10_enemy_24 : decode cX10_enemy 24 = .ok (.ifCond .eq 5, 3) := by decide +kernel
theorem dX10_enemy_27 : decode cX10_enemy 27 = .ok (.iconst 0, 1) := by decide +kernel
theorem dX10_enemy_28 : decode cX10_enemy 28 = .ok (.ireturn, 1) := by decide +kernel
theorem dX10_enemy_29 : decode cX10_enemy 29 = .ok (.aload_n 0, 1) := by decide +kernel
theorem dX10_enemy_30 : decode cX10_enemy 30 = .ok (.iload_n 1, 1) := by decide +kernel
theorem dX10_enemy_31 : decode cX10_enemy 31 = .ok (.invokevirtual 398, 3) := by decide +kernel
theorem dX10_enemy_34 : decode cX10_enemy 34 = .ok (.ireturn, 1) := by decide +kernel
def fX10_enemy_19  (x0 : Nat) (x1 : Int32) (s0 : Nat) (s1 : Int32) (v : zV) : Option (Int32 × zV) :=
  zbind (fX10_bad s0 s1 (1 : Int32) (0 : Int32) v) fun r_2 v_1 =>
  if r_2 = (0 : Int32) then
    zbind (fX10_enemyOf x0 x1 v_1) fun r_4 v_3 =>
    some (r_4, v_3)
  else
    some ((0 : Int32), v_1)
set_option maxRecDepth 4000 in
theorem jX10_enemy_19 (x : zCx) (G : zG) (F : zF x G cX10_enemy 2 RX10 3 127) (hr : x.2.2.2.2.2.2.2.2.1.sig.returnType = (Option.some FieldType.int)) (hk : x.2.2.2.2.2.2.2.2.1.locks = false) (r : Int32) (w : zV)  : ∀ (x0 : Nat) (t0 : zty G x0 1 10) (x1 : Int32) (s0 : Nat) (ts0 : zty G s0 1 10) (s1 : Int32) (v : zV), fX10_enemy_19 x0 x1 s0 s1 v = some (r, w) → zJ x G 2 (zQ x G (some (.int r)) w 0 0) 0 0 19 [(0, zr G x0), (1, .int x1)] [.int s1, zr G s0] v := by
  intro x0 t0 x1 s0 ts0 s1 v h
  unfold fX10_enemy_19 at h
  refine z_iconst (y := (1 : Int32)) F dX10_enemy_19 rfl ?_
  refine z_iconst (y := (0 : Int32)) F dX10_enemy_20 rfl ?_
  obtain ⟨r_2, v_1, hq21, h⟩ := zbind_ex h
  refine z_callVi F [.int s1, .int (1 : Int32), .int (0 : Int32)] [] (kX10_bad x.2.1 G s0 ts0 s1 (1 : Int32) (0 : Int32) v r_2 v_1 hq21) mI_X10_bad (c := 10) rfl ts0 wM_X10_220 mi_X10_bad sl_X10_bad dX10_enemy_21 rfl ⟨Nat.le_of_ble_eq_true rfl, Nat.le_of_ble_eq_true rfl⟩ rfl (Nat.le_of_ble_eq_true rfl) ⟨Nat.zero_le _, Nat.zero_le _⟩ ?_
  refine z_if_eq F 29 dX10_enemy_24 rfl (fun hc => ?_) (fun hc => ?_)
  · replace h := zif_t hc h
    refine z_aload_n F dX10_enemy_29 rfl 0 rfl ?_
    refine z_iload_n F dX10_enemy_30 rfl 1 rfl ?_
    obtain ⟨r_4, v_3, hq31, h⟩ := zbind_ex h
    refine z_callVi F [.int x1] [] (kX10_enemyOf x.2.1 G x0 t0 x1 v_1 r_4 v_3 hq31) mI_X10_enemyOf (c := 10) rfl t0 wM_X10_398 mi_X10_enemyOf sl_X10_enemyOf dX10_enemy_31 rfl ⟨Nat.le_of_ble_eq_true rfl, Nat.le_of_ble_eq_true rfl⟩ rfl (Nat.le_of_ble_eq_true rfl) ⟨Nat.zero_le _, Nat.zero_le _⟩ ?_
    cases h
    exact z_reti F hr hk dX10_enemy_34
  · replace h := zif_f hc h
    refine z_iconst (y := (0 : Int32)) F dX10_enemy_27 rfl ?_
    cases h
    exact z_reti F hr hk dX10_enemy_28

def fX10_enemy (x0 : Nat) (x1 : Int32) (v : zV) : Option (Int32 × zV) :=
  zlet (zup v x0 0 (0 : Int32)) fun v_1 =>
  zbind (fX10_isMan x0 x1 v_1) fun r_3 v_2 =>
  if r_3 = (0 : Int32) then
    fX10_enemy_19  x0 x1 x0 (1 : Int32) v_2
  else
    fX10_enemy_19  x0 x1 x0 (0 : Int32) v_2
set_option maxRecDepth 4000 in
theorem kX10_enemy (l : Launch) (G : zG) (x0 : Nat) (t0 : zty G x0 1 10) (x1 : Int32) (v : zV) (r : Int32) (w : zV) (h : fX10_enemy x0 x1 v = some (r, w)) : zMet l yX10_enemy cX10_enemy 2 (Option.some FieldType.int) 3 127 0 0 [zr G x0, .int x1] G v (some (.int r)) w := by
  refine zM_of (own := RX10) (by decide) rfl (Nat.le_of_ble_eq_true rfl) (fun x hl F hr hk hcs => ?_)
  subst hl
  refine z_ls [(0, zr G x0), (1, .int x1)] [0, 1] rfl ?_
  unfold fX10_enemy at h
  refine z_aload_n F dX10_enemy_0 rfl 0 rfl ?_
  refine z_iconst (y := (0 : Int32)) F dX10_enemy_1 rfl ?_
  refine zp_10_0 F t0 wF_X10_134 dX10_enemy_2 ?_
  obtain ⟨v_1, ev_1, h⟩ := zlet_ex h
  refine z_heap ev_1 ?_
  refine z_aload_n F dX10_enemy_5 rfl 0 rfl ?_
  refine z_aload_n F dX10_enemy_6 rfl 0 rfl ?_
  refine z_iload_n F dX10_enemy_7 rfl 1 rfl ?_
  obtain ⟨r_3, v_2, hq8, h⟩ := zbind_ex h
  refine z_callVi F [.int x1] [zr G x0] (kX10_isMan x.2.1 G x0 t0 x1 v_1 r_3 v_2 hq8) mI_X10_isMan (c := 10) rfl t0 wM_X10_298 mi_X10_isMan sl_X10_isMan dX10_enemy_8 rfl ⟨Nat.le_of_ble_eq_true rfl, Nat.le_of_ble_eq_true rfl⟩ rfl (Nat.le_of_ble_eq_true rfl) ⟨Nat.zero_le _, Nat.zero_le _⟩ ?_
  refine z_if_ne F 18 dX10_enemy_11 rfl (fun hc => ?_) (fun hc => ?_)
  · replace h := zif_f hc h
    refine z_iconst (y := (0 : Int32)) F dX10_enemy_18 rfl ?_
    refine z_ls [(0, zr G x0), (1, .int x1)] [0, 1] rfl ?_
    exact jX10_enemy_19 x G F hr hk r w   x0 t0 x1 x0 t0 (0 : Int32) v_2 h
  · replace h := zif_t hc h
    refine z_iconst (y := (1 : Int32)) F dX10_enemy_14 rfl ?_
    refine z_goto F 19 dX10_enemy_15 rfl ?_
    refine z_ls [(0, zr G x0), (1, .int x1)] [0, 1] rfl ?_
    exact jX10_enemy_19 x G F hr hk r w   x0 t0 x1 x0 t0 (1 : Int32) v_2 h

theorem dX10_ringOf_0 : decode cX10_ringOf 0 = .ok (.iload_n 1, 1) := by decide +kernel
theorem dX10_ringOf_1 : decode cX10_ringOf 1 = .ok (.istore_n 2, 1) := by decide +kernel
theorem dX10_ringOf_2 : decode cX10_ringOf 2 = .ok (.iconst 0, 1) := by decide +kernel
theorem dX10_ringOf_3 : decode cX10_ringOf 3 = .ok (.istore_n 3, 1) := by decide +kernel
theorem dX10_ringOf_4 : decode cX10_ringOf 4 = .ok (.iconst 0, 1) := by decide +kernel
theorem dX10_ringOf_5 : decode cX10_ringOf 5 = .ok (.istore 4, 2) := by decide +kernel
theorem dX10_ringOf_7 : decode cX10_ringOf 7 = .ok (.iload 4, 2) := by decide +kernel
theorem dX10_ringOf_9 : decode cX10_ringOf 9 = .ok (.bipush 16, 2) := by decide +kernel
theorem dX10_ringOf_11 : decode cX10_ringOf 11 = .ok (.if_icmp .gt 15, 3) := by decide +kernel
theorem dX10_ringOf_14 : decode cX10_ringOf 14 = .ok (.aload_n 0, 1) := by decide +kernel
theorem dX10_ringOf_15 : decode cX10_ringOf 15 = .ok (.iload_n 2, 1) := by decide +kernel
theorem dX10_ringOf_16 : decode cX10_ringOf 16 = .ok (.invokevirtual 398, 3) := by decide +kernel
theorem dX10_ringOf_19 : decode cX10_ringOf 19 = .ok (.istore_n 2, 1) := by decide +kernel
theorem dX10_ringOf_20 : decode cX10_ringOf 20 = .ok (.iinc 4 1, 3) := by decide +kernel
theorem dX10_ringOf_23 : decode cX10_ringOf 23 = .ok (.goto (-16), 3) := by decide +kernel
theorem dX10_ringOf_26 : decode cX10_ringOf 26 = .ok (.iconst 0, 1) := by decide +kernel
theorem dX10_ringOf_27 : decode cX10_ringOf 27 = .ok (.istore 4, 2) := by decide +kernel
theorem dX10_ringOf_29 : decode cX10_ringOf 29 = .ok (.iload 4, 2) := by decide +kernel
theorem dX10_ringOf_31 : decode cX10_ringOf 31 = .ok (.bipush 16, 2) := by decide +kernel
theorem dX10_ringOf_33 : decode cX10_ringOf 33 = .ok (.if_icmp .ge 21, 3) := by decide +kernel
theorem dX10_ringOf_36 : decode cX10_ringOf 36 = .ok (.iload_n 3, 1) := by decide +kernel
theorem dX10_ringOf_37 : decode cX10_ringOf 37 = .ok (.iconst 1, 1) := by decide +kernel
theorem dX10_ringOf_38 : decode cX10_ringOf 38 = .ok (.iload_n 2, 1) := by decide +kernel
theorem dX10_ringOf_39 : decode cX10_ringOf 39 = .ok (.ishl, 1) := by decide +kernel
theorem dX10_ringOf_40 : decode cX10_ringOf 40 = .ok (.ior, 1) := by decide +kernel
theorem dX10_ringOf_41 : decode cX10_ringOf 41 = .ok (.istore_n 3, 1) := by decide +kernel
theorem dX10_ringOf_42 : decode cX10_ringOf 42 = .ok (.aload_n 0, 1) := by decide +kernel
theorem dX10_ringOf_43 : decode cX10_ringOf 43 = .ok (.iload_n 2, 1) := by decide +kernel
theorem dX10_ringOf_44 : decode cX10_ringOf 44 = .ok (.invokevirtual 398, 3) := by decide +kernel
theorem dX10_ringOf_47 : decode cX10_ringOf 47 = .ok (.istore_n 2, 1) := by decide +kernel
theorem dX10_ringOf_48 : decode cX10_ringOf 48 = .ok (.iinc 4 1, 3) := by decide +kernel
theorem dX10_ringOf_51 : decode cX10_ringOf 51 = .ok (.goto (-22), 3) := by decide +kernel
theorem dX10_ringOf_54 : decode cX10_ringOf 54 = .ok (.iload_n 3, 1) := by decide +kernel
theorem dX10_ringOf_55 : decode cX10_ringOf 55 = .ok (.ireturn, 1) := by decide +kernel
def fX10_ringOf_29  : Nat → Nat → Int32 → Int32 → Int32 → zV → Option (Int32 × zV)
  | 0 => fun _ _ _ _ _ => none
  | n + 1 => fun x0 x2 x3 x4 v =>
    if (16 : Int32) ≤ x4 then
      some (x3, v)
    else
      zbind (fX10_enemyOf x0 x2 v) fun r_2 v_1 =>
      (fX10_ringOf_29 n) x0 r_2 (x3 ||| ((1 : Int32) <<< (x2 &&& 31))) (x4 + (1 : Int32)) v_1
set_option maxRecDepth 4000 in
theorem jX10_ringOf_29 (x : zCx) (G : zG) (F : zF x G cX10_ringOf 5 RX10 3 127) (hr : x.2.2.2.2.2.2.2.2.1.sig.returnType = (Option.some FieldType.int)) (hk : x.2.2.2.2.2.2.2.2.1.locks = false) (r : Int32) (w : zV)  : ∀ (n : Nat) (x0 : Nat) (t0 : zty G x0 1 10) (x2 : Int32) (x3 : Int32) (x4 : Int32) (v : zV), fX10_ringOf_29 n x0 x2 x3 x4 v = some (r, w) → zJ x G 5 (zQ x G (some (.int r)) w 0 0) 0 0 29 [(0, zr G x0), (2, .int x2), (3, .int x3), (4, .int x4)] [] v := by
  intro n
  induction n with
  | zero => intro x0 t0 x2 x3 x4 v h; exact absurd h (by intro q; cases q)
  | succ n ih =>
    intro x0 t0 x2 x3 x4 v h
    rw [fX10_ringOf_29] at h
    dsimp only at h
    refine z_iload F dX10_ringOf_29 3 rfl ?_
    refine z_bipush (y := (16 : Int32)) F dX10_ringOf_31 rfl ?_
    refine z_icmp_ge F 54 dX10_ringOf_33 rfl (fun hc => ?_) (fun hc => ?_)
    · replace h := zif_t hc h
      refine z_iload_n F dX10_ringOf_54 rfl 2 rfl ?_
      cases h
      exact z_reti F hr hk dX10_ringOf_55
    · replace h := zif_f hc h
      refine z_iload_n F dX10_ringOf_36 rfl 2 rfl ?_
      refine z_iconst (y := (1 : Int32)) F dX10_ringOf_37 rfl ?_
      refine z_iload_n F dX10_ringOf_38 rfl 1 rfl ?_
      refine z_ishl F dX10_ringOf_39 ?_
      refine z_ior F dX10_ringOf_40 ?_
      refine z_istore_n F [(3, .int (x3 ||| ((1 : Int32) <<< (x2 &&& 31)))), (0, zr G x0), (2, .int x2), (4, .int x4)] dX10_ringOf_41 rfl (Nat.le_of_ble_eq_true rfl) rfl ?_
      refine z_aload_n F dX10_ringOf_42 rfl 1 rfl ?_
      refine z_iload_n F dX10_ringOf_43 rfl 2 rfl ?_
      obtain ⟨r_2, v_1, hq44, h⟩ := zbind_ex h
      refine z_callVi F [.int x2] [] (kX10_enemyOf x.2.1 G x0 t0 x2 v r_2 v_1 hq44) mI_X10_enemyOf (c := 10) rfl t0 wM_X10_398 mi_X10_enemyOf sl_X10_enemyOf dX10_ringOf_44 rfl ⟨Nat.le_of_ble_eq_true rfl, Nat.le_of_ble_eq_true rfl⟩ rfl (Nat.le_of_ble_eq_true rfl) ⟨Nat.zero_le _, Nat.zero_le _⟩ ?_
      refine z_istore_n F [(2, .int r_2), (3, .int (x3 ||| ((1 : Int32) <<< (x2 &&& 31)))), (0, zr G x0), (4, .int x4)] dX10_ringOf_47 rfl (Nat.le_of_ble_eq_true rfl) rfl ?_
      refine z_iinc F [(4, .int (x4 + (1 : Int32))), (2, .int r_2), (3, .int (x3 ||| ((1 : Int32) <<< (x2 &&& 31)))), (0, zr G x0)] dX10_ringOf_48 3 rfl rfl (Nat.le_of_ble_eq_true rfl) rfl ?_
      refine z_goto F 29 dX10_ringOf_51 rfl ?_
      refine z_ls [(0, zr G x0), (2, .int r_2), (3, .int (x3 ||| ((1 : Int32) <<< (x2 &&& 31)))), (4, .int (x4 + (1 : Int32)))] [3, 1, 2, 0] rfl ?_
      exact ih x0 t0 r_2 (x3 ||| ((1 : Int32) <<< (x2 &&& 31))) (x4 + (1 : Int32)) v_1 h

def fX10_ringOf_7  : Nat → Nat → Int32 → Int32 → Int32 → zV → Option (Int32 × zV)
  | 0 => fun _ _ _ _ _ => none
  | n + 1 => fun x0 x2 x3 x4 v =>
    if (16 : Int32) < x4 then
      fX10_ringOf_29  zFU x0 x2 x3 (0 : Int32) v
    else
      zbind (fX10_enemyOf x0 x2 v) fun r_2 v_1 =>
      (fX10_ringOf_7 n) x0 r_2 x3 (x4 + (1 : Int32)) v_1
set_option maxRecDepth 4000 in
theorem jX10_ringOf_7 (x : zCx) (G : zG) (F : zF x G cX10_ringOf 5 RX10 3 127) (hr : x.2.2.2.2.2.2.2.2.1.sig.returnType = (Option.some FieldType.int)) (hk : x.2.2.2.2.2.2.2.2.1.locks = false) (r : Int32) (w : zV)  : ∀ (n : Nat) (x0 : Nat) (t0 : zty G x0 1 10) (x2 : Int32) (x3 : Int32) (x4 : Int32) (v : zV), fX10_ringOf_7 n x0 x2 x3 x4 v = some (r, w) → zJ x G 5 (zQ x G (some (.int r)) w 0 0) 0 0 7 [(0, zr G x0), (2, .int x2), (3, .int x3), (4, .int x4)] [] v := by
  intro n
  induction n with
  | zero => intro x0 t0 x2 x3 x4 v h; exact absurd h (by intro q; cases q)
  | succ n ih =>
    intro x0 t0 x2 x3 x4 v h
    rw [fX10_ringOf_7] at h
    dsimp only at h
    refine z_iload F dX10_ringOf_7 3 rfl ?_
    refine z_bipush (y := (16 : Int32)) F dX10_ringOf_9 rfl ?_
    refine z_icmp_gt F 26 dX10_ringOf_11 rfl (fun hc => ?_) (fun hc => ?_)
    · replace h := zif_t hc h
      refine z_iconst (y := (0 : Int32)) F dX10_ringOf_26 rfl ?_
      refine z_istore (n := 0) F [(4, .int (0 : Int32)), (0, zr G x0), (2, .int x2), (3, .int x3)] dX10_ringOf_27 (Nat.le_of_ble_eq_true rfl) rfl ?_
      refine z_ls [(0, zr G x0), (2, .int x2), (3, .int x3), (4, .int (0 : Int32))] [1, 2, 3, 0] rfl ?_
      exact jX10_ringOf_29 x G F hr hk r w   zFU x0 t0 x2 x3 (0 : Int32) v h
    · replace h := zif_f hc h
      refine z_aload_n F dX10_ringOf_14 rfl 0 rfl ?_
      refine z_iload_n F dX10_ringOf_15 rfl 1 rfl ?_
      obtain ⟨r_2, v_1, hq16, h⟩ := zbind_ex h
      refine z_callVi F [.int x2] [] (kX10_enemyOf x.2.1 G x0 t0 x2 v r_2 v_1 hq16) mI_X10_enemyOf (c := 10) rfl t0 wM_X10_398 mi_X10_enemyOf sl_X10_enemyOf dX10_ringOf_16 rfl ⟨Nat.le_of_ble_eq_true rfl, Nat.le_of_ble_eq_true rfl⟩ rfl (Nat.le_of_ble_eq_true rfl) ⟨Nat.zero_le _, Nat.zero_le _⟩ ?_
      refine z_istore_n F [(2, .int r_2), (0, zr G x0), (3, .int x3), (4, .int x4)] dX10_ringOf_19 rfl (Nat.le_of_ble_eq_true rfl) rfl ?_
      refine z_iinc F [(4, .int (x4 + (1 : Int32))), (2, .int r_2), (0, zr G x0), (3, .int x3)] dX10_ringOf_20 3 rfl rfl (Nat.le_of_ble_eq_true rfl) rfl ?_
      refine z_goto F 7 dX10_ringOf_23 rfl ?_
      refine z_ls [(0, zr G x0), (2, .int r_2), (3, .int x3), (4, .int (x4 + (1 : Int32)))] [2, 1, 3, 0] rfl ?_
      exact ih x0 t0 r_2 x3 (x4 + (1 : Int32)) v_1 h

def fX10_ringOf (x0 : Nat) (x1 : Int32) (v : zV) : Option (Int32 × zV) :=
  fX10_ringOf_7  zFU x0 x1 (0 : Int32) (0 : Int32) v
set_option maxRecDepth 4000 in
theorem kX10_ringOf (l : Launch) (G : zG) (x0 : Nat) (t0 : zty G x0 1 10) (x1 : Int32) (v : zV) (r : Int32) (w : zV) (h : fX10_ringOf x0 x1 v = some (r, w)) : zMet l yX10_ringOf cX10_ringOf 5 (Option.some FieldType.int) 3 127 0 0 [zr G x0, .int x1] G v (some (.int r)) w := by
  refine zM_of (own := RX10) (by decide) rfl (Nat.le_of_ble_eq_true rfl) (fun x hl F hr hk hcs => ?_)
  subst hl
  refine z_ls [(0, zr G x0), (1, .int x1)] [0, 1] rfl ?_
  unfold fX10_ringOf at h
  refine z_iload_n F dX10_ringOf_0 rfl 1 rfl ?_
  refine z_istore_n F [(2, .int x1), (0, zr G x0), (1, .int x1)] dX10_ringOf_1 rfl (Nat.le_of_ble_eq_true rfl) rfl ?_
  refine z_iconst (y := (0 : Int32)) F dX10_ringOf_2 rfl ?_
  refine z_istore_n F [(3, .int (0 : Int32)), (2, .int x1), (0, zr G x0), (1, .int x1)] dX10_ringOf_3 rfl (Nat.le_of_ble_eq_true rfl) rfl ?_
  refine z_iconst (y := (0 : Int32)) F dX10_ringOf_4 rfl ?_
  refine z_istore (n := 0) F [(4, .int (0 : Int32)), (3, .int (0 : Int32)), (2, .int x1), (0, zr G x0), (1, .int x1)] dX10_ringOf_5 (Nat.le_of_ble_eq_true rfl) rfl ?_
  refine z_ls [(0, zr G x0), (2, .int x1), (3, .int (0 : Int32)), (4, .int (0 : Int32))] [3, 2, 1, 0] rfl ?_
  exact jX10_ringOf_7 x G F hr hk r w   zFU x0 t0 x1 (0 : Int32) (0 : Int32) v h

theorem dX10_ones_0 : decode cX10_ones 0 = .ok (.iconst 0, 1) := by decide +kernel
theorem dX10_ones_1 : decode cX10_ones 1 = .ok (.istore_n 1, 1) := by decide +kernel
theorem dX10_ones_2 : decode cX10_ones 2 = .ok (.iconst 0, 1) := by decide +kernel
theorem dX10_ones_3 : decode cX10_ones 3 = .ok (.istore_n 2, 1) := by decide +kernel
theorem dX10_ones_4 : decode cX10_ones 4 = .ok (.iload_n 2, 1) := by decide +kernel
theorem dX10_ones_5 : decode cX10_ones 5 = .ok (.bipush 16, 2) := by decide +kernel
theorem dX10_ones_7 : decode cX10_ones 7 = .ok (.if_icmp .ge 17, 3) := by decide +kernel
theorem dX10_ones_10 : decode cX10_ones 10 = .ok (.iload_n 1, 1) := by decide +kernel
theorem dX10_ones_11 : decode cX10_ones 11 = .ok (.iload_n 0, 1) := by decide +kernel
theorem dX10_ones_12 : decode cX10_ones 12 = .ok (.iload_n 2, 1) := by decide +kernel
theorem dX10_ones_13 : decode cX10_ones 13 = .ok (.ishr, 1) := by decide +kernel
theorem dX10_ones_14 : decode cX10_ones 14 = .ok (.iconst 1, 1) := by decide +kernel
theorem dX10_ones_15 : decode cX10_ones 15 = .ok (.iand, 1) := by decide +kernel
theorem dX10_ones_16 : decode cX10_ones 16 = .ok (.iadd, 1) := by decide +kernel
theorem dX10_ones_17 : decode cX10_ones 17 = .ok (.istore_n 1, 1) := by decide +kernel
theorem dX10_ones_18 : decode cX10_ones 18 = .ok (.iinc 2 1, 3) := by decide +kernel
theorem dX10_ones_21 : decode cX10_ones 21 = .ok (.goto (-17), 3) := by decide +kernel
theorem dX10_ones_24 : decode cX10_ones 24 = .ok (.iload_n 1, 1) := by decide +kernel
theorem dX10_ones_25 : decode cX10_ones 25 = .ok (.ireturn, 1) := by decide +kernel
def fX10_ones_4  : Nat → Int32 → Int32 → Int32 → zV → Option (Int32 × zV)
  | 0 => fun _ _ _ _ => none
  | n + 1 => fun x0 x1 x2 v =>
    if (16 : Int32) ≤ x2 then
      some (x1, v)
    else
      (fX10_ones_4 n) x0 (x1 + ((x0 >>> (x2 &&& 31)) &&& (1 : Int32))) (x2 + (1 : Int32)) v
set_option maxRecDepth 4000 in
theorem jX10_ones_4 (x : zCx) (G : zG) (F : zF x G cX10_ones 3 RX10 1 80) (hr : x.2.2.2.2.2.2.2.2.1.sig.returnType = (Option.some FieldType.int)) (hk : x.2.2.2.2.2.2.2.2.1.locks = false) (r : Int32) (w : zV)  : ∀ (n : Nat) (x0 : Int32) (x1 : Int32) (x2 : Int32) (v : zV), fX10_ones_4 n x0 x1 x2 v = some (r, w) → zJ x G 3 (zQ x G (some (.int r)) w 0 0) 0 0 4 [(0, .int x0), (1, .int x1), (2, .int x2)] [] v := by
  intro n
  induction n with
  | zero => intro x0 x1 x2 v h; exact absurd h (by intro q; cases q)
  | succ n ih =>
    intro x0 x1 x2 v h
    rw [fX10_ones_4] at h
    dsimp only at h
    refine z_iload_n F dX10_ones_4 rfl 2 rfl ?_
    refine z_bipush (y := (16 : Int32)) F dX10_ones_5 rfl ?_
    refine z_icmp_ge F 24 dX10_ones_7 rfl (fun hc => ?_) (fun hc => ?_)
    · replace h := zif_t hc h
      refine z_iload_n F dX10_ones_24 rfl 1 rfl ?_
      cases h
      exact z_reti F hr hk dX10_ones_25
    · replace h := zif_f hc h
      refine z_iload_n F dX10_ones_10 rfl 1 rfl ?_
      refine z_iload_n F dX10_ones_11 rfl 0 rfl ?_
      refine z_iload_n F dX10_ones_12 rfl 2 rfl ?_
      refine z_ishr F dX10_ones_13 ?_
      refine z_iconst (y := (1 : Int32)) F dX10_ones_14 rfl ?_
      refine z_iand F dX10_ones_15 ?_
      refine z_iadd F dX10_ones_16 ?_
      refine z_istore_n F [(1, .int (x1 + ((x0 >>> (x2 &&& 31)) &&& (1 : Int32)))), (0, .int x0), (2, .int x2)] dX10_ones_17 rfl (Nat.le_of_ble_eq_true rfl) rfl ?_
      refine z_iinc F [(2, .int (x2 + (1 : Int32))), (1, .int (x1 + ((x0 >>> (x2 &&& 31)) &&& (1 : Int32)))), (0, .int x0)] dX10_ones_18 2 rfl rfl (Nat.le_of_ble_eq_true rfl) rfl ?_
      refine z_goto F 4 dX10_ones_21 rfl ?_
      refine z_ls [(0, .int x0), (1, .int (x1 + ((x0 >>> (x2 &&& 31)) &&& (1 : Int32)))), (2, .int (x2 + (1 : Int32)))] [2, 1, 0] rfl ?_
      exact ih x0 (x1 + ((x0 >>> (x2 &&& 31)) &&& (1 : Int32))) (x2 + (1 : Int32)) v h

def fX10_ones (x0 : Int32) (v : zV) : Option (Int32 × zV) :=
  fX10_ones_4  zFU x0 (0 : Int32) (0 : Int32) v
set_option maxRecDepth 4000 in
theorem kX10_ones (l : Launch) (G : zG) (x0 : Int32) (v : zV) (r : Int32) (w : zV) (h : fX10_ones x0 v = some (r, w)) : zMet l yX10_ones cX10_ones 3 (Option.some FieldType.int) 1 80 0 0 [.int x0] G v (some (.int r)) w := by
  refine zM_of (own := RX10) (by decide) rfl (Nat.le_of_ble_eq_true rfl) (fun x hl F hr hk hcs => ?_)
  subst hl
  refine z_ls [(0, .int x0)] [0] rfl ?_
  unfold fX10_ones at h
  refine z_iconst (y := (0 : Int32)) F dX10_ones_0 rfl ?_
  refine z_istore_n F [(1, .int (0 : Int32)), (0, .int x0)] dX10_ones_1 rfl (Nat.le_of_ble_eq_true rfl) rfl ?_
  refine z_iconst (y := (0 : Int32)) F dX10_ones_2 rfl ?_
  refine z_istore_n F [(2, .int (0 : Int32)), (1, .int (0 : Int32)), (0, .int x0)] dX10_ones_3 rfl (Nat.le_of_ble_eq_true rfl) rfl ?_
  refine z_ls [(0, .int x0), (1, .int (0 : Int32)), (2, .int (0 : Int32))] [2, 1, 0] rfl ?_
  exact jX10_ones_4 x G F hr hk r w   zFU x0 (0 : Int32) (0 : Int32) v h

theorem dX10_hasRing_0 : decode cX10_hasRing 0 = .ok (.aload_n 0, 1) := by decide +kernel
theorem dX10_hasRing_1 : decode cX10_hasRing 1 = .ok (.iload_n 1, 1) := by decide +kernel
theorem dX10_hasRing_2 : decode cX10_hasRing 2 = .ok (.invokevirtual 398, 3) := by decide +kernel
theorem dX10_hasRing_5 : decode cX10_hasRing 5 = .ok (.iconst (-1), 1) := by decide +kernel
theorem dX10_hasRing_6 : decode cX10_hasRing 6 = .ok (.if_icmp .eq 20, 3) := by decide +kernel
theorem dX10_hasRing_9 : decode cX10_hasRing 9 = .ok (.aload_n 0, 1) := by decide +kernel
theorem dX10_hasRing_10 : decode cX10_hasRing 10 = .ok (.aload_n 0, 1) := by decide +kernel
theorem dX10_hasRing_11 : decode cX10_hasRing 11 = .ok (.iload_n 1, 1) := by decide +kernel
theorem dX10_hasRing_12 : decode cX10_hasRing 12 = .ok (.invokevirtual 398, 3) := by decide +kernel
theorem dX10_hasRing_15 : decode cX10_hasRing 15 = .ok (.invokevirtual 398, 3) := by decide +kernel
theorem dX10_hasRing_18 : decode cX10_hasRing 18 = .ok (.iconst (-1), 1) := by decide +kernel
theorem dX10_hasRing_19 : decode cX10_hasRing 19 = .ok (.if_icmp .eq 7, 3) := by decide +kernel
theorem dX10_hasRing_22 : decode cX10_hasRing 22 = .ok (.iconst 1, 1) := by decide +kernel
theorem dX10_hasRing_23 : decode cX10_hasRing 23 = .ok (.goto 4, 3) := by decide +kernel
theorem dX10_hasRing_26 : decode cX10_hasRing 26 = .ok (.iconst 0, 1) := by decide +kernel
theorem dX10_hasRing_27 : decode cX10_hasRing 27 = .ok (.ireturn, 1) := by decide +kernel
def fX10_hasRing (x0 : Nat) (x1 : Int32) (v : zV) : Option (Int32 × zV) :=
  zbind (fX10_enemyOf x0 x1 v) fun r_2 v_1 =>
  if r_2 = (-1 : Int32) then
    some ((0 : Int32), v_1)
  else
    zbind (fX10_enemyOf x0 x1 v_1) fun r_4 v_3 =>
    zbind (fX10_enemyOf x0 r_4 v_3) fun r_6 v_5 =>
    if r_6 = (-1 : Int32) then
      some ((0 : Int32), v_5)
    else
      some ((1 : Int32), v_5)
set_option maxRecDepth 4000 in
theorem kX10_hasRing (l : Launch) (G : zG) (x0 : Nat) (t0 : zty G x0 1 10) (x1 : Int32) (v : zV) (r : Int32) (w : zV) (h : fX10_hasRing x0 x1 v = some (r, w)) : zMet l yX10_hasRing cX10_hasRing 2 (Option.some FieldType.boolean) 3 127 0 0 [zr G x0, .int x1] G v (some (.int r)) w := by
  refine zM_of (own := RX10) (by decide) rfl (Nat.le_of_ble_eq_true rfl) (fun x hl F hr hk hcs => ?_)
  subst hl
  refine z_ls [(0, zr G x0), (1, .int x1)] [0, 1] rfl ?_
  unfold fX10_hasRing at h
  refine z_aload_n F dX10_hasRing_0 rfl 0 rfl ?_
  refine z_iload_n F dX10_hasRing_1 rfl 1 rfl ?_
  obtain ⟨r_2, v_1, hq2, h⟩ := zbind_ex h
  refine z_callVi F [.int x1] [] (kX10_enemyOf x.2.1 G x0 t0 x1 v r_2 v_1 hq2) mI_X10_enemyOf (c := 10) rfl t0 wM_X10_398 mi_X10_enemyOf sl_X10_enemyOf dX10_hasRing_2 rfl ⟨Nat.le_of_ble_eq_true rfl, Nat.le_of_ble_eq_true rfl⟩ rfl (Nat.le_of_ble_eq_true rfl) ⟨Nat.zero_le _, Nat.zero_le _⟩ ?_
  refine z_iconst (y := (-1 : Int32)) F dX10_hasRing_5 rfl ?_
  refine z_icmp_eq F 26 dX10_hasRing_6 rfl (fun hc => ?_) (fun hc => ?_)
  · replace h := zif_t hc h
    refine z_iconst (y := (0 : Int32)) F dX10_hasRing_26 rfl ?_
    cases h
    exact z_retz F hr hk rfl dX10_hasRing_27
  · replace h := zif_f hc h
    refine z_aload_n F dX10_hasRing_9 rfl 0 rfl ?_
    refine z_aload_n F dX10_hasRing_10 rfl 0 rfl ?_
    refine z_iload_n F dX10_hasRing_11 rfl 1 rfl ?_
    obtain ⟨r_4, v_3, hq12, h⟩ := zbind_ex h
    refine z_callVi F [.int x1] [zr G x0] (kX10_enemyOf x.2.1 G x0 t0 x1 v_1 r_4 v_3 hq12) mI_X10_enemyOf (c := 10) rfl t0 wM_X10_398 mi_X10_enemyOf sl_X10_enemyOf dX10_hasRing_12 rfl ⟨Nat.le_of_ble_eq_true rfl, Nat.le_of_ble_eq_true rfl⟩ rfl (Nat.le_of_ble_eq_true rfl) ⟨Nat.zero_le _, Nat.zero_le _⟩ ?_
    obtain ⟨r_6, v_5, hq15, h⟩ := zbind_ex h
    refine z_callVi F [.int r_4] [] (kX10_enemyOf x.2.1 G x0 t0 r_4 v_3 r_6 v_5 hq15) mI_X10_enemyOf (c := 10) rfl t0 wM_X10_398 mi_X10_enemyOf sl_X10_enemyOf dX10_hasRing_15 rfl ⟨Nat.le_of_ble_eq_true rfl, Nat.le_of_ble_eq_true rfl⟩ rfl (Nat.le_of_ble_eq_true rfl) ⟨Nat.zero_le _, Nat.zero_le _⟩ ?_
    refine z_iconst (y := (-1 : Int32)) F dX10_hasRing_18 rfl ?_
    refine z_icmp_eq F 26 dX10_hasRing_19 rfl (fun hc => ?_) (fun hc => ?_)
    · replace h := zif_t hc h
      refine z_iconst (y := (0 : Int32)) F dX10_hasRing_26 rfl ?_
      cases h
      exact z_retz F hr hk rfl dX10_hasRing_27
    · replace h := zif_f hc h
      refine z_iconst (y := (1 : Int32)) F dX10_hasRing_22 rfl ?_
      refine z_goto F 27 dX10_hasRing_23 rfl ?_
      cases h
      exact z_retz F hr hk rfl dX10_hasRing_27

theorem dX10_ring_0 : decode cX10_ring 0 = .ok (.aload_n 0, 1) := by decide +kernel
theorem dX10_ring_1 : decode cX10_ring 1 = .ok (.iconst 0, 1) := by decide +kernel
theorem dX10_ring_2 : decode cX10_ring 2 = .ok (.putfield 134, 3) := by decide +kernel
theorem dX10_ring_5 : decode cX10_ring 5 = .ok (.aload_n 0, 1) := by decide +kernel
theorem dX10_ring_6 : decode cX10_ring 6 = .ok (.aload_n 0, 1) := by decide +kernel
theorem dX10_ring_7 : decode cX10_ring 7 = .ok (.iload_n 1, 1) := by decide +kernel
theorem dX10_ring_8 : decode cX10_ring 8 = .ok (.invokevirtual 298, 3) := by decide +kernel
theorem dX10_ring_11 : decode cX10_ring 11 = .ok (.ifCond .ne 7, 3) := by decide +kernel
theorem dX10_ring_14 : decode cX10_ring 14 = .ok (.iconst 1, 1) := by decide +kernel
theorem dX10_ring_15 : decode cX10_ring 15 = .ok (.goto 4, 3) := by decide +kernel
theorem dX10_ring_18 : decode cX10_ring 18 = .ok (.iconst 0, 1) := by decide +kernel
theorem dX10_ring_19 : decode cX10_ring 19 = .ok (.iconst 1, 1) := by decide +kernel
theorem dX10_ring_20 : decode cX10_ring 20 = .ok (.iconst 0, 1) := by decide +kernel
theorem dX10_ring_21 : decode cX10_ring 21 = .ok (.invokevirtual 220, 3) := by decide +kernel
theorem dX10_ring_24 : decode cX10_ring 24 = .ok (.ifCond .ne 26, 3) := by decide +kernel
theorem dX10_ring_27 : decode cX10_ring 27 = .ok (.aload_n 0, 1) := by decide +kernel
theorem dX10_ring_28 : decode cX10_ring 28 = .ok (.iload_n 2, 1) := by decide +kernel
theorem dX10_ring_29 : decode cX10_ring 29 = .ok (.iconst 0, 1) := by decide +kernel
theorem dX10_ring_30 : decode cX10_ring 30 = .ok (.iconst 1, 1) := by decide +kernel
theorem dX10_ring_31 : decode cX10_ring 31 = .ok (.invokestatic 168, 3) := by decide +kernel
theorem dX10_ring_34 : decode cX10_ring 34 = .ok (.ifCond .ne 7, 3) := by decide +kernel
theorem dX10_ring_37 : decode cX10_ring 37 = .ok (.iconst 1, 1) := by decide +kernel
theorem dX10_ring_38 : decode cX10_ring 38 = .ok (.goto 4, 3) := by decide +kernel
theorem dX10_ring_41 : decode cX10_ring 41 = .ok (.iconst 0, 1) := by decide +kernel
theorem dX10_ring_42 : decode cX10_ring 42 = .ok (.iconst 2, 1) := by decide +kernel
theorem dX10_ring_43 : decode cX10_ring 43 = .ok (.iconst 1, 1) := by decide +kernel
theorem dX10_ring_44 : decode cX10_ring 44 = .ok (.invokevirtual 220, 3) := by decide +kernel
theorem dX10_ring_47 : decode cX10_ring 47 = .ok (.ifCond .eq 5, 3) := by decide +kernel
theorem dX10_ring_50 : decode cX10_ring 50 = .ok (.iconst 0, 1) := by decide +kernel
theorem dX10_ring_51 : decode cX10_ring 51 = .ok (.ireturn, 1) := by decide +kernel
theorem dX10_ring_52 : decode cX10_ring 52 = .ok (.aload_n 0, 1) := by decide +kernel
theorem dX10_ring_53 : decode cX10_ring 53 = .ok (.iload_n 1, 1) := by decide +kernel
theorem dX10_ring_54 : decode cX10_ring 54 = .ok (.invokevirtual 401, 3) := by decide +kernel
theorem dX10_ring_57 : decode cX10_ring 57 = .ok (.ifCond .ne 13, 3) := by decide +kernel
theorem dX10_ring_60 : decode cX10_ring 60 = .ok (.iload_n 2, 1) := by decide +kernel
theorem dX10_ring_61 : decode cX10_ring 61 = .ok (.ifCond .ne 7, 3) := by decide +kernel
theorem dX10_ring_64 : decode cX10_ring 64 = .ok (.iconst 0, 1) := by decide +kernel
theorem dX10_ring_65 : decode cX10_ring 65 = .ok (.goto 4, 3) := by decide +kernel
theorem dX10_ring_68 : decode cX10_ring 68 = .ok (.iconst (-1), 1) := by decide +kernel
theorem dX10_ring_69 : decode cX10_ring 69 = .ok (.ireturn, 1) := by decide +kernel
theorem dX10_ring_70 : decode cX10_ring 70 = .ok (.aload_n 0, 1) := by decide +kernel
theorem dX10_ring_71 : decode cX10_ring 71 = .ok (.iload_n 1, 1) := by decide +kernel
theorem dX10_ring_72 : decode cX10_ring 72 = .ok (.invokevirtual 404, 3) := by decide +kernel
theorem dX10_ring_75 : decode cX10_ring 75 = .ok (.istore_n 3, 1) := by decide +kernel
theorem dX10_ring_76 : decode cX10_ring 76 = .ok (.iconst 0, 1) := by decide +kernel
theorem dX10_ring_77 : decode cX10_ring 77 = .ok (.istore 4, 2) := by decide +kernel
theorem dX10_ring_79 : decode cX10_ring 79 = .ok (.iload_n 3, 1) := by decide +kernel
theorem dX10_ring_80 : decode cX10_ring 80 = .ok (.iload 4, 2) := by decide +kernel
theorem dX10_ring_82 : decode cX10_ring 82 = .ok (.ishr, 1) := by decide +kernel
theorem dX10_ring_83 : decode cX10_ring 83 = .ok (.iconst 1, 1) := by decide +kernel
theorem dX10_ring_84 : decode cX10_ring 84 = .ok (.iand, 1) := by decide +kernel
theorem dX10_ring_85 : decode cX10_ring 85 = .ok (.ifCond .ne 9, 3) := by decide +kernel
theorem dX10_ring_88 : decode cX10_ring 88 = .ok (.iinc 4 1, 3) := by decide +kernel
theorem dX10_ring_91 : decode cX10_ring 91 = .ok (.goto (-12), 3) := by decide +kernel
theorem dX10_ring_94 : decode cX10_ring 94 = .ok (.iload_n 2, 1) := by decide +kernel
theorem dX10_ring_95 : decode cX10_ring 95 = .ok (.ifCond .ne 10, 3) := by decide +kernel
theorem dX10_ring_98 : decode cX10_ring 98 = .ok (.iload_n 3, 1) := by decide +kernel
theorem dX10_ring_99 : decode cX10_ring 99 = .ok (.invokestatic 407, 3) := by decide +kernel
theorem dX10_ring_102 : decode cX10_ring 102 = .ok (.goto 5, 3) := by decide +kernel
theorem dX10_ring_105 : decode cX10_ring 105 = .ok (.iload 4, 2) := by decide +kernel
theorem dX10_ring_107 : decode cX10_ring 107 = .ok (.ireturn, 1) := by decide +kernel
def fX10_ring_79  : Nat → Int32 → Int32 → Int32 → zV → Option (Int32 × zV)
  | 0 => fun _ _ _ _ => none
  | n + 1 => fun x2 x3 x4 v =>
    if ((x3 >>> (x4 &&& 31)) &&& (1 : Int32)) = (0 : Int32) then
      (fX10_ring_79 n) x2 x3 (x4 + (1 : Int32)) v
    else
      if x2 = (0 : Int32) then
        zbind (fX10_ones x3 v) fun r_2 v_1 =>
        some (r_2, v_1)
      else
        some (x4, v)
set_option maxRecDepth 4000 in
theorem jX10_ring_79 (x : zCx) (G : zG) (F : zF x G cX10_ring 5 RX10 4 151) (hr : x.2.2.2.2.2.2.2.2.1.sig.returnType = (Option.some FieldType.int)) (hk : x.2.2.2.2.2.2.2.2.1.locks = false) (r : Int32) (w : zV)  : ∀ (n : Nat) (x2 : Int32) (x3 : Int32) (x4 : Int32) (v : zV), fX10_ring_79 n x2 x3 x4 v = some (r, w) → zJ x G 5 (zQ x G (some (.int r)) w 0 0) 0 0 79 [(2, .int x2), (3, .int x3), (4, .int x4)] [] v := by
  intro n
  induction n with
  | zero => intro x2 x3 x4 v h; exact absurd h (by intro q; cases q)
  | succ n ih =>
    intro x2 x3 x4 v h
    rw [fX10_ring_79] at h
    dsimp only at h
    refine z_iload_n F dX10_ring_79 rfl 1 rfl ?_
    refine z_iload F dX10_ring_80 2 rfl ?_
    refine z_ishr F dX10_ring_82 ?_
    refine z_iconst (y := (1 : Int32)) F dX10_ring_83 rfl ?_
    refine z_iand F dX10_ring_84 ?_
    refine z_if_ne F 94 dX10_ring_85 rfl (fun hc => ?_) (fun hc => ?_)
    · replace h := zif_f hc h
      refine z_iload_n F dX10_ring_94 rfl 0 rfl ?_
      refine z_if_ne F 105 dX10_ring_95 rfl (fun hc => ?_) (fun hc => ?_)
      · replace h := zif_f hc h
        refine z_iload F dX10_ring_105 2 rfl ?_
        cases h
        exact z_reti F hr hk dX10_ring_107
      · replace h := zif_t hc h
        refine z_iload_n F dX10_ring_98 rfl 1 rfl ?_
        obtain ⟨r_2, v_1, hq99, h⟩ := zbind_ex h
        refine z_callSi F [.int x3] [] (kX10_ones x.2.1 G x3 v r_2 v_1 hq99) mI_X10_ones wM_X10_407 ms_X10_ones dX10_ring_99 rfl ⟨Nat.le_of_ble_eq_true rfl, Nat.le_of_ble_eq_true rfl⟩ rfl (Nat.le_of_ble_eq_true rfl) ⟨Nat.zero_le _, Nat.zero_le _⟩ ?_
        refine z_goto F 107 dX10_ring_102 rfl ?_
        cases h
        exact z_reti F hr hk dX10_ring_107
    · replace h := zif_t hc h
      refine z_iinc F [(4, .int (x4 + (1 : Int32))), (2, .int x2), (3, .int x3)] dX10_ring_88 2 rfl rfl (Nat.le_of_ble_eq_true rfl) rfl ?_
      refine z_goto F 79 dX10_ring_91 rfl ?_
      refine z_ls [(2, .int x2), (3, .int x3), (4, .int (x4 + (1 : Int32)))] [1, 2, 0] rfl ?_
      exact ih x2 x3 (x4 + (1 : Int32)) v h

def fX10_ring_42  (x0 : Nat) (x1 : Int32) (x2 : Int32) (s0 : Nat) (s1 : Int32) (v : zV) : Option (Int32 × zV) :=
  zbind (fX10_bad s0 s1 (2 : Int32) (1 : Int32) v) fun r_2 v_1 =>
  if r_2 = (0 : Int32) then
    zbind (fX10_hasRing x0 x1 v_1) fun r_4 v_3 =>
    if r_4 = (0 : Int32) then
      if x2 = (0 : Int32) then
        some ((0 : Int32), v_3)
      else
        some ((-1 : Int32), v_3)
    else
      zbind (fX10_ringOf x0 x1 v_3) fun r_6 v_5 =>
      fX10_ring_79  zFU x2 r_6 (0 : Int32) v_5
  else
    some ((0 : Int32), v_1)
set_option maxRecDepth 4000 in
theorem jX10_ring_42 (x : zCx) (G : zG) (F : zF x G cX10_ring 5 RX10 4 151) (hr : x.2.2.2.2.2.2.2.2.1.sig.returnType = (Option.some FieldType.int)) (hk : x.2.2.2.2.2.2.2.2.1.locks = false) (r : Int32) (w : zV)  : ∀ (x0 : Nat) (t0 : zty G x0 1 10) (x1 : Int32) (x2 : Int32) (s0 : Nat) (ts0 : zty G s0 1 10) (s1 : Int32) (v : zV), fX10_ring_42 x0 x1 x2 s0 s1 v = some (r, w) → zJ x G 5 (zQ x G (some (.int r)) w 0 0) 0 0 42 [(0, zr G x0), (1, .int x1), (2, .int x2)] [.int s1, zr G s0] v := by
  intro x0 t0 x1 x2 s0 ts0 s1 v h
  unfold fX10_ring_42 at h
  refine z_iconst (y := (2 : Int32)) F dX10_ring_42 rfl ?_
  refine z_iconst (y := (1 : Int32)) F dX10_ring_43 rfl ?_
  obtain ⟨r_2, v_1, hq44, h⟩ := zbind_ex h
  refine z_callVi F [.int s1, .int (2 : Int32), .int (1 : Int32)] [] (kX10_bad x.2.1 G s0 ts0 s1 (2 : Int32) (1 : Int32) v r_2 v_1 hq44) mI_X10_bad (c := 10) rfl ts0 wM_X10_220 mi_X10_bad sl_X10_bad dX10_ring_44 rfl ⟨Nat.le_of_ble_eq_true rfl, Nat.le_of_ble_eq_true rfl⟩ rfl (Nat.le_of_ble_eq_true rfl) ⟨Nat.zero_le _, Nat.zero_le _⟩ ?_
  refine z_if_eq F 52 dX10_ring_47 rfl (fun hc => ?_) (fun hc => ?_)
  · replace h := zif_t hc h
    refine z_aload_n F dX10_ring_52 rfl 0 rfl ?_
    refine z_iload_n F dX10_ring_53 rfl 1 rfl ?_
    obtain ⟨r_4, v_3, hq54, h⟩ := zbind_ex h
    refine z_callVi F [.int x1] [] (kX10_hasRing x.2.1 G x0 t0 x1 v_1 r_4 v_3 hq54) mI_X10_hasRing (c := 10) rfl t0 wM_X10_401 mi_X10_hasRing sl_X10_hasRing dX10_ring_54 rfl ⟨Nat.le_of_ble_eq_true rfl, Nat.le_of_ble_eq_true rfl⟩ rfl (Nat.le_of_ble_eq_true rfl) ⟨Nat.zero_le _, Nat.zero_le _⟩ ?_
    refine z_if_ne F 70 dX10_ring_57 rfl (fun hc => ?_) (fun hc => ?_)
    · replace h := zif_f hc h
      refine z_aload_n F dX10_ring_70 rfl 0 rfl ?_
      refine z_iload_n F dX10_ring_71 rfl 1 rfl ?_
      obtain ⟨r_6, v_5, hq72, h⟩ := zbind_ex h
      refine z_callVi F [.int x1] [] (kX10_ringOf x.2.1 G x0 t0 x1 v_3 r_6 v_5 hq72) mI_X10_ringOf (c := 10) rfl t0 wM_X10_404 mi_X10_ringOf sl_X10_ringOf dX10_ring_72 rfl ⟨Nat.le_of_ble_eq_true rfl, Nat.le_of_ble_eq_true rfl⟩ rfl (Nat.le_of_ble_eq_true rfl) ⟨Nat.zero_le _, Nat.zero_le _⟩ ?_
      refine z_istore_n F [(3, .int r_6), (0, zr G x0), (1, .int x1), (2, .int x2)] dX10_ring_75 rfl (Nat.le_of_ble_eq_true rfl) rfl ?_
      refine z_iconst (y := (0 : Int32)) F dX10_ring_76 rfl ?_
      refine z_istore (n := 0) F [(4, .int (0 : Int32)), (3, .int r_6), (0, zr G x0), (1, .int x1), (2, .int x2)] dX10_ring_77 (Nat.le_of_ble_eq_true rfl) rfl ?_
      refine z_ls [(2, .int x2), (3, .int r_6), (4, .int (0 : Int32))] [4, 1, 0] rfl ?_
      exact jX10_ring_79 x G F hr hk r w   zFU x2 r_6 (0 : Int32) v_5 h
    · replace h := zif_t hc h
      refine z_iload_n F dX10_ring_60 rfl 2 rfl ?_
      refine z_if_ne F 68 dX10_ring_61 rfl (fun hc => ?_) (fun hc => ?_)
      · replace h := zif_f hc h
        refine z_iconst (y := (-1 : Int32)) F dX10_ring_68 rfl ?_
        cases h
        exact z_reti F hr hk dX10_ring_69
      · replace h := zif_t hc h
        refine z_iconst (y := (0 : Int32)) F dX10_ring_64 rfl ?_
        refine z_goto F 69 dX10_ring_65 rfl ?_
        cases h
        exact z_reti F hr hk dX10_ring_69
  · replace h := zif_f hc h
    refine z_iconst (y := (0 : Int32)) F dX10_ring_50 rfl ?_
    cases h
    exact z_reti F hr hk dX10_ring_51

def fX10_ring_19  (x0 : Nat) (x1 : Int32) (x2 : Int32) (s0 : Nat) (s1 : Int32) (v : zV) : Option (Int32 × zV) :=
  zbind (fX10_bad s0 s1 (1 : Int32) (0 : Int32) v) fun r_2 v_1 =>
  if r_2 = (0 : Int32) then
    zbind (fX10_in x2 (0 : Int32) (1 : Int32) v_1) fun r_4 v_3 =>
    if r_4 = (0 : Int32) then
      fX10_ring_42  x0 x1 x2 x0 (1 : Int32) v_3
    else
      fX10_ring_42  x0 x1 x2 x0 (0 : Int32) v_3
  else
    some ((0 : Int32), v_1)
set_option maxRecDepth 4000 in
theorem jX10_ring_19 (x : zCx) (G : zG) (F : zF x G cX10_ring 5 RX10 4 151) (hr : x.2.2.2.2.2.2.2.2.1.sig.returnType = (Option.some FieldType.int)) (hk : x.2.2.2.2.2.2.2.2.1.locks = false) (r : Int32) (w : zV)  : ∀ (x0 : Nat) (t0 : zty G x0 1 10) (x1 : Int32) (x2 : Int32) (s0 : Nat) (ts0 : zty G s0 1 10) (s1 : Int32) (v : zV), fX10_ring_19 x0 x1 x2 s0 s1 v = some (r, w) → zJ x G 5 (zQ x G (some (.int r)) w 0 0) 0 0 19 [(0, zr G x0), (1, .int x1), (2, .int x2)] [.int s1, zr G s0] v := by
  intro x0 t0 x1 x2 s0 ts0 s1 v h
  unfold fX10_ring_19 at h
  refine z_iconst (y := (1 : Int32)) F dX10_ring_19 rfl ?_
  refine z_iconst (y := (0 : Int32)) F dX10_ring_20 rfl ?_
  obtain ⟨r_2, v_1, hq21, h⟩ := zbind_ex h
  refine z_callVi F [.int s1, .int (1 : Int32), .int (0 : Int32)] [] (kX10_bad x.2.1 G s0 ts0 s1 (1 : Int32) (0 : Int32) v r_2 v_1 hq21) mI_X10_bad (c := 10) rfl ts0 wM_X10_220 mi_X10_bad sl_X10_bad dX10_ring_21 rfl ⟨Nat.le_of_ble_eq_true rfl, Nat.le_of_ble_eq_true rfl⟩ rfl (Nat.le_of_ble_eq_true rfl) ⟨Nat.zero_le _, Nat.zero_le _⟩ ?_
  refine z_if_ne F 50 dX10_ring_24 rfl (fun hc => ?_) (fun hc => ?_)
  · replace h := zif_f hc h
    refine z_iconst (y := (0 : Int32)) F dX10_ring_50 rfl ?_
    cases h
    exact z_reti F hr hk dX10_ring_51
  · replace h := zif_t hc h
    refine z_aload_n F dX10_ring_27 rfl 0 rfl ?_
    refine z_iload_n F dX10_ring_28 rfl 2 rfl ?_
    refine z_iconst (y := (0 : Int32)) F dX10_ring_29 rfl ?_
    refine z_iconst (y := (1 : Int32)) F dX10_ring_30 rfl ?_
    obtain ⟨r_4, v_3, hq31, h⟩ := zbind_ex h
    refine z_callSi F [.int x2, .int (0 : Int32), .int (1 : Int32)] [zr G x0] (kX10_in x.2.1 G x2 (0 : Int32) (1 : Int32) v_1 r_4 v_3 hq31) mI_X10_in wM_X10_168 ms_X10_in dX10_ring_31 rfl ⟨Nat.le_of_ble_eq_true rfl, Nat.le_of_ble_eq_true rfl⟩ rfl (Nat.le_of_ble_eq_true rfl) ⟨Nat.zero_le _, Nat.zero_le _⟩ ?_
    refine z_if_ne F 41 dX10_ring_34 rfl (fun hc => ?_) (fun hc => ?_)
    · replace h := zif_f hc h
      refine z_iconst (y := (0 : Int32)) F dX10_ring_41 rfl ?_
      refine z_ls [(0, zr G x0), (1, .int x1), (2, .int x2)] [0, 1, 2] rfl ?_
      exact jX10_ring_42 x G F hr hk r w   x0 t0 x1 x2 x0 t0 (0 : Int32) v_3 h
    · replace h := zif_t hc h
      refine z_iconst (y := (1 : Int32)) F dX10_ring_37 rfl ?_
      refine z_goto F 42 dX10_ring_38 rfl ?_
      refine z_ls [(0, zr G x0), (1, .int x1), (2, .int x2)] [0, 1, 2] rfl ?_
      exact jX10_ring_42 x G F hr hk r w   x0 t0 x1 x2 x0 t0 (1 : Int32) v_3 h

def fX10_ring (x0 : Nat) (x1 : Int32) (x2 : Int32) (v : zV) : Option (Int32 × zV) :=
  zlet (zup v x0 0 (0 : Int32)) fun v_1 =>
  zbind (fX10_isMan x0 x1 v_1) fun r_3 v_2 =>
  if r_3 = (0 : Int32) then
    fX10_ring_19  x0 x1 x2 x0 (1 : Int32) v_2
  else
    fX10_ring_19  x0 x1 x2 x0 (0 : Int32) v_2
set_option maxRecDepth 4000 in
theorem kX10_ring (l : Launch) (G : zG) (x0 : Nat) (t0 : zty G x0 1 10) (x1 : Int32) (x2 : Int32) (v : zV) (r : Int32) (w : zV) (h : fX10_ring x0 x1 x2 v = some (r, w)) : zMet l yX10_ring cX10_ring 5 (Option.some FieldType.int) 4 151 0 0 [zr G x0, .int x1, .int x2] G v (some (.int r)) w := by
  refine zM_of (own := RX10) (by decide) rfl (Nat.le_of_ble_eq_true rfl) (fun x hl F hr hk hcs => ?_)
  subst hl
  refine z_ls [(0, zr G x0), (1, .int x1), (2, .int x2)] [0, 1, 2] rfl ?_
  unfold fX10_ring at h
  refine z_aload_n F dX10_ring_0 rfl 0 rfl ?_
  refine z_iconst (y := (0 : Int32)) F dX10_ring_1 rfl ?_
  refine zp_10_0 F t0 wF_X10_134 dX10_ring_2 ?_
  obtain ⟨v_1, ev_1, h⟩ := zlet_ex h
  refine z_heap ev_1 ?_
  refine z_aload_n F dX10_ring_5 rfl 0 rfl ?_
  refine z_aload_n F dX10_ring_6 rfl 0 rfl ?_
  refine z_iload_n F dX10_ring_7 rfl 1 rfl ?_
  obtain ⟨r_3, v_2, hq8, h⟩ := zbind_ex h
  refine z_callVi F [.int x1] [zr G x0] (kX10_isMan x.2.1 G x0 t0 x1 v_1 r_3 v_2 hq8) mI_X10_isMan (c := 10) rfl t0 wM_X10_298 mi_X10_isMan sl_X10_isMan dX10_ring_8 rfl ⟨Nat.le_of_ble_eq_true rfl, Nat.le_of_ble_eq_true rfl⟩ rfl (Nat.le_of_ble_eq_true rfl) ⟨Nat.zero_le _, Nat.zero_le _⟩ ?_
  refine z_if_ne F 18 dX10_ring_11 rfl (fun hc => ?_) (fun hc => ?_)
  · replace h := zif_f hc h
    refine z_iconst (y := (0 : Int32)) F dX10_ring_18 rfl ?_
    refine z_ls [(0, zr G x0), (1, .int x1), (2, .int x2)] [0, 1, 2] rfl ?_
    exact jX10_ring_19 x G F hr hk r w   x0 t0 x1 x2 x0 t0 (0 : Int32) v_2 h
  · replace h := zif_t hc h
    refine z_iconst (y := (1 : Int32)) F dX10_ring_14 rfl ?_
    refine z_goto F 19 dX10_ring_15 rfl ?_
    refine z_ls [(0, zr G x0), (1, .int x1), (2, .int x2)] [0, 1, 2] rfl ?_
    exact jX10_ring_19 x G F hr hk r w   x0 t0 x1 x2 x0 t0 (1 : Int32) v_2 h

theorem dX10_ringed_0 : decode cX10_ringed 0 = .ok (.aload_n 0, 1) := by decide +kernel
theorem dX10_ringed_1 : decode cX10_ringed 1 = .ok (.iconst 0, 1) := by decide +kernel
theorem dX10_ringed_2 : decode cX10_ringed 2 = .ok (.putfield 134, 3) := by decide +kernel
theorem dX10_ringed_5 : decode cX10_ringed 5 = .ok (.iconst 0, 1) := by decide +kernel
theorem dX10_ringed_6 : decode cX10_ringed 6 = .ok (.istore_n 1, 1) := by decide +kernel
theorem dX10_ringed_7 : decode cX10_ringed 7 = .ok (.iconst 0, 1) := by decide +kernel
theorem dX10_ringed_8 : decode cX10_ringed 8 = .ok (.istore_n 2, 1) := by decide +kernel
theorem dX10_ringed_9 : decode cX10_ringed 9 = .ok (.iload_n 2, 1) := by decide +kernel
theorem dX10_ringed_10 : decode cX10_ringed 10 = .ok (.aload_n 0, 1) := by decide +kernel
theorem dX10_ringed_11 : decode cX10_ringed 11 = .ok (.getfield 23, 3) := by decide +kernel
theorem dX10_ringed_14 : decode cX10_ringed 14 = .ok (.iconst 1, 1) := by decide +kernel
theorem dX10_ringed_15 : decode cX10_ringed 15 = .ok (.iaload, 1) := by decide +kernel
theorem dX10_ringed_16 : decode cX10_ringed 16 = .ok (.if_icmp .ge 52, 3) := by decide +kernel
theorem dX10_ringed_19 : decode cX10_ringed 19 = .ok (.iload_n 1, 1) := by decide +kernel
theorem dX10_ringed_20 : decode cX10_ringed 20 = .ok (.aload_n 0, 1) := by decide +kernel
theorem dX10_ringed_21 : decode cX10_ringed 21 = .ok (.getfield 85, 3) := by decide +kernel
theorem dX10_ringed_24 : decode cX10_ringed 24 = .ok (.iconst 0, 1) := by decide +kernel
theorem dX10_ringed_25 : decode cX10_ringed 25 = .ok (.iload_n 2, 1) := by decide +kernel
theorem dX10_ringed_26 : decode cX10_ringed 26 = .ok (.iadd, 1) := by decide +kernel
theorem dX10_ringed_27 : decode cX10_ringed 27 = .ok (.iaload, 1) := by decide +kernel
theorem dX10_ringed_28 : decode cX10_ringed 28 = .ok (.iconst 3, 1) := by decide +kernel
theorem dX10_ringed_29 : decode cX10_ringed 29 = .ok (.if_icmp .eq 30, 3) := by decide +kernel
theorem dX10_ringed_32 : decode cX10_ringed 32 = .ok (.aload_n 0, 1) := by decide +kernel
theorem dX10_ringed_33 : decode cX10_ringed 33 = .ok (.iload_n 2, 1) := by decide +kernel
theorem dX10_ringed_34 : decode cX10_ringed 34 = .ok (.invokevirtual 401, 3) := by decide +kernel
theorem dX10_ringed_37 : decode cX10_ringed 37 = .ok (.ifCond .eq 22, 3) := by decide +kernel
theorem dX10_ringed_40 : decode cX10_ringed 40 = .ok (.aload_n 0, 1) := by decide +kernel
theorem dX10_ringed_41 : decode cX10_ringed 41 = .ok (.iload_n 2, 1) := by decide +kernel
theorem dX10_ringed_42 : decode cX10_ringed 42 = .ok (.invokevirtual 404, 3) := by decide +kernel
theorem dX10_ringed_45 : decode cX10_ringed 45 = .ok (.iload_n 2, 1) := by decide +kernel
theorem dX10_ringed_46 : decode cX10_ringed 46 = .ok (.ishr, 1) := by decide +kernel
theorem dX10_ringed_47 : decode cX10_ringed 47 = .ok (.iconst 1, 1) := by decide +kernel
theorem dX10_ringed_48 : decode cX10_ringed 48 = .ok (.iand, 1) := by decide +kernel
theorem dX10_ringed_49 : decode cX10_ringed 49 = .ok (.iconst 1, 1) := by decide +kernel
theorem dX10_ringed_50 : decode cX10_ringed 50 = .ok (.if_icmp .ne 9, 3) := by decide +kernel
theorem dX10_ringed_53 : decode cX10_ringed 53 = .ok (.iconst 1, 1) := by decide +kernel
theorem dX10_ringed_54 : decode cX10_ringed 54 = .ok (.iload_n 2, 1) := by decide +kernel
theorem dX10_ringed_55 : decode cX10_ringed 55 = .ok (.ishl, 1) := by decide +kernel
theorem dX10_ringed_56 : decode cX10_ringed 56 = .ok (.goto 4, 3) := by decide +kernel
theorem dX10_ringed_59 : decode cX10_ringed 59 = .ok (.iconst 0, 1) := by decide +kernel
theorem dX10_ringed_60 : decode cX10_ringed 60 = .ok (.ior, 1) := by decide +kernel
theorem dX10_ringed_61 : decode cX10_ringed 61 = .ok (.istore_n 1, 1) := by decide +kernel
theorem dX10_ringed_62 : decode cX10_ringed 62 = .ok (.iinc 2 1, 3) := by decide +kernel
theorem dX10_ringed_65 : decode cX10_ringed 65 = .ok (.goto (-56), 3) := by decide +kernel
theorem dX10_ringed_68 : decode cX10_ringed 68 = .ok (.iload_n 1, 1) := by decide +kernel
theorem dX10_ringed_69 : decode cX10_ringed 69 = .ok (.ireturn, 1) := by decide +kernel
def fX10_ringed_9  : Nat → Nat → Int32 → Int32 → zV → Option (Int32 × zV)
  | 0 => fun _ _ _ _ => none
  | n + 1 => fun x0 x1 x2 v =>
    zix (1 : Int32) (zlen (zrf x0 12)) <|
    if (v (zrf x0 12) ((1 : Int32)).toNatClampNeg) ≤ x2 then
      some (x1, v)
    else
      zix ((0 : Int32) + x2) (zlen (zrf x0 35)) <|
      if (v (zrf x0 35) ((0 : Int32) + x2).toNatClampNeg) = (3 : Int32) then
        (fX10_ringed_9 n) x0 (x1 ||| (0 : Int32)) (x2 + (1 : Int32)) v
      else
        zbind (fX10_hasRing x0 x2 v) fun r_2 v_1 =>
        if r_2 = (0 : Int32) then
          (fX10_ringed_9 n) x0 (x1 ||| (0 : Int32)) (x2 + (1 : Int32)) v_1
        else
          zbind (fX10_ringOf x0 x2 v_1) fun r_4 v_3 =>
          if ((r_4 >>> (x2 &&& 31)) &&& (1 : Int32)) = (1 : Int32) then
            (fX10_ringed_9 n) x0 (x1 ||| ((1 : Int32) <<< (x2 &&& 31))) (x2 + (1 : Int32)) v_3
          else
            (fX10_ringed_9 n) x0 (x1 ||| (0 : Int32)) (x2 + (1 : Int32)) v_3
set_option maxRecDepth 4000 in
theorem jX10_ringed_9 (x : zCx) (G : zG) (F : zF x G cX10_ringed 3 RX10 4 151) (hr : x.2.2.2.2.2.2.2.2.1.sig.returnType = (Option.some FieldType.int)) (hk : x.2.2.2.2.2.2.2.2.1.locks = false) (r : Int32) (w : zV)  : ∀ (n : Nat) (x0 : Nat) (t0 : zty G x0 1 10) (x1 : Int32) (x2 : Int32) (v : zV), fX10_ringed_9 n x0 x1 x2 v = some (r, w) → zJ x G 3 (zQ x G (some (.int r)) w 0 0) 0 0 9 [(0, zr G x0), (1, .int x1), (2, .int x2)] [] v := by
  intro n
  induction n with
  | zero => intro x0 t0 x1 x2 v h; exact absurd h (by intro q; cases q)
  | succ n ih =>
    intro x0 t0 x1 x2 v h
    rw [fX10_ringed_9] at h
    dsimp only at h
    refine z_iload_n F dX10_ringed_9 rfl 2 rfl ?_
    refine z_aload_n F dX10_ringed_10 rfl 0 rfl ?_
    refine zg_10_12 F t0 wF_X10_23 dX10_ringed_11 ?_
    refine z_iconst (y := (1 : Int32)) F dX10_ringed_14 rfl ?_
    obtain ⟨hi15, h⟩ := zix_ex h
    refine z_iald F (zt_f tc_10_12 t0) dX10_ringed_15 hi15 ?_
    refine z_icmp_ge F 68 dX10_ringed_16 rfl (fun hc => ?_) (fun hc => ?_)
    · replace h := zif_t hc h
      refine z_iload_n F dX10_ringed_68 rfl 1 rfl ?_
      cases h
      exact z_reti F hr hk dX10_ringed_69
    · replace h := zif_f hc h
      refine z_iload_n F dX10_ringed_19 rfl 1 rfl ?_
      refine z_aload_n F dX10_ringed_20 rfl 0 rfl ?_
      refine zg_10_35 F t0 wF_X10_85 dX10_ringed_21 ?_
      refine z_iconst (y := (0 : Int32)) F dX10_ringed_24 rfl ?_
      refine z_iload_n F dX10_ringed_25 rfl 2 rfl ?_
      refine z_iadd F dX10_ringed_26 ?_
      obtain ⟨hi27, h⟩ := zix_ex h
      refine z_iald F (zt_f tc_10_35 t0) dX10_ringed_27 hi27 ?_
      refine z_iconst (y := (3 : Int32)) F dX10_ringed_28 rfl ?_
      refine z_icmp_eq F 59 dX10_ringed_29 rfl (fun hc => ?_) (fun hc => ?_)
      · replace h := zif_t hc h
        refine z_iconst (y := (0 : Int32)) F dX10_ringed_59 rfl ?_
        refine z_ior F dX10_ringed_60 ?_
        refine z_istore_n F [(1, .int (x1 ||| (0 : Int32))), (0, zr G x0), (2, .int x2)] dX10_ringed_61 rfl (Nat.le_of_ble_eq_true rfl) rfl ?_
        refine z_iinc F [(2, .int (x2 + (1 : Int32))), (1, .int (x1 ||| (0 : Int32))), (0, zr G x0)] dX10_ringed_62 2 rfl rfl (Nat.le_of_ble_eq_true rfl) rfl ?_
        refine z_goto F 9 dX10_ringed_65 rfl ?_
        refine z_ls [(0, zr G x0), (1, .int (x1 ||| (0 : Int32))), (2, .int (x2 + (1 : Int32)))] [2, 1, 0] rfl ?_
        exact ih x0 t0 (x1 ||| (0 : Int32)) (x2 + (1 : Int32)) v h
      · replace h := zif_f hc h
        refine z_aload_n F dX10_ringed_32 rfl 0 rfl ?_
        refine z_iload_n F dX10_ringed_33 rfl 2 rfl ?_
        obtain ⟨r_2, v_1, hq34, h⟩ := zbind_ex h
        refine z_callVi F [.int x2] [.int x1] (kX10_hasRing x.2.1 G x0 t0 x2 v r_2 v_1 hq34) mI_X10_hasRing (c := 10) rfl t0 wM_X10_401 mi_X10_hasRing sl_X10_hasRing dX10_ringed_34 rfl ⟨Nat.le_of_ble_eq_true rfl, Nat.le_of_ble_eq_true rfl⟩ rfl (Nat.le_of_ble_eq_true rfl) ⟨Nat.zero_le _, Nat.zero_le _⟩ ?_
        refine z_if_eq F 59 dX10_ringed_37 rfl (fun hc => ?_) (fun hc => ?_)
        · replace h := zif_t hc h
          refine z_iconst (y := (0 : Int32)) F dX10_ringed_59 rfl ?_
          refine z_ior F dX10_ringed_60 ?_
          refine z_istore_n F [(1, .int (x1 ||| (0 : Int32))), (0, zr G x0), (2, .int x2)] dX10_ringed_61 rfl (Nat.le_of_ble_eq_true rfl) rfl ?_
          refine z_iinc F [(2, .int (x2 + (1 : Int32))), (1, .int (x1 ||| (0 : Int32))), (0, zr G x0)] dX10_ringed_62 2 rfl rfl (Nat.le_of_ble_eq_true rfl) rfl ?_
          refine z_goto F 9 dX10_ringed_65 rfl ?_
          refine z_ls [(0, zr G x0), (1, .int (x1 ||| (0 : Int32))), (2, .int (x2 + (1 : Int32)))] [2, 1, 0] rfl ?_
          exact ih x0 t0 (x1 ||| (0 : Int32)) (x2 + (1 : Int32)) v_1 h
        · replace h := zif_f hc h
          refine z_aload_n F dX10_ringed_40 rfl 0 rfl ?_
          refine z_iload_n F dX10_ringed_41 rfl 2 rfl ?_
          obtain ⟨r_4, v_3, hq42, h⟩ := zbind_ex h
          refine z_callVi F [.int x2] [.int x1] (kX10_ringOf x.2.1 G x0 t0 x2 v_1 r_4 v_3 hq42) mI_X10_ringOf (c := 10) rfl t0 wM_X10_404 mi_X10_ringOf sl_X10_ringOf dX10_ringed_42 rfl ⟨Nat.le_of_ble_eq_true rfl, Nat.le_of_ble_eq_true rfl⟩ rfl (Nat.le_of_ble_eq_true rfl) ⟨Nat.zero_le _, Nat.zero_le _⟩ ?_
          refine z_iload_n F dX10_ringed_45 rfl 2 rfl ?_
          refine z_ishr F dX10_ringed_46 ?_
          refine z_iconst (y := (1 : Int32)) F dX10_ringed_47 rfl ?_
          refine z_iand F dX10_ringed_48 ?_
          refine z_iconst (y := (1 : Int32)) F dX10_ringed_49 rfl ?_
          refine z_icmp_ne F 59 dX10_ringed_50 rfl (fun hc => ?_) (fun hc => ?_)
          · replace h := zif_f hc h
            refine z_iconst (y := (0 : Int32)) F dX10_ringed_59 rfl ?_
            refine z_ior F dX10_ringed_60 ?_
            refine z_istore_n F [(1, .int (x1 ||| (0 : Int32))), (0, zr G x0), (2, .int x2)] dX10_ringed_61 rfl (Nat.le_of_ble_eq_true rfl) rfl ?_
            refine z_iinc F [(2, .int (x2 + (1 : Int32))), (1, .int (x1 ||| (0 : Int32))), (0, zr G x0)] dX10_ringed_62 2 rfl rfl (Nat.le_of_ble_eq_true rfl) rfl ?_
            refine z_goto F 9 dX10_ringed_65 rfl ?_
            refine z_ls [(0, zr G x0), (1, .int (x1 ||| (0 : Int32))), (2, .int (x2 + (1 : Int32)))] [2, 1, 0] rfl ?_
            exact ih x0 t0 (x1 ||| (0 : Int32)) (x2 + (1 : Int32)) v_3 h
          · replace h := zif_t hc h
            refine z_iconst (y := (1 : Int32)) F dX10_ringed_53 rfl ?_
            refine z_iload_n F dX10_ringed_54 rfl 2 rfl ?_
            refine z_ishl F dX10_ringed_55 ?_
            refine z_goto F 60 dX10_ringed_56 rfl ?_
            refine z_ior F dX10_ringed_60 ?_
            refine z_istore_n F [(1, .int (x1 ||| ((1 : Int32) <<< (x2 &&& 31)))), (0, zr G x0), (2, .int x2)] dX10_ringed_61 rfl (Nat.le_of_ble_eq_true rfl) rfl ?_
            refine z_iinc F [(2, .int (x2 + (1 : Int32))), (1, .int (x1 ||| ((1 : Int32) <<< (x2 &&& 31)))), (0, zr G x0)] dX10_ringed_62 2 rfl rfl (Nat.le_of_ble_eq_true rfl) rfl ?_
            refine z_goto F 9 dX10_ringed_65 rfl ?_
            refine z_ls [(0, zr G x0), (1, .int (x1 ||| ((1 : Int32) <<< (x2 &&& 31)))), (2, .int (x2 + (1 : Int32)))] [2, 1, 0] rfl ?_
            exact ih x0 t0 (x1 ||| ((1 : Int32) <<< (x2 &&& 31))) (x2 + (1 : Int32)) v_3 h

def fX10_ringed (x0 : Nat) (v : zV) : Option (Int32 × zV) :=
  zlet (zup v x0 0 (0 : Int32)) fun v_1 =>
  fX10_ringed_9  zFU x0 (0 : Int32) (0 : Int32) v_1
set_option maxRecDepth 4000 in
theorem kX10_ringed (l : Launch) (G : zG) (x0 : Nat) (t0 : zty G x0 1 10) (v : zV) (r : Int32) (w : zV) (h : fX10_ringed x0 v = some (r, w)) : zMet l yX10_ringed cX10_ringed 3 (Option.some FieldType.int) 4 151 0 0 [zr G x0] G v (some (.int r)) w := by
  refine zM_of (own := RX10) (by decide) rfl (Nat.le_of_ble_eq_true rfl) (fun x hl F hr hk hcs => ?_)
  subst hl
  refine z_ls [(0, zr G x0)] [0] rfl ?_
  unfold fX10_ringed at h
  refine z_aload_n F dX10_ringed_0 rfl 0 rfl ?_
  refine z_iconst (y := (0 : Int32)) F dX10_ringed_1 rfl ?_
  refine zp_10_0 F t0 wF_X10_134 dX10_ringed_2 ?_
  obtain ⟨v_1, ev_1, h⟩ := zlet_ex h
  refine z_heap ev_1 ?_
  refine z_iconst (y := (0 : Int32)) F dX10_ringed_5 rfl ?_
  refine z_istore_n F [(1, .int (0 : Int32)), (0, zr G x0)] dX10_ringed_6 rfl (Nat.le_of_ble_eq_true rfl) rfl ?_
  refine z_iconst (y := (0 : Int32)) F dX10_ringed_7 rfl ?_
  refine z_istore_n F [(2, .int (0 : Int32)), (1, .int (0 : Int32)), (0, zr G x0)] dX10_ringed_8 rfl (Nat.le_of_ble_eq_true rfl) rfl ?_
  refine z_ls [(0, zr G x0), (1, .int (0 : Int32)), (2, .int (0 : Int32))] [2, 1, 0] rfl ?_
  exact jX10_ringed_9 x G F hr hk r w   zFU x0 t0 (0 : Int32) (0 : Int32) v_1 h

theorem dX10_allies_0 : decode cX10_allies 0 = .ok (.aload_n 0, 1) := by decide +kernel
theorem dX10_allies_1 : decode cX10_allies 1 = .ok (.iconst 0, 1) := by decide +kernel
theorem dX10_allies_2 : decode cX10_allies 2 = .ok (.putfield 134, 3) := by decide +kernel
theorem dX10_allies_5 : decode cX10_allies 5 = .ok (.aload_n 0, 1) := by decide +kernel
theorem dX10_allies_6 : decode cX10_allies 6 = .ok (.aload_n 0, 1) := by decide +kernel
theorem dX10_allies_7 : decode cX10_allies 7 = .ok (.iload_n 1, 1) := by decide +kernel
theorem dX10_allies_8 : decode cX10_allies 8 = .ok (.invokevirtual 298, 3) := by decide +kernel
theorem dX10_allies_11 : decode cX10_allies 11 = .ok (.ifCond .ne 7, 3) := by decide +kernel
theorem dX10_allies_14 : decode cX10_allies 14 = .ok (.iconst 1, 1) := by decide +kernel
theorem dX10_allies_15 : decode cX10_allies 15 = .ok (.goto 4, 3) := by decide +kernel
theorem dX10_allies_18 : decode cX10_allies 18 = .ok (.iconst 0, 1) := by decide +kernel
theorem dX10_allies_19 : decode cX10_allies 19 = .ok (.iconst 1, 1) := by decide +kernel
theorem dX10_allies_20 : decode cX10_allies 20 = .ok (.iconst 0, 1) := by decide +kernel
theorem dX10_allies_21 : decode cX10_allies 21 = .ok (.invokevirtual 220, 3) := by decide +kernel
theorem dX10_allies_24 : decode cX10_allies 24 = .ok (.ifCond .eq 5, 3) := by decide +kernel
theorem dX10_allies_27 : decode cX10_allies 27 = .ok (.iconst 0, 1) := by decide +kernel
theorem dX10_allies_28 : decode cX10_allies 28 = .ok (.ireturn, 1) := by decide +kernel
theorem dX10_allies_29 : decode cX10_allies 29 = .ok (.iconst 0, 1) := by decide +kernel
theorem dX10_allies_30 : decode cX10_allies 30 = .ok (.istore_n 2, 1) := by decide +kernel
theorem dX10_allies_31 : decode cX10_allies 31 = .ok (.iconst 0, 1) := by decide +kernel
theorem dX10_allies_32 : decode cX10_allies 32 = .ok (.istore_n 3, 1) := by decide +kernel
theorem dX10_allies_33 : decode cX10_allies 33 = .ok (.iload_n 3, 1) := by decide +kernel
theorem dX10_allies_34 : decode cX10_allies 34 = .ok (.aload_n 0, 1) := by decide +kernel
theorem dX10_allies_35 : decode cX10_allies 35 = .ok (.getfield 23, 3) := by decide +kernel
theorem dX10_allies_38 : decode cX10_allies 38 = .ok (.iconst 1, 1) := by decide +kernel
theorem dX10_allies_39 : decode cX10_allies 39 = .ok (.iaload, 1) := by decide +kernel
theorem dX10_allies_40 : decode cX10_allies 40 = .ok (.if_icmp .ge 33, 3) := by decide +kernel
theorem dX10_allies_43 : decode cX10_allies 43 = .ok (.iload_n 2, 1) := by decide +kernel
theorem dX10_allies_44 : decode cX10_allies 44 = .ok (.iload_n 3, 1) := by decide +kernel
theorem dX10_allies_45 : decode cX10_allies 45 = .ok (.iload_n 1, 1) := by decide +kernel
theorem dX10_allies_46 : decode cX10_allies 46 = .ok (.if_icmp .eq 18, 3) := by decide +kernel
theorem dX10_allies_49 : decode cX10_allies 49 = .ok (.aload_n 0, 1) := by decide +kernel
theorem dX10_allies_50 : decode cX10_allies 50 = .ok (.iload_n 1, 1) := by decide +kernel
theorem dX10_allies_51 : decode cX10_allies 51 = .ok (.iload_n 3, 1) := by decide +kernel
theorem dX10_allies_52 : decode cX10_allies 52 = .ok (.invokevirtual 307, 3) := by decide +kernel
theorem dX10_allies_55 : decode cX10_allies 55 = .ok (.ifCond .ne 9, 3) := by decide +kernel
theorem dX10_allies_58 : decode cX10_allies 58 = .ok (.iconst 1, 1) := by decide +kernel
theorem dX10_allies_59 : decode cX10_allies 59 = .ok (.iload_n 3, 1) := by decide +kernel
theorem dX10_allies_60 : decode cX10_allies 60 = .ok (.ishl, 1) := by decide +kernel
theorem dX10_allies_61 : decode cX10_allies 61 = .ok (.goto 4, 3) := by decide +kernel
theorem dX10_allies_64 : decode cX10_allies 64 = .ok (.iconst 0, 1) := by decide +kernel
theorem dX10_allies_65 : decode cX10_allies 65 = .ok (.ior, 1) := by decide +kernel
theorem dX10_allies_66 : decode cX10_allies 66 = .ok (.istore_n 2, 1) := by decide +kernel
theorem dX10_allies_67 : decode cX10_allies 67 = .ok (.iinc 3 1, 3) := by decide +kernel
theorem dX10_allies_70 : decode cX10_allies 70 = .ok (.goto (-37), 3) := by decide +kernel
theorem dX10_allies_73 : decode cX10_allies 73 = .ok (.iload_n 2, 1) := by decide +kernel
theorem dX10_allies_74 : decode cX10_allies 74 = .ok (.ireturn, 1) := by decide +kernel
def fX10_allies_33  : Nat → Nat → Int32 → Int32 → Int32 → zV → Option (Int32 × zV)
  | 0 => fun _ _ _ _ _ => none
  | n + 1 => fun x0 x1 x2 x3 v =>
    zix (1 : Int32) (zlen (zrf x0 12)) <|
    if (v (zrf x0 12) ((1 : Int32)).toNatClampNeg) ≤ x3 then
      some (x2, v)
    else
      if x3 = x1 then
        (fX10_allies_33 n) x0 x1 (x2 ||| (0 : Int32)) (x3 + (1 : Int32)) v
      else
        zbind (fX10_differsOf x0 x1 x3 v) fun r_2 v_1 =>
        if r_2 = (0 : Int32) then
          (fX10_allies_33 n) x0 x1 (x2 ||| ((1 : Int32) <<< (x3 &&& 31))) (x3 + (1 : Int32)) v_1
        else
          (fX10_allies_33 n) x0 x1 (x2 ||| (0 : Int32)) (x3 + (1 : Int32)) v_1
set_option maxRecDepth 4000 in
theorem jX10_allies_33 (x : zCx) (G : zG) (F : zF x G cX10_allies 4 RX10 3 123) (hr : x.2.2.2.2.2.2.2.2.1.sig.returnType = (Option.some FieldType.int)) (hk : x.2.2.2.2.2.2.2.2.1.locks = false) (r : Int32) (w : zV)  : ∀ (n : Nat) (x0 : Nat) (t0 : zty G x0 1 10) (x1 : Int32) (x2 : Int32) (x3 : Int32) (v : zV), fX10_allies_33 n x0 x1 x2 x3 v = some (r, w) → zJ x G 4 (zQ x G (some (.int r)) w 0 0) 0 0 33 [(0, zr G x0), (1, .int x1), (2, .int x2), (3, .int x3)] [] v := by
  intro n
  induction n with
  | zero => intro x0 t0 x1 x2 x3 v h; exact absurd h (by intro q; cases q)
  | succ n ih =>
    intro x0 t0 x1 x2 x3 v h
    rw [fX10_allies_33] at h
    dsimp only at h
    refine z_iload_n F dX10_allies_33 rfl 3 rfl ?_
    refine z_aload_n F dX10_allies_34 rfl 0 rfl ?_
    refine zg_10_12 F t0 wF_X10_23 dX10_allies_35 ?_
    refine z_iconst (y := (1 : Int32)) F dX10_allies_38 rfl ?_
    obtain ⟨hi39, h⟩ := zix_ex h
    refine z_iald F (zt_f tc_10_12 t0) dX10_allies_39 hi39 ?_
    refine z_icmp_ge F 73 dX10_allies_40 rfl (fun hc => ?_) (fun hc => ?_)
    · replace h := zif_t hc h
      refine z_iload_n F dX10_allies_73 rfl 2 rfl ?_
      cases h
      exact z_reti F hr hk dX10_allies_74
    · replace h := zif_f hc h
      refine z_iload_n F dX10_allies_43 rfl 2 rfl ?_
      refine z_iload_n F dX10_allies_44 rfl 3 rfl ?_
      refine z_iload_n F dX10_allies_45 rfl 1 rfl ?_
      refine z_icmp_eq F 64 dX10_allies_46 rfl (fun hc => ?_) (fun hc => ?_)
      · replace h := zif_t hc h
        refine z_iconst (y := (0 : Int32)) F dX10_allies_64 rfl ?_
        refine z_ior F dX10_allies_65 ?_
        refine z_istore_n F [(2, .int (x2 ||| (0 : Int32))), (0, zr G x0), (1, .int x1), (3, .int x3)] dX10_allies_66 rfl (Nat.le_of_ble_eq_true rfl) rfl ?_
        refine z_iinc F [(3, .int (x3 + (1 : Int32))), (2, .int (x2 ||| (0 : Int32))), (0, zr G x0), (1, .int x1)] dX10_allies_67 3 rfl rfl (Nat.le_of_ble_eq_true rfl) rfl ?_
        refine z_goto F 33 dX10_allies_70 rfl ?_
        refine z_ls [(0, zr G x0), (1, .int x1), (2, .int (x2 ||| (0 : Int32))), (3, .int (x3 + (1 : Int32)))] [2, 3, 1, 0] rfl ?_
        exact ih x0 t0 x1 (x2 ||| (0 : Int32)) (x3 + (1 : Int32)) v h
      · replace h := zif_f hc h
        refine z_aload_n F dX10_allies_49 rfl 0 rfl ?_
        refine z_iload_n F dX10_allies_50 rfl 1 rfl ?_
        refine z_iload_n F dX10_allies_51 rfl 3 rfl ?_
        obtain ⟨r_2, v_1, hq52, h⟩ := zbind_ex h
        refine z_callVi F [.int x1, .int x3] [.int x2] (kX10_differsOf x.2.1 G x0 t0 x1 x3 v r_2 v_1 hq52) mI_X10_differsOf (c := 10) rfl t0 wM_X10_307 mi_X10_differsOf sl_X10_differsOf dX10_allies_52 rfl ⟨Nat.le_of_ble_eq_true rfl, Nat.le_of_ble_eq_true rfl⟩ rfl (Nat.le_of_ble_eq_true rfl) ⟨Nat.zero_le _, Nat.zero_le _⟩ ?_
        refine z_if_ne F 64 dX10_allies_55 rfl (fun hc => ?_) (fun hc => ?_)
        · replace h := zif_f hc h
          refine z_iconst (y := (0 : Int32)) F dX10_allies_64 rfl ?_
          refine z_ior F dX10_allies_65 ?_
          refine z_istore_n F [(2, .int (x2 ||| (0 : Int32))), (0, zr G x0), (1, .int x1), (3, .int x3)] dX10_allies_66 rfl (Nat.le_of_ble_eq_true rfl) rfl ?_
          refine z_iinc F [(3, .int (x3 + (1 : Int32))), (2, .int (x2 ||| (0 : Int32))), (0, zr G x0), (1, .int x1)] dX10_allies_67 3 rfl rfl (Nat.le_of_ble_eq_true rfl) rfl ?_
          refine z_goto F 33 dX10_allies_70 rfl ?_
          refine z_ls [(0, zr G x0), (1, .int x1), (2, .int (x2 ||| (0 : Int32))), (3, .int (x3 + (1 : Int32)))] [2, 3, 1, 0] rfl ?_
          exact ih x0 t0 x1 (x2 ||| (0 : Int32)) (x3 + (1 : Int32)) v_1 h
        · replace h := zif_t hc h
          refine z_iconst (y := (1 : Int32)) F dX10_allies_58 rfl ?_
          refine z_iload_n F dX10_allies_59 rfl 3 rfl ?_
          refine z_ishl F dX10_allies_60 ?_
          refine z_goto F 65 dX10_allies_61 rfl ?_
          refine z_ior F dX10_allies_65 ?_
          refine z_istore_n F [(2, .int (x2 ||| ((1 : Int32) <<< (x3 &&& 31)))), (0, zr G x0), (1, .int x1), (3, .int x3)] dX10_allies_66 rfl (Nat.le_of_ble_eq_true rfl) rfl ?_
          refine z_iinc F [(3, .int (x3 + (1 : Int32))), (2, .int (x2 ||| ((1 : Int32) <<< (x3 &&& 31)))), (0, zr G x0), (1, .int x1)] dX10_allies_67 3 rfl rfl (Nat.le_of_ble_eq_true rfl) rfl ?_
          refine z_goto F 33 dX10_allies_70 rfl ?_
          refine z_ls [(0, zr G x0), (1, .int x1), (2, .int (x2 ||| ((1 : Int32) <<< (x3 &&& 31)))), (3, .int (x3 + (1 : Int32)))] [2, 3, 1, 0] rfl ?_
          exact ih x0 t0 x1 (x2 ||| ((1 : Int32) <<< (x3 &&& 31))) (x3 + (1 : Int32)) v_1 h

def fX10_allies (x0 : Nat) (x1 : Int32) (v : zV) : Option (Int32 × zV) :=
  zlet (zup v x0 0 (0 : Int32)) fun v_1 =>
  zbind (fX10_isMan x0 x1 v_1) fun r_3 v_2 =>
  if r_3 = (0 : Int32) then
    zbind (fX10_bad x0 (1 : Int32) (1 : Int32) (0 : Int32) v_2) fun r_7 v_6 =>
    if r_7 = (0 : Int32) then
      fX10_allies_33  zFU x0 x1 (0 : Int32) (0 : Int32) v_6
    else
      some ((0 : Int32), v_6)
  else
    zbind (fX10_bad x0 (0 : Int32) (1 : Int32) (0 : Int32) v_2) fun r_5 v_4 =>
    if r_5 = (0 : Int32) then
      fX10_allies_33  zFU x0 x1 (0 : Int32) (0 : Int32) v_4
    else
      some ((0 : Int32), v_4)
set_option maxRecDepth 4000 in
theorem kX10_allies (l : Launch) (G : zG) (x0 : Nat) (t0 : zty G x0 1 10) (x1 : Int32) (v : zV) (r : Int32) (w : zV) (h : fX10_allies x0 x1 v = some (r, w)) : zMet l yX10_allies cX10_allies 4 (Option.some FieldType.int) 3 123 0 0 [zr G x0, .int x1] G v (some (.int r)) w := by
  refine zM_of (own := RX10) (by decide) rfl (Nat.le_of_ble_eq_true rfl) (fun x hl F hr hk hcs => ?_)
  subst hl
  refine z_ls [(0, zr G x0), (1, .int x1)] [0, 1] rfl ?_
  unfold fX10_allies at h
  refine z_aload_n F dX10_allies_0 rfl 0 rfl ?_
  refine z_iconst (y := (0 : Int32)) F dX10_allies_1 rfl ?_
  refine zp_10_0 F t0 wF_X10_134 dX10_allies_2 ?_
  obtain ⟨v_1, ev_1, h⟩ := zlet_ex h
  refine z_heap ev_1 ?_
  refine z_aload_n F dX10_allies_5 rfl 0 rfl ?_
  refine z_aload_n F dX10_allies_6 rfl 0 rfl ?_
  refine z_iload_n F dX10_allies_7 rfl 1 rfl ?_
  obtain ⟨r_3, v_2, hq8, h⟩ := zbind_ex h
  refine z_callVi F [.int x1] [zr G x0] (kX10_isMan x.2.1 G x0 t0 x1 v_1 r_3 v_2 hq8) mI_X10_isMan (c := 10) rfl t0 wM_X10_298 mi_X10_isMan sl_X10_isMan dX10_allies_8 rfl ⟨Nat.le_of_ble_eq_true rfl, Nat.le_of_ble_eq_true rfl⟩ rfl (Nat.le_of_ble_eq_true rfl) ⟨Nat.zero_le _, Nat.zero_le _⟩ ?_
  refine z_if_ne F 18 dX10_allies_11 rfl (fun hc => ?_) (fun hc => ?_)
  · replace h := zif_f hc h
    refine z_iconst (y := (0 : Int32)) F dX10_allies_18 rfl ?_
    refine z_iconst (y := (1 : Int32)) F dX10_allies_19 rfl ?_
    refine z_iconst (y := (0 : Int32)) F dX10_allies_20 rfl ?_
    obtain ⟨r_5, v_4, hq21, h⟩ := zbind_ex h
    refine z_callVi F [.int (0 : Int32), .int (1 : Int32), .int (0 : Int32)] [] (kX10_bad x.2.1 G x0 t0 (0 : Int32) (1 : Int32) (0 : Int32) v_2 r_5 v_4 hq21) mI_X10_bad (c := 10) rfl t0 wM_X10_220 mi_X10_bad sl_X10_bad dX10_allies_21 rfl ⟨Nat.le_of_ble_eq_true rfl, Nat.le_of_ble_eq_true rfl⟩ rfl (Nat.le_of_ble_eq_true rfl) ⟨Nat.zero_le _, Nat.zero_le _⟩ ?_
    refine z_if_eq F 29 dX10_allies_24 rfl (fun hc => ?_) (fun hc => ?_)
    · replace h := zif_t hc h
      refine z_iconst (y := (0 : Int32)) F dX10_allies_29 rfl ?_
      refine z_istore_n F [(2, .int (0 : Int32)), (0, zr G x0), (1, .int x1)] dX10_allies_30 rfl (Nat.le_of_ble_eq_true rfl) rfl ?_
      refine z_iconst (y := (0 : Int32)) F dX10_allies_31 rfl ?_
      refine z_istore_n F [(3, .int (0 : Int32)), (2, .int (0 : Int32)), (0, zr G x0), (1, .int x1)] dX10_allies_32 rfl (Nat.le_of_ble_eq_true rfl) rfl ?_
      refine z_ls [(0, zr G x0), (1, .int x1), (2, .int (0 : Int32)), (3, .int (0 : Int32))] [2, 3, 1, 0] rfl ?_
      exact jX10_allies_33 x G F hr hk r w   zFU x0 t0 x1 (0 : Int32) (0 : Int32) v_4 h
    · replace h := zif_f hc h
      refine z_iconst (y := (0 : Int32)) F dX10_allies_27 rfl ?_
      cases h
      exact z_reti F hr hk dX10_allies_28
  · replace h := zif_t hc h
    refine z_iconst (y := (1 : Int32)) F dX10_allies_14 rfl ?_
    refine z_goto F 19 dX10_allies_15 rfl ?_
    refine z_iconst (y := (1 : Int32)) F dX10_allies_19 rfl ?_
    refine z_iconst (y := (0 : Int32)) F dX10_allies_20 rfl ?_
    obtain ⟨r_7, v_6, hq21, h⟩ := zbind_ex h
    refine z_callVi F [.int (1 : Int32), .int (1 : Int32), .int (0 : Int32)] [] (kX10_bad x.2.1 G x0 t0 (1 : Int32) (1 : Int32) (0 : Int32) v_2 r_7 v_6 hq21) mI_X10_bad (c := 10) rfl t0 wM_X10_220 mi_X10_bad sl_X10_bad dX10_allies_21 rfl ⟨Nat.le_of_ble_eq_true rfl, Nat.le_of_ble_eq_true rfl⟩ rfl (Nat.le_of_ble_eq_true rfl) ⟨Nat.zero_le _, Nat.zero_le _⟩ ?_
    refine z_if_eq F 29 dX10_allies_24 rfl (fun hc => ?_) (fun hc => ?_)
    · replace h := zif_t hc h
      refine z_iconst (y := (0 : Int32)) F dX10_allies_29 rfl ?_
      refine z_istore_n F [(2, .int (0 : Int32)), (0, zr G x0), (1, .int x1)] dX10_allies_30 rfl (Nat.le_of_ble_eq_true rfl) rfl ?_
      refine z_iconst (y := (0 : Int32)) F dX10_allies_31 rfl ?_
      refine z_istore_n F [(3, .int (0 : Int32)), (2, .int (0 : Int32)), (0, zr G x0), (1, .int x1)] dX10_allies_32 rfl (Nat.le_of_ble_eq_true rfl) rfl ?_
      refine z_ls [(0, zr G x0), (1, .int x1), (2, .int (0 : Int32)), (3, .int (0 : Int32))] [2, 3, 1, 0] rfl ?_
      exact jX10_allies_33 x G F hr hk r w   zFU x0 t0 x1 (0 : Int32) (0 : Int32) v_6 h
    · replace h := zif_f hc h
      refine z_iconst (y := (0 : Int32)) F dX10_allies_27 rfl ?_
      cases h
      exact z_reti F hr hk dX10_allies_28

theorem dX10_pair_0 : decode cX10_pair 0 = .ok (.aload_n 0, 1) := by decide +kernel
theorem dX10_pair_1 : decode cX10_pair 1 = .ok (.iconst 0, 1) := by decide +kernel
theorem dX10_pair_2 : decode cX10_pair 2 = .ok (.putfield 134, 3) := by decide +kernel
theorem dX10_pair_5 : decode cX10_pair 5 = .ok (.aload_n 0, 1) := by decide +kernel
theorem dX10_pair_6 : decode cX10_pair 6 = .ok (.iload_n 1, 1) := by decide +kernel
theorem dX10_pair_7 : decode cX10_pair 7 = .ok (.iconst 0, 1) := by decide +kernel
theorem dX10_pair_8 : decode cX10_pair 8 = .ok (.iconst 2, 1) := by decide +kernel
theorem dX10_pair_9 : decode cX10_pair 9 = .ok (.invokestatic 168, 3) := by decide +kernel
theorem dX10_pair_12 : decode cX10_pair 12 = .ok (.ifCond .ne 7, 3) := by decide +kernel
theorem dX10_pair_15 : decode cX10_pair 15 = .ok (.iconst 1, 1) := by decide +kernel
theorem dX10_pair_16 : decode cX10_pair 16 = .ok (.goto 4, 3) := by decide +kernel
theorem dX10_pair_19 : decode cX10_pair 19 = .ok (.iconst 0, 1) := by decide +kernel
theorem dX10_pair_20 : decode cX10_pair 20 = .ok (.iconst 1, 1) := by decide +kernel
theorem dX10_pair_21 : decode cX10_pair 21 = .ok (.iconst 1, 1) := by decide +kernel
theorem dX10_pair_22 : decode cX10_pair 22 = .ok (.invokevirtual 220, 3) := by decide +kernel
theorem dX10_pair_25 : decode cX10_pair 25 = .ok (.ifCond .eq 5, 3) := by decide +kernel
theorem dX10_pair_28 : decode cX10_pair 28 = .ok (.iconst 0, 1) := by decide +kernel
theorem dX10_pair_29 : decode cX10_pair 29 = .ok (.ireturn, 1) := by decide +kernel
theorem dX10_pair_30 : decode cX10_pair 30 = .ok (.iconst (-1), 1) := by decide +kernel
theorem dX10_pair_31 : decode cX10_pair 31 = .ok (.istore_n 2, 1) := by decide +kernel
theorem dX10_pair_32 : decode cX10_pair 32 = .ok (.iconst (-1), 1) := by decide +kernel
theorem dX10_pair_33 : decode cX10_pair 33 = .ok (.istore_n 3, 1) := by decide +kernel
theorem dX10_pair_34 : decode cX10_pair 34 = .ok (.iconst (-1), 1) := by decide +kernel
theorem dX10_pair_35 : decode cX10_pair 35 = .ok (.istore 4, 2) := by decide +kernel
theorem dX10_pair_37 : decode cX10_pair 37 = .ok (.iconst 0, 1) := by decide +kernel
theorem dX10_pair_38 : decode cX10_pair 38 = .ok (.istore 5, 2) := by decide +kernel
theorem dX10_pair_40 : decode cX10_pair 40 = .ok (.iload 5, 2) := by decide +kernel
theorem dX10_pair_42 : decode cX10_pair 42 = .ok (.aload_n 0, 1) := by decide +kernel
theorem dX10_pair_43 : decode cX10_pair 43 = .ok (.getfield 23, 3) := by decide +kernel
theorem dX10_pair_46 : decode cX10_pair 46 = .ok (.iconst 1, 1) := by decide +kernel
theorem dX10_pair_47 : decode cX10_pair 47 = .ok (.iaload, 1) := by decide +kernel
theorem dX10_pair_48 : decode cX10_pair 48 = .ok (.if_icmp .ge 90, 3) := by decide +kernel
theorem dX10_pair_51 : decode cX10_pair 51 = .ok (.iload 5, 2) := by decide +kernel
theorem dX10_pair_53 : decode cX10_pair 53 = .ok (.iconst 1, 1) := by decide +kernel
theorem dX10_pair_54 : decode cX10_pair 54 = .ok (.iadd, 1) := by decide +kernel
theorem dX10_pair_55 : decode cX10_pair 55 = .ok (.istore 6, 2) := by decide +kernel
theorem dX10_pair_57 : decode cX10_pair 57 = .ok (.iload 6, 2) := by decide +kernel
theorem dX10_pair_59 : decode cX10_pair 59 = .ok (.aload_n 0, 1) := by decide +kernel
theorem dX10_pair_60 : decode cX10_pair 60 = .ok (.getfield 23, 3) := by decide +kernel
theorem dX10_pair_63 : decode cX10_pair 63 = .ok (.iconst 1, 1) := by decide +kernel
theorem dX10_pair_64 : decode cX10_pair 64 = .ok (.iaload, 1) := by decide +kernel
theorem dX10_pair_65 : decode cX10_pair 65 = .ok (.if_icmp .ge 67, 3) := by decide +kernel
theorem dX10_pair_68 : decode cX10_pair 68 = .ok (.aload_n 0, 1) := by decide +kernel
theorem dX10_pair_69 : decode cX10_pair 69 = .ok (.getfield 85, 3) := by decide +kernel
theorem dX10_pair_72 : decode cX10_pair 72 = .ok (.iconst 0, 1) := by decide +kernel
theorem dX10_pair_73 : decode cX10_pair 73 = .ok (.iload 5, 2) := by decide +kernel
theorem dX10_pair_75 : decode cX10_pair 75 = .ok (.iadd, 1) := by decide +kernel
theorem dX10_pair_76 : decode cX10_pair 76 = .ok (.iaload, 1) := by decide +kernel
theorem dX10_pair_77 : decode cX10_pair 77 = .ok (.iconst 3, 1) := by decide +kernel
theorem dX10_pair_78 : decode cX10_pair 78 = .ok (.if_icmp .eq 48, 3) := by decide +kernel
theorem dX10_pair_81 : decode cX10_pair 81 = .ok (.aload_n 0, 1) := by decide +kernel
theorem dX10_pair_82 : decode cX10_pair 82 = .ok (.getfield 85, 3) := by decide +kernel
theorem dX10_pair_85 : decode cX10_pair 85 = .ok (.iconst 0, 1) := by decide +kernel
theorem dX10_pair_86 : decode cX10_pair 86 = .ok (.iload 6, 2) := by decide +kernel
theorem dX10_pair_88 : decode cX10_pair 88 = .ok (.iadd, 1) := by decide +kernel
theorem dX10_pair_89 : decode cX10_pair 89 = .ok (.iaload, 1) := by decide +kernel
theorem dX10_pair_90 : decode cX10_pair 90 = .ok (.iconst 3, 1) := by decide +kernel
theorem dX10_pair_91 : decode cX10_pair 91 = .ok (.if_icmp .eq 35, 3) := by decide +kernel
theorem dX10_pair_94 : decode cX10_pair 94 = .ok (.aload_n 0, 1) := by decide +kernel
theorem dX10_pair_95 : decode cX10_pair 95 = .ok (.iload 5, 2) := by decide +kernel
theorem dX10_pair_97 : decode cX10_pair 97 = .ok (.iload 6, 2) := by decide +kernel
theorem dX10_pair_99 : decode cX10_pair 99 = .ok (.invokevirtual 307, 3) := by decide +kernel
theorem dX10_pair_102 : decode cX10_pair 102 = .ok (.iload 4, 2) := by decide +kernel
theorem dX10_pair_104 : decode cX10_pair 104 = .ok (.if_icmp .gt 6, 3) := by decide +kernel
theorem dX10_pair_107 : decode cX10_pair 107 = .ok (.goto 19, 3) := by decide +kernel
theorem dX10_pair_110 : decode cX10_pair 110 = .ok (.iload 5, 2) := by decide +kernel
theorem dX10_pair_112 : decode cX10_pair 112 = .ok (.istore_n 2, 1) := by decide +kernel
theorem dX10_pair_113 : decode cX10_pair 113 = .ok (.iload 6, 2) := by decide +kernel
theorem dX10_pair_115 : decode cX10_pair 115 = .ok (.istore_n 3, 1) := by decide +kernel
theorem dX10_pair_116 : decode cX10_pair 116 = .ok (.aload_n 0, 1) := by decide +kernel
theorem dX10_pair_117 : decode cX10_pair 117 = .ok (.iload 5, 2) := by decide +kernel
theorem dX10_pair_119 : decode cX10_pair 119 = .ok (.iload 6, 2) := by decide +kernel
theorem dX10_pair_121 : decode cX10_pair 121 = .ok (.invokevirtual 307, 3) := by decide +kernel
theorem dX10_pair_124 : decode cX10_pair 124 = .ok (.istore 4, 2) := by decide +kernel
theorem dX10_pair_126 : decode cX10_pair 126 = .ok (.iinc 6 1, 3) := by decide +kernel
theorem dX10_pair_129 : decode cX10_pair 129 = .ok (.goto (-72), 3) := by decide +kernel
theorem dX10_pair_132 : decode cX10_pair 132 = .ok (.iinc 5 1, 3) := by decide +kernel
theorem dX10_pair_135 : decode cX10_pair 135 = .ok (.goto (-95), 3) := by decide +kernel
theorem dX10_pair_138 : decode cX10_pair 138 = .ok (.iload_n 1, 1) := by decide +kernel
theorem dX10_pair_139 : decode cX10_pair 139 = .ok (.ifCond .ne 7, 3) := by decide +kernel
theorem dX10_pair_142 : decode cX10_pair 142 = .ok (.iload_n 2, 1) := by decide +kernel
theorem dX10_pair_143 : decode cX10_pair 143 = .ok (.goto 14, 3) := by decide +kernel
theorem dX10_pair_146 : decode cX10_pair 146 = .ok (.iload_n 1, 1) := by decide +kernel
theorem dX10_pair_147 : decode cX10_pair 147 = .ok (.iconst 1, 1) := by decide +kernel
theorem dX10_pair_148 : decode cX10_pair 148 = .ok (.if_icmp .ne 7, 3) := by decide +kernel
theorem dX10_pair_151 : decode cX10_pair 151 = .ok (.iload_n 3, 1) := by decide +kernel
theorem dX10_pair_152 : decode cX10_pair 152 = .ok (.goto 5, 3) := by decide +kernel
theorem dX10_pair_155 : decode cX10_pair 155 = .ok (.iload 4, 2) := by decide +kernel
theorem dX10_pair_157 : decode cX10_pair 157 = .ok (.ireturn, 1) := by decide +kernel
def fX10_pair_57 (K40 : Nat → Int32 → Int32 → Int32 → Int32 → Int32 → zV → Option (Int32 × zV)) : Nat → Nat → Int32 → Int32 → Int32 → Int32 → Int32 → Int32 → zV → Option (Int32 × zV)
  | 0 => fun _ _ _ _ _ _ _ _ => none
  | n + 1 => fun x0 x1 x2 x3 x4 x5 x6 v =>
    zix (1 : Int32) (zlen (zrf x0 12)) <|
    if (v (zrf x0 12) ((1 : Int32)).toNatClampNeg) ≤ x6 then
      K40 x0 x1 x2 x3 x4 (x5 + (1 : Int32)) v
    else
      zix ((0 : Int32) + x5) (zlen (zrf x0 35)) <|
      if (v (zrf x0 35) ((0 : Int32) + x5).toNatClampNeg) = (3 : Int32) then
        (fX10_pair_57 K40 n) x0 x1 x2 x3 x4 x5 (x6 + (1 : Int32)) v
      else
        zix ((0 : Int32) + x6) (zlen (zrf x0 35)) <|
        if (v (zrf x0 35) ((0 : Int32) + x6).toNatClampNeg) = (3 : Int32) then
          (fX10_pair_57 K40 n) x0 x1 x2 x3 x4 x5 (x6 + (1 : Int32)) v
        else
          zbind (fX10_differsOf x0 x5 x6 v) fun r_2 v_1 =>
          if x4 < r_2 then
            zbind (fX10_differsOf x0 x5 x6 v_1) fun r_4 v_3 =>
            (fX10_pair_57 K40 n) x0 x1 x5 x6 r_4 x5 (x6 + (1 : Int32)) v_3
          else
            (fX10_pair_57 K40 n) x0 x1 x2 x3 x4 x5 (x6 + (1 : Int32)) v_1
set_option maxRecDepth 4000 in
theorem jX10_pair_57 (x : zCx) (G : zG) (F : zF x G cX10_pair 7 RX10 2 104) (hr : x.2.2.2.2.2.2.2.2.1.sig.returnType = (Option.some FieldType.int)) (hk : x.2.2.2.2.2.2.2.2.1.locks = false) (r : Int32) (w : zV) (K40 : Nat → Int32 → Int32 → Int32 → Int32 → Int32 → zV → Option (Int32 × zV)) (hK40 : ∀ (x0 : Nat) (t0 : zty G x0 1 10) (x1 : Int32) (x2 : Int32) (x3 : Int32) (x4 : Int32) (x5 : Int32) (v : zV), K40 x0 x1 x2 x3 x4 x5 v = some (r, w) → zJ x G 7 (zQ x G (some (.int r)) w 0 0) 0 0 40 [(0, zr G x0), (1, .int x1), (2, .int x2), (3, .int x3), (4, .int x4), (5, .int x5)] [] v) : ∀ (n : Nat) (x0 : Nat) (t0 : zty G x0 1 10) (x1 : Int32) (x2 : Int32) (x3 : Int32) (x4 : Int32) (x5 : Int32) (x6 : Int32) (v : zV), fX10_pair_57 K40 n x0 x1 x2 x3 x4 x5 x6 v = some (r, w) → zJ x G 7 (zQ x G (some (.int r)) w 0 0) 0 0 57 [(0, zr G x0), (1, .int x1), (2, .int x2), (3, .int x3), (4, .int x4), (5, .int x5), (6, .int x6)] [] v := by
  intro n
  induction n with
  | zero => intro x0 t0 x1 x2 x3 x4 x5 x6 v h; exact absurd h (by intro q; cases q)
  | succ n ih =>
    intro x0 t0 x1 x2 x3 x4 x5 x6 v h
    rw [fX10_pair_57] at h
    dsimp only at h
    refine z_iload F dX10_pair_57 6 rfl ?_
    refine z_aload_n F dX10_pair_59 rfl 0 rfl ?_
    refine zg_10_12 F t0 wF_X10_23 dX10_pair_60 ?_
    refine z_iconst (y := (1 : Int32)) F dX10_pair_63 rfl ?_
    obtain ⟨hi64, h⟩ := zix_ex h
    refine z_iald F (zt_f tc_10_12 t0) dX10_pair_64 hi64 ?_
    refine z_icmp_ge F 132 dX10_pair_65 rfl (fun hc => ?_) (fun hc => ?_)
    · replace h := zif_t hc h
      refine z_iinc F [(5, .int (x5 + (1 : Int32))), (0, zr G x0), (1, .int x1), (2, .int x2), (3, .int x3), (4, .int x4), (6, .int x6)] dX10_pair_132 5 rfl rfl (Nat.le_of_ble_eq_true rfl) rfl ?_
      refine z_goto F 40 dX10_pair_135 rfl ?_
      refine z_ls [(0, zr G x0), (1, .int x1), (2, .int x2), (3, .int x3), (4, .int x4), (5, .int (x5 + (1 : Int32)))] [1, 2, 3, 4, 5, 0] rfl ?_
      exact hK40 x0 t0 x1 x2 x3 x4 (x5 + (1 : Int32)) v h
    · replace h := zif_f hc h
      refine z_aload_n F dX10_pair_68 rfl 0 rfl ?_
      refine zg_10_35 F t0 wF_X10_85 dX10_pair_69 ?_
      refine z_iconst (y := (0 : Int32)) F dX10_pair_72 rfl ?_
      refine z_iload F dX10_pair_73 5 rfl ?_
      refine z_iadd F dX10_pair_75 ?_
      obtain ⟨hi76, h⟩ := zix_ex h
      refine z_iald F (zt_f tc_10_35 t0) dX10_pair_76 hi76 ?_
      refine z_iconst (y := (3 : Int32)) F dX10_pair_77 rfl ?_
      refine z_icmp_eq F 126 dX10_pair_78 rfl (fun hc => ?_) (fun hc => ?_)
      · replace h := zif_t hc h
        refine z_iinc F [(6, .int (x6 + (1 : Int32))), (0, zr G x0), (1, .int x1), (2, .int x2), (3, .int x3), (4, .int x4), (5, .int x5)] dX10_pair_126 6 rfl rfl (Nat.le_of_ble_eq_true rfl) rfl ?_
        refine z_goto F 57 dX10_pair_129 rfl ?_
        refine z_ls [(0, zr G x0), (1, .int x1), (2, .int x2), (3, .int x3), (4, .int x4), (5, .int x5), (6, .int (x6 + (1 : Int32)))] [1, 2, 3, 4, 5, 6, 0] rfl ?_
        exact ih x0 t0 x1 x2 x3 x4 x5 (x6 + (1 : Int32)) v h
      · replace h := zif_f hc h
        refine z_aload_n F dX10_pair_81 rfl 0 rfl ?_
        refine zg_10_35 F t0 wF_X10_85 dX10_pair_82 ?_
        refine z_iconst (y := (0 : Int32)) F dX10_pair_85 rfl ?_
        refine z_iload F dX10_pair_86 6 rfl ?_
        refine z_iadd F dX10_pair_88 ?_
        obtain ⟨hi89, h⟩ := zix_ex h
        refine z_iald F (zt_f tc_10_35 t0) dX10_pair_89 hi89 ?_
        refine z_iconst (y := (3 : Int32)) F dX10_pair_90 rfl ?_
        refine z_icmp_eq F 126 dX10_pair_91 rfl (fun hc => ?_) (fun hc => ?_)
        · replace h := zif_t hc h
          refine z_iinc F [(6, .int (x6 + (1 : Int32))), (0, zr G x0), (1, .int x1), (2, .int x2), (3, .int x3), (4, .int x4), (5, .int x5)] dX10_pair_126 6 rfl rfl (Nat.le_of_ble_eq_true rfl) rfl ?_
          refine z_goto F 57 dX10_pair_129 rfl ?_
          refine z_ls [(0, zr G x0), (1, .int x1), (2, .int x2), (3, .int x3), (4, .int x4), (5, .int x5), (6, .int (x6 + (1 : Int32)))] [1, 2, 3, 4, 5, 6, 0] rfl ?_
          exact ih x0 t0 x1 x2 x3 x4 x5 (x6 + (1 : Int32)) v h
        · replace h := zif_f hc h
          refine z_aload_n F dX10_pair_94 rfl 0 rfl ?_
          refine z_iload F dX10_pair_95 5 rfl ?_
          refine z_iload F dX10_pair_97 6 rfl ?_
          obtain ⟨r_2, v_1, hq99, h⟩ := zbind_ex h
          refine z_callVi F [.int x5, .int x6] [] (kX10_differsOf x.2.1 G x0 t0 x5 x6 v r_2 v_1 hq99) mI_X10_differsOf (c := 10) rfl t0 wM_X10_307 mi_X10_differsOf sl_X10_differsOf dX10_pair_99 rfl ⟨Nat.le_of_ble_eq_true rfl, Nat.le_of_ble_eq_true rfl⟩ rfl (Nat.le_of_ble_eq_true rfl) ⟨Nat.zero_le _, Nat.zero_le _⟩ ?_
          refine z_iload F dX10_pair_102 4 rfl ?_
          refine z_icmp_gt F 110 dX10_pair_104 rfl (fun hc => ?_) (fun hc => ?_)
          · replace h := zif_t hc h
            refine z_iload F dX10_pair_110 5 rfl ?_
            refine z_istore_n F [(2, .int x5), (0, zr G x0), (1, .int x1), (3, .int x3), (4, .int x4), (5, .int x5), (6, .int x6)] dX10_pair_112 rfl (Nat.le_of_ble_eq_true rfl) rfl ?_
            refine z_iload F dX10_pair_113 6 rfl ?_
            refine z_istore_n F [(3, .int x6), (2, .int x5), (0, zr G x0), (1, .int x1), (4, .int x4), (5, .int x5), (6, .int x6)] dX10_pair_115 rfl (Nat.le_of_ble_eq_true rfl) rfl ?_
            refine z_aload_n F dX10_pair_116 rfl 2 rfl ?_
            refine z_iload F dX10_pair_117 5 rfl ?_
            refine z_iload F dX10_pair_119 6 rfl ?_
            obtain ⟨r_4, v_3, hq121, h⟩ := zbind_ex h
            refine z_callVi F [.int x5, .int x6] [] (kX10_differsOf x.2.1 G x0 t0 x5 x6 v_1 r_4 v_3 hq121) mI_X10_differsOf (c := 10) rfl t0 wM_X10_307 mi_X10_differsOf sl_X10_differsOf dX10_pair_121 rfl ⟨Nat.le_of_ble_eq_true rfl, Nat.le_of_ble_eq_true rfl⟩ rfl (Nat.le_of_ble_eq_true rfl) ⟨Nat.zero_le _, Nat.zero_le _⟩ ?_
            refine z_istore (n := 0) F [(4, .int r_4), (3, .int x6), (2, .int x5), (0, zr G x0), (1, .int x1), (5, .int x5), (6, .int x6)] dX10_pair_124 (Nat.le_of_ble_eq_true rfl) rfl ?_
            refine z_iinc F [(6, .int (x6 + (1 : Int32))), (4, .int r_4), (3, .int x6), (2, .int x5), (0, zr G x0), (1, .int x1), (5, .int x5)] dX10_pair_126 6 rfl rfl (Nat.le_of_ble_eq_true rfl) rfl ?_
            refine z_goto F 57 dX10_pair_129 rfl ?_
            refine z_ls [(0, zr G x0), (1, .int x1), (2, .int x5), (3, .int x6), (4, .int r_4), (5, .int x5), (6, .int (x6 + (1 : Int32)))] [4, 5, 3, 2, 1, 6, 0] rfl ?_
            exact ih x0 t0 x1 x5 x6 r_4 x5 (x6 + (1 : Int32)) v_3 h
          · replace h := zif_f hc h
            refine z_goto F 126 dX10_pair_107 rfl ?_
            refine z_iinc F [(6, .int (x6 + (1 : Int32))), (0, zr G x0), (1, .int x1), (2, .int x2), (3, .int x3), (4, .int x4), (5, .int x5)] dX10_pair_126 6 rfl rfl (Nat.le_of_ble_eq_true rfl) rfl ?_
            refine z_goto F 57 dX10_pair_129 rfl ?_
            refine z_ls [(0, zr G x0), (1, .int x1), (2, .int x2), (3, .int x3), (4, .int x4), (5, .int x5), (6, .int (x6 + (1 : Int32)))] [1, 2, 3, 4, 5, 6, 0] rfl ?_
            exact ih x0 t0 x1 x2 x3 x4 x5 (x6 + (1 : Int32)) v_1 h

def fX10_pair_40  : Nat → Nat → Int32 → Int32 → Int32 → Int32 → Int32 → zV → Option (Int32 × zV)
  | 0 => fun _ _ _ _ _ _ _ => none
  | n + 1 => fun x0 x1 x2 x3 x4 x5 v =>
    zix (1 : Int32) (zlen (zrf x0 12)) <|
    if (v (zrf x0 12) ((1 : Int32)).toNatClampNeg) ≤ x5 then
      if x1 = (0 : Int32) then
        some (x2, v)
      else
        if x1 = (1 : Int32) then
          some (x3, v)
        else
          some (x4, v)
    else
      fX10_pair_57 (fX10_pair_40 n) zFU x0 x1 x2 x3 x4 x5 (x5 + (1 : Int32)) v
set_option maxRecDepth 4000 in
theorem jX10_pair_40 (x : zCx) (G : zG) (F : zF x G cX10_pair 7 RX10 2 104) (hr : x.2.2.2.2.2.2.2.2.1.sig.returnType = (Option.some FieldType.int)) (hk : x.2.2.2.2.2.2.2.2.1.locks = false) (r : Int32) (w : zV)  : ∀ (n : Nat) (x0 : Nat) (t0 : zty G x0 1 10) (x1 : Int32) (x2 : Int32) (x3 : Int32) (x4 : Int32) (x5 : Int32) (v : zV), fX10_pair_40 n x0 x1 x2 x3 x4 x5 v = some (r, w) → zJ x G 7 (zQ x G (some (.int r)) w 0 0) 0 0 40 [(0, zr G x0), (1, .int x1), (2, .int x2), (3, .int x3), (4, .int x4), (5, .int x5)] [] v := by
  intro n
  induction n with
  | zero => intro x0 t0 x1 x2 x3 x4 x5 v h; exact absurd h (by intro q; cases q)
  | succ n ih =>
    intro x0 t0 x1 x2 x3 x4 x5 v h
    rw [fX10_pair_40] at h
    dsimp only at h
    refine z_iload F dX10_pair_40 5 rfl ?_
    refine z_aload_n F dX10_pair_42 rfl 0 rfl ?_
    refine zg_10_12 F t0 wF_X10_23 dX10_pair_43 ?_
    refine z_iconst (y := (1 : Int32)) F dX10_pair_46 rfl ?_
    obtain ⟨hi47, h⟩ := zix_ex h
    refine z_iald F (zt_f tc_10_12 t0) dX10_pair_47 hi47 ?_
    refine z_icmp_ge F 138 dX10_pair_48 rfl (fun hc => ?_) (fun hc => ?_)
    · replace h := zif_t hc h
      refine z_iload_n F dX10_pair_138 rfl 1 rfl ?_
      refine z_if_ne F 146 dX10_pair_139 rfl (fun hc => ?_) (fun hc => ?_)
      · replace h := zif_f hc h
        refine z_iload_n F dX10_pair_146 rfl 1 rfl ?_
        refine z_iconst (y := (1 : Int32)) F dX10_pair_147 rfl ?_
        refine z_icmp_ne F 155 dX10_pair_148 rfl (fun hc => ?_) (fun hc => ?_)
        · replace h := zif_f hc h
          refine z_iload F dX10_pair_155 4 rfl ?_
          cases h
          exact z_reti F hr hk dX10_pair_157
        · replace h := zif_t hc h
          refine z_iload_n F dX10_pair_151 rfl 3 rfl ?_
          refine z_goto F 157 dX10_pair_152 rfl ?_
          cases h
          exact z_reti F hr hk dX10_pair_157
      · replace h := zif_t hc h
        refine z_iload_n F dX10_pair_142 rfl 2 rfl ?_
        refine z_goto F 157 dX10_pair_143 rfl ?_
        cases h
        exact z_reti F hr hk dX10_pair_157
    · replace h := zif_f hc h
      refine z_iload F dX10_pair_51 5 rfl ?_
      refine z_iconst (y := (1 : Int32)) F dX10_pair_53 rfl ?_
      refine z_iadd F dX10_pair_54 ?_
      refine z_istore (n := 0) F [(6, .int (x5 + (1 : Int32))), (0, zr G x0), (1, .int x1), (2, .int x2), (3, .int x3), (4, .int x4), (5, .int x5)] dX10_pair_55 (Nat.le_of_ble_eq_true rfl) rfl ?_
      refine z_ls [(0, zr G x0), (1, .int x1), (2, .int x2), (3, .int x3), (4, .int x4), (5, .int x5), (6, .int (x5 + (1 : Int32)))] [1, 2, 3, 4, 5, 6, 0] rfl ?_
      exact jX10_pair_57 x G F hr hk r w (fX10_pair_40 n) ih zFU x0 t0 x1 x2 x3 x4 x5 (x5 + (1 : Int32)) v h

def fX10_pair_20  (x0 : Nat) (x1 : Int32) (s0 : Nat) (s1 : Int32) (v : zV) : Option (Int32 × zV) :=
  zbind (fX10_bad s0 s1 (1 : Int32) (1 : Int32) v) fun r_2 v_1 =>
  if r_2 = (0 : Int32) then
    fX10_pair_40  zFU x0 x1 (-1 : Int32) (-1 : Int32) (-1 : Int32) (0 : Int32) v_1
  else
    some ((0 : Int32), v_1)
set_option maxRecDepth 4000 in
theorem jX10_pair_20 (x : zCx) (G : zG) (F : zF x G cX10_pair 7 RX10 2 104) (hr : x.2.2.2.2.2.2.2.2.1.sig.returnType = (Option.some FieldType.int)) (hk : x.2.2.2.2.2.2.2.2.1.locks = false) (r : Int32) (w : zV)  : ∀ (x0 : Nat) (t0 : zty G x0 1 10) (x1 : Int32) (s0 : Nat) (ts0 : zty G s0 1 10) (s1 : Int32) (v : zV), fX10_pair_20 x0 x1 s0 s1 v = some (r, w) → zJ x G 7 (zQ x G (some (.int r)) w 0 0) 0 0 20 [(0, zr G x0), (1, .int x1)] [.int s1, zr G s0] v := by
  intro x0 t0 x1 s0 ts0 s1 v h
  unfold fX10_pair_20 at h
  refine z_iconst (y := (1 : Int32)) F dX10_pair_20 rfl ?_
  refine z_iconst (y := (1 : Int32)) F dX10_pair_21 rfl ?_
  obtain ⟨r_2, v_1, hq22, h⟩ := zbind_ex h
  refine z_callVi F [.int s1, .int (1 : Int32), .int (1 : Int32)] [] (kX10_bad x.2.1 G s0 ts0 s1 (1 : Int32) (1 : Int32) v r_2 v_1 hq22) mI_X10_bad (c := 10) rfl ts0 wM_X10_220 mi_X10_bad sl_X10_bad dX10_pair_22 rfl ⟨Nat.le_of_ble_eq_true rfl, Nat.le_of_ble_eq_true rfl⟩ rfl (Nat.le_of_ble_eq_true rfl) ⟨Nat.zero_le _, Nat.zero_le _⟩ ?_
  refine z_if_eq F 30 dX10_pair_25 rfl (fun hc => ?_) (fun hc => ?_)
  · replace h := zif_t hc h
    refine z_iconst (y := (-1 : Int32)) F dX10_pair_30 rfl ?_
    refine z_istore_n F [(2, .int (-1 : Int32)), (0, zr G x0), (1, .int x1)] dX10_pair_31 rfl (Nat.le_of_ble_eq_true rfl) rfl ?_
    refine z_iconst (y := (-1 : Int32)) F dX10_pair_32 rfl ?_
    refine z_istore_n F [(3, .int (-1 : Int32)), (2, .int (-1 : Int32)), (0, zr G x0), (1, .int x1)] dX10_pair_33 rfl (Nat.le_of_ble_eq_true rfl) rfl ?_
    refine z_iconst (y := (-1 : Int32)) F dX10_pair_34 rfl ?_
    refine z_istore (n := 0) F [(4, .int (-1 : Int32)), (3, .int (-1 : Int32)), (2, .int (-1 : Int32)), (0, zr G x0), (1, .int x1)] dX10_pair_35 (Nat.le_of_ble_eq_true rfl) rfl ?_
    refine z_iconst (y := (0 : Int32)) F dX10_pair_37 rfl ?_
    refine z_istore (n := 0) F [(5, .int (0 : Int32)), (4, .int (-1 : Int32)), (3, .int (-1 : Int32)), (2, .int (-1 : Int32)), (0, zr G x0), (1, .int x1)] dX10_pair_38 (Nat.le_of_ble_eq_true rfl) rfl ?_
    refine z_ls [(0, zr G x0), (1, .int x1), (2, .int (-1 : Int32)), (3, .int (-1 : Int32)), (4, .int (-1 : Int32)), (5, .int (0 : Int32))] [4, 5, 3, 2, 1, 0] rfl ?_
    exact jX10_pair_40 x G F hr hk r w   zFU x0 t0 x1 (-1 : Int32) (-1 : Int32) (-1 : Int32) (0 : Int32) v_1 h
  · replace h := zif_f hc h
    refine z_iconst (y := (0 : Int32)) F dX10_pair_28 rfl ?_
    cases h
    exact z_reti F hr hk dX10_pair_29

def fX10_pair (x0 : Nat) (x1 : Int32) (v : zV) : Option (Int32 × zV) :=
  zlet (zup v x0 0 (0 : Int32)) fun v_1 =>
  zbind (fX10_in x1 (0 : Int32) (2 : Int32) v_1) fun r_3 v_2 =>
  if r_3 = (0 : Int32) then
    fX10_pair_20  x0 x1 x0 (1 : Int32) v_2
  else
    fX10_pair_20  x0 x1 x0 (0 : Int32) v_2
set_option maxRecDepth 4000 in
theorem kX10_pair (l : Launch) (G : zG) (x0 : Nat) (t0 : zty G x0 1 10) (x1 : Int32) (v : zV) (r : Int32) (w : zV) (h : fX10_pair x0 x1 v = some (r, w)) : zMet l yX10_pair cX10_pair 7 (Option.some FieldType.int) 2 104 0 0 [zr G x0, .int x1] G v (some (.int r)) w := by
  refine zM_of (own := RX10) (by decide) rfl (Nat.le_of_ble_eq_true rfl) (fun x hl F hr hk hcs => ?_)
  subst hl
  refine z_ls [(0, zr G x0), (1, .int x1)] [0, 1] rfl ?_
  unfold fX10_pair at h
  refine z_aload_n F dX10_pair_0 rfl 0 rfl ?_
  refine z_iconst (y := (0 : Int32)) F dX10_pair_1 rfl ?_
  refine zp_10_0 F t0 wF_X10_134 dX10_pair_2 ?_
  obtain ⟨v_1, ev_1, h⟩ := zlet_ex h
  refine z_heap ev_1 ?_
  refine z_aload_n F dX10_pair_5 rfl 0 rfl ?_
  refine z_iload_n F dX10_pair_6 rfl 1 rfl ?_
  refine z_iconst (y := (0 : Int32)) F dX10_pair_7 rfl ?_
  refine z_iconst (y := (2 : Int32)) F dX10_pair_8 rfl ?_
  obtain ⟨r_3, v_2, hq9, h⟩ := zbind_ex h
  refine z_callSi F [.int x1, .int (0 : Int32), .int (2 : Int32)] [zr G x0] (kX10_in x.2.1 G x1 (0 : Int32) (2 : Int32) v_1 r_3 v_2 hq9) mI_X10_in wM_X10_168 ms_X10_in dX10_pair_9 rfl ⟨Nat.le_of_ble_eq_true rfl, Nat.le_of_ble_eq_true rfl⟩ rfl (Nat.le_of_ble_eq_true rfl) ⟨Nat.zero_le _, Nat.zero_le _⟩ ?_
  refine z_if_ne F 19 dX10_pair_12 rfl (fun hc => ?_) (fun hc => ?_)
  · replace h := zif_f hc h
    refine z_iconst (y := (0 : Int32)) F dX10_pair_19 rfl ?_
    refine z_ls [(0, zr G x0), (1, .int x1)] [0, 1] rfl ?_
    exact jX10_pair_20 x G F hr hk r w   x0 t0 x1 x0 t0 (0 : Int32) v_2 h
  · replace h := zif_t hc h
    refine z_iconst (y := (1 : Int32)) F dX10_pair_15 rfl ?_
    refine z_goto F 20 dX10_pair_16 rfl ?_
    refine z_ls [(0, zr G x0), (1, .int x1)] [0, 1] rfl ?_
    exact jX10_pair_20 x G F hr hk r w   x0 t0 x1 x0 t0 (1 : Int32) v_2 h

theorem dX10_rank_0 : decode cX10_rank 0 = .ok (.aload_n 0, 1) := by decide +kernel
theorem dX10_rank_1 : decode cX10_rank 1 = .ok (.iconst 0, 1) := by decide +kernel
theorem dX10_rank_2 : decode cX10_rank 2 = .ok (.putfield 134, 3) := by decide +kernel
theorem dX10_rank_5 : decode cX10_rank 5 = .ok (.aload_n 0, 1) := by decide +kernel
theorem dX10_rank_6 : decode cX10_rank 6 = .ok (.aload_n 0, 1) := by decide +kernel
theorem dX10_rank_7 : decode cX10_rank 7 = .ok (.iload_n 1, 1) := by decide +kernel
theorem dX10_rank_8 : decode cX10_rank 8 = .ok (.invokevirtual 298, 3) := by decide +kernel
theorem dX10_rank_11 : decode cX10_rank 11 = .ok (.ifCond .ne 7, 3) := by decide +kernel
theorem dX10_rank_14 : decode cX10_rank 14 = .ok (.iconst 1, 1) := by decide +kernel
theorem dX10_rank_15 : decode cX10_rank 15 = .ok (.goto 4, 3) := by decide +kernel
theorem dX10_rank_18 : decode cX10_rank 18 = .ok (.iconst 0, 1) := by decide +kernel
theorem dX10_rank_19 : decode cX10_rank 19 = .ok (.iconst 1, 1) := by decide +kernel
theorem dX10_rank_20 : decode cX10_rank 20 = .ok (.iconst 0, 1) := by decide +kernel
theorem dX10_rank_21 : decode cX10_rank 21 = .ok (.invokevirtual 220, 3) := by decide +kernel
theorem dX10_rank_24 : decode cX10_rank 24 = .ok (.ifCond .eq 5, 3) := by decide +kernel
theorem dX10_rank_27 : decode cX10_rank 27 = .ok (.iconst 0, 1) := by decide +kernel
theorem dX10_rank_28 : decode cX10_rank 28 = .ok (.ireturn, 1) := by decide +kernel
theorem dX10_rank_29 : decode cX10_rank 29 = .ok (.iconst 0, 1) := by decide +kernel
theorem dX10_rank_30 : decode cX10_rank 30 = .ok (.istore_n 2, 1) := by decide +kernel
theorem dX10_rank_31 : decode cX10_rank 31 = .ok (.aload_n 0, 1) := by decide +kernel
theorem dX10_rank_32 : decode cX10_rank 32 = .ok (.aload_n 0, 1) := by decide +kernel
theorem dX10_rank_33 : decode cX10_rank 33 = .ok (.getfield 85, 3) := by decide +kernel
theorem dX10_rank_36 : decode cX10_rank 36 = .ok (.iload_n 1, 1) := by decide +kernel
theorem dX10_rank_37 : decode cX10_rank 37 = .ok (.invokevirtual 323, 3) := by decide +kernel
theorem dX10_rank_40 : decode cX10_rank 40 = .ok (.istore_n 3, 1) := by decide +kernel
theorem dX10_rank_41 : decode cX10_rank 41 = .ok (.iconst 0, 1) := by decide +kernel
theorem dX10_rank_42 : decode cX10_rank 42 = .ok (.istore 4, 2) := by decide +kernel
theorem dX10_rank_44 : decode cX10_rank 44 = .ok (.iload 4, 2) := by decide +kernel
theorem dX10_rank_46 : decode cX10_rank 46 = .ok (.aload_n 0, 1) := by decide +kernel
theorem dX10_rank_47 : decode cX10_rank 47 = .ok (.getfield 23, 3) := by decide +kernel
theorem dX10_rank_50 : decode cX10_rank 50 = .ok (.iconst 1, 1) := by decide +kernel
theorem dX10_rank_51 : decode cX10_rank 51 = .ok (.iaload, 1) := by decide +kernel
theorem dX10_rank_52 : decode cX10_rank 52 = .ok (.if_icmp .ge 43, 3) := by decide +kernel
theorem dX10_rank_55 : decode cX10_rank 55 = .ok (.iload_n 2, 1) := by decide +kernel
theorem dX10_rank_56 : decode cX10_rank 56 = .ok (.aload_n 0, 1) := by decide +kernel
theorem dX10_rank_57 : decode cX10_rank 57 = .ok (.getfield 85, 3) := by decide +kernel
theorem dX10_rank_60 : decode cX10_rank 60 = .ok (.iconst 0, 1) := by decide +kernel
theorem dX10_rank_61 : decode cX10_rank 61 = .ok (.iload 4, 2) := by decide +kernel
theorem dX10_rank_63 : decode cX10_rank 63 = .ok (.iadd, 1) := by decide +kernel
theorem dX10_rank_64 : decode cX10_rank 64 = .ok (.iaload, 1) := by decide +kernel
theorem dX10_rank_65 : decode cX10_rank 65 = .ok (.ifCond .ne 21, 3) := by decide +kernel
theorem dX10_rank_68 : decode cX10_rank 68 = .ok (.aload_n 0, 1) := by decide +kernel
theorem dX10_rank_69 : decode cX10_rank 69 = .ok (.aload_n 0, 1) := by decide +kernel
theorem dX10_rank_70 : decode cX10_rank 70 = .ok (.getfield 85, 3) := by decide +kernel
theorem dX10_rank_73 : decode cX10_rank 73 = .ok (.iload 4, 2) := by decide +kernel
theorem dX10_rank_75 : decode cX10_rank 75 = .ok (.invokevirtual 323, 3) := by decide +kernel
theorem dX10_rank_78 : decode cX10_rank 78 = .ok (.iload_n 3, 1) := by decide +kernel
theorem dX10_rank_79 : decode cX10_rank 79 = .ok (.if_icmp .le 7, 3) := by decide +kernel
theorem dX10_rank_82 : decode cX10_rank 82 = .ok (.iconst 1, 1) := by decide +kernel
theorem dX10_rank_83 : decode cX10_rank 83 = .ok (.goto 4, 3) := by decide +kernel
theorem dX10_rank_86 : decode cX10_rank 86 = .ok (.iconst 0, 1) := by decide +kernel
theorem dX10_rank_87 : decode cX10_rank 87 = .ok (.iadd, 1) := by decide +kernel
theorem dX10_rank_88 : decode cX10_rank 88 = .ok (.istore_n 2, 1) := by decide +kernel
theorem dX10_rank_89 : decode cX10_rank 89 = .ok (.iinc 4 1, 3) := by decide +kernel
theorem dX10_rank_92 : decode cX10_rank 92 = .ok (.goto (-48), 3) := by decide +kernel
theorem dX10_rank_95 : decode cX10_rank 95 = .ok (.iload_n 2, 1) := by decide +kernel
theorem dX10_rank_96 : decode cX10_rank 96 = .ok (.ireturn, 1) := by decide +kernel
def fX10_rank_44  : Nat → Nat → Int32 → Int32 → Int32 → zV → Option (Int32 × zV)
  | 0 => fun _ _ _ _ _ => none
  | n + 1 => fun x0 x2 x3 x4 v =>
    zix (1 : Int32) (zlen (zrf x0 12)) <|
    if (v (zrf x0 12) ((1 : Int32)).toNatClampNeg) ≤ x4 then
      some (x2, v)
    else
      zix ((0 : Int32) + x4) (zlen (zrf x0 35)) <|
      if (v (zrf x0 35) ((0 : Int32) + x4).toNatClampNeg) = (0 : Int32) then
        zbind (fX10_scoreOf x0 (zrf x0 35) x4 v) fun r_2 v_1 =>
        if r_2 ≤ x3 then
          (fX10_rank_44 n) x0 (x2 + (0 : Int32)) x3 (x4 + (1 : Int32)) v_1
        else
          (fX10_rank_44 n) x0 (x2 + (1 : Int32)) x3 (x4 + (1 : Int32)) v_1
      else
        (fX10_rank_44 n) x0 (x2 + (0 : Int32)) x3 (x4 + (1 : Int32)) v
set_option maxRecDepth 4000 in
theorem jX10_rank_44 (x : zCx) (G : zG) (F : zF x G cX10_rank 5 RX10 5 167) (hr : x.2.2.2.2.2.2.2.2.1.sig.returnType = (Option.some FieldType.int)) (hk : x.2.2.2.2.2.2.2.2.1.locks = false) (r : Int32) (w : zV)  : ∀ (n : Nat) (x0 : Nat) (t0 : zty G x0 1 10) (x2 : Int32) (x3 : Int32) (x4 : Int32) (v : zV), fX10_rank_44 n x0 x2 x3 x4 v = some (r, w) → zJ x G 5 (zQ x G (some (.int r)) w 0 0) 0 0 44 [(0, zr G x0), (2, .int x2), (3, .int x3), (4, .int x4)] [] v := by
  intro n
  induction n with
  | zero => intro x0 t0 x2 x3 x4 v h; exact absurd h (by intro q; cases q)
  | succ n ih =>
    intro x0 t0 x2 x3 x4 v h
    rw [fX10_rank_44] at h
    dsimp only at h
    refine z_iload F dX10_rank_44 3 rfl ?_
    refine z_aload_n F dX10_rank_46 rfl 0 rfl ?_
    refine zg_10_12 F t0 wF_X10_23 dX10_rank_47 ?_
    refine z_iconst (y := (1 : Int32)) F dX10_rank_50 rfl ?_
    obtain ⟨hi51, h⟩ := zix_ex h
    refine z_iald F (zt_f tc_10_12 t0) dX10_rank_51 hi51 ?_
    refine z_icmp_ge F 95 dX10_rank_52 rfl (fun hc => ?_) (fun hc => ?_)
    · replace h := zif_t hc h
      refine z_iload_n F dX10_rank_95 rfl 1 rfl ?_
      cases h
      exact z_reti F hr hk dX10_rank_96
    · replace h := zif_f hc h
      refine z_iload_n F dX10_rank_55 rfl 1 rfl ?_
      refine z_aload_n F dX10_rank_56 rfl 0 rfl ?_
      refine zg_10_35 F t0 wF_X10_85 dX10_rank_57 ?_
      refine z_iconst (y := (0 : Int32)) F dX10_rank_60 rfl ?_
      refine z_iload F dX10_rank_61 3 rfl ?_
      refine z_iadd F dX10_rank_63 ?_
      obtain ⟨hi64, h⟩ := zix_ex h
      refine z_iald F (zt_f tc_10_35 t0) dX10_rank_64 hi64 ?_
      refine z_if_ne F 86 dX10_rank_65 rfl (fun hc => ?_) (fun hc => ?_)
      · replace h := zif_f hc h
        refine z_iconst (y := (0 : Int32)) F dX10_rank_86 rfl ?_
        refine z_iadd F dX10_rank_87 ?_
        refine z_istore_n F [(2, .int (x2 + (0 : Int32))), (0, zr G x0), (3, .int x3), (4, .int x4)] dX10_rank_88 rfl (Nat.le_of_ble_eq_true rfl) rfl ?_
        refine z_iinc F [(4, .int (x4 + (1 : Int32))), (2, .int (x2 + (0 : Int32))), (0, zr G x0), (3, .int x3)] dX10_rank_89 3 rfl rfl (Nat.le_of_ble_eq_true rfl) rfl ?_
        refine z_goto F 44 dX10_rank_92 rfl ?_
        refine z_ls [(0, zr G x0), (2, .int (x2 + (0 : Int32))), (3, .int x3), (4, .int (x4 + (1 : Int32)))] [2, 1, 3, 0] rfl ?_
        exact ih x0 t0 (x2 + (0 : Int32)) x3 (x4 + (1 : Int32)) v h
      · replace h := zif_t hc h
        refine z_aload_n F dX10_rank_68 rfl 0 rfl ?_
        refine z_aload_n F dX10_rank_69 rfl 0 rfl ?_
        refine zg_10_35 F t0 wF_X10_85 dX10_rank_70 ?_
        refine z_iload F dX10_rank_73 3 rfl ?_
        obtain ⟨r_2, v_1, hq75, h⟩ := zbind_ex h
        refine z_callVi F [zr G (zrf x0 35), .int x4] [.int x2] (kX10_scoreOf x.2.1 G x0 t0 (zrf x0 35) (zt_f tc_10_35 t0) x4 v r_2 v_1 hq75) mI_X10_scoreOf (c := 10) rfl t0 wM_X10_323 mi_X10_scoreOf sl_X10_scoreOf dX10_rank_75 rfl ⟨Nat.le_of_ble_eq_true rfl, Nat.le_of_ble_eq_true rfl⟩ rfl (Nat.le_of_ble_eq_true rfl) ⟨Nat.zero_le _, Nat.zero_le _⟩ ?_
        refine z_iload_n F dX10_rank_78 rfl 2 rfl ?_
        refine z_icmp_le F 86 dX10_rank_79 rfl (fun hc => ?_) (fun hc => ?_)
        · replace h := zif_t hc h
          refine z_iconst (y := (0 : Int32)) F dX10_rank_86 rfl ?_
          refine z_iadd F dX10_rank_87 ?_
          refine z_istore_n F [(2, .int (x2 + (0 : Int32))), (0, zr G x0), (3, .int x3), (4, .int x4)] dX10_rank_88 rfl (Nat.le_of_ble_eq_true rfl) rfl ?_
          refine z_iinc F [(4, .int (x4 + (1 : Int32))), (2, .int (x2 + (0 : Int32))), (0, zr G x0), (3, .int x3)] dX10_rank_89 3 rfl rfl (Nat.le_of_ble_eq_true rfl) rfl ?_
          refine z_goto F 44 dX10_rank_92 rfl ?_
          refine z_ls [(0, zr G x0), (2, .int (x2 + (0 : Int32))), (3, .int x3), (4, .int (x4 + (1 : Int32)))] [2, 1, 3, 0] rfl ?_
          exact ih x0 t0 (x2 + (0 : Int32)) x3 (x4 + (1 : Int32)) v_1 h
        · replace h := zif_f hc h
          refine z_iconst (y := (1 : Int32)) F dX10_rank_82 rfl ?_
          refine z_goto F 87 dX10_rank_83 rfl ?_
          refine z_iadd F dX10_rank_87 ?_
          refine z_istore_n F [(2, .int (x2 + (1 : Int32))), (0, zr G x0), (3, .int x3), (4, .int x4)] dX10_rank_88 rfl (Nat.le_of_ble_eq_true rfl) rfl ?_
          refine z_iinc F [(4, .int (x4 + (1 : Int32))), (2, .int (x2 + (1 : Int32))), (0, zr G x0), (3, .int x3)] dX10_rank_89 3 rfl rfl (Nat.le_of_ble_eq_true rfl) rfl ?_
          refine z_goto F 44 dX10_rank_92 rfl ?_
          refine z_ls [(0, zr G x0), (2, .int (x2 + (1 : Int32))), (3, .int x3), (4, .int (x4 + (1 : Int32)))] [2, 1, 3, 0] rfl ?_
          exact ih x0 t0 (x2 + (1 : Int32)) x3 (x4 + (1 : Int32)) v_1 h

def fX10_rank_19  (x0 : Nat) (x1 : Int32) (s0 : Nat) (s1 : Int32) (v : zV) : Option (Int32 × zV) :=
  zbind (fX10_bad s0 s1 (1 : Int32) (0 : Int32) v) fun r_2 v_1 =>
  if r_2 = (0 : Int32) then
    zbind (fX10_scoreOf x0 (zrf x0 35) x1 v_1) fun r_4 v_3 =>
    fX10_rank_44  zFU x0 (0 : Int32) r_4 (0 : Int32) v_3
  else
    some ((0 : Int32), v_1)
set_option maxRecDepth 4000 in
theorem jX10_rank_19 (x : zCx) (G : zG) (F : zF x G cX10_rank 5 RX10 5 167) (hr : x.2.2.2.2.2.2.2.2.1.sig.returnType = (Option.some FieldType.int)) (hk : x.2.2.2.2.2.2.2.2.1.locks = false) (r : Int32) (w : zV)  : ∀ (x0 : Nat) (t0 : zty G x0 1 10) (x1 : Int32) (s0 : Nat) (ts0 : zty G s0 1 10) (s1 : Int32) (v : zV), fX10_rank_19 x0 x1 s0 s1 v = some (r, w) → zJ x G 5 (zQ x G (some (.int r)) w 0 0) 0 0 19 [(0, zr G x0), (1, .int x1)] [.int s1, zr G s0] v := by
  intro x0 t0 x1 s0 ts0 s1 v h
  unfold fX10_rank_19 at h
  refine z_iconst (y := (1 : Int32)) F dX10_rank_19 rfl ?_
  refine z_iconst (y := (0 : Int32)) F dX10_rank_20 rfl ?_
  obtain ⟨r_2, v_1, hq21, h⟩ := zbind_ex h
  refine z_callVi F [.int s1, .int (1 : Int32), .int (0 : Int32)] [] (kX10_bad x.2.1 G s0 ts0 s1 (1 : Int32) (0 : Int32) v r_2 v_1 hq21) mI_X10_bad (c := 10) rfl ts0 wM_X10_220 mi_X10_bad sl_X10_bad dX10_rank_21 rfl ⟨Nat.le_of_ble_eq_true rfl, Nat.le_of_ble_eq_true rfl⟩ rfl (Nat.le_of_ble_eq_true rfl) ⟨Nat.zero_le _, Nat.zero_le _⟩ ?_
  refine z_if_eq F 29 dX10_rank_24 rfl (fun hc => ?_) (fun hc => ?_)
  · replace h := zif_t hc h
    refine z_iconst (y := (0 : Int32)) F dX10_rank_29 rfl ?_
    refine z_istore_n F [(2, .int (0 : Int32)), (0, zr G x0), (1, .int x1)] dX10_rank_30 rfl (Nat.le_of_ble_eq_true rfl) rfl ?_
    refine z_aload_n F dX10_rank_31 rfl 1 rfl ?_
    refine z_aload_n F dX10_rank_32 rfl 1 rfl ?_
    refine zg_10_35 F t0 wF_X10_85 dX10_rank_33 ?_
    refine z_iload_n F dX10_rank_36 rfl 2 rfl ?_
    obtain ⟨r_4, v_3, hq37, h⟩ := zbind_ex h
    refine z_callVi F [zr G (zrf x0 35), .int x1] [] (kX10_scoreOf x.2.1 G x0 t0 (zrf x0 35) (zt_f tc_10_35 t0) x1 v_1 r_4 v_3 hq37) mI_X10_scoreOf (c := 10) rfl t0 wM_X10_323 mi_X10_scoreOf sl_X10_scoreOf dX10_rank_37 rfl ⟨Nat.le_of_ble_eq_true rfl, Nat.le_of_ble_eq_true rfl⟩ rfl (Nat.le_of_ble_eq_true rfl) ⟨Nat.zero_le _, Nat.zero_le _⟩ ?_
    refine z_istore_n F [(3, .int r_4), (2, .int (0 : Int32)), (0, zr G x0), (1, .int x1)] dX10_rank_40 rfl (Nat.le_of_ble_eq_true rfl) rfl ?_
    refine z_iconst (y := (0 : Int32)) F dX10_rank_41 rfl ?_
    refine z_istore (n := 0) F [(4, .int (0 : Int32)), (3, .int r_4), (2, .int (0 : Int32)), (0, zr G x0), (1, .int x1)] dX10_rank_42 (Nat.le_of_ble_eq_true rfl) rfl ?_
    refine z_ls [(0, zr G x0), (2, .int (0 : Int32)), (3, .int r_4), (4, .int (0 : Int32))] [3, 2, 1, 0] rfl ?_
    exact jX10_rank_44 x G F hr hk r w   zFU x0 t0 (0 : Int32) r_4 (0 : Int32) v_3 h
  · replace h := zif_f hc h
    refine z_iconst (y := (0 : Int32)) F dX10_rank_27 rfl ?_
    cases h
    exact z_reti F hr hk dX10_rank_28

def fX10_rank (x0 : Nat) (x1 : Int32) (v : zV) : Option (Int32 × zV) :=
  zlet (zup v x0 0 (0 : Int32)) fun v_1 =>
  zbind (fX10_isMan x0 x1 v_1) fun r_3 v_2 =>
  if r_3 = (0 : Int32) then
    fX10_rank_19  x0 x1 x0 (1 : Int32) v_2
  else
    fX10_rank_19  x0 x1 x0 (0 : Int32) v_2
set_option maxRecDepth 4000 in
theorem kX10_rank (l : Launch) (G : zG) (x0 : Nat) (t0 : zty G x0 1 10) (x1 : Int32) (v : zV) (r : Int32) (w : zV) (h : fX10_rank x0 x1 v = some (r, w)) : zMet l yX10_rank cX10_rank 5 (Option.some FieldType.int) 5 167 0 0 [zr G x0, .int x1] G v (some (.int r)) w := by
  refine zM_of (own := RX10) (by decide) rfl (Nat.le_of_ble_eq_true rfl) (fun x hl F hr hk hcs => ?_)
  subst hl
  refine z_ls [(0, zr G x0), (1, .int x1)] [0, 1] rfl ?_
  unfold fX10_rank at h
  refine z_aload_n F dX10_rank_0 rfl 0 rfl ?_
  refine z_iconst (y := (0 : Int32)) F dX10_rank_1 rfl ?_
  refine zp_10_0 F t0 wF_X10_134 dX10_rank_2 ?_
  obtain ⟨v_1, ev_1, h⟩ := zlet_ex h
  refine z_heap ev_1 ?_
  refine z_aload_n F dX10_rank_5 rfl 0 rfl ?_
  refine z_aload_n F dX10_rank_6 rfl 0 rfl ?_
  refine z_iload_n F dX10_rank_7 rfl 1 rfl ?_
  obtain ⟨r_3, v_2, hq8, h⟩ := zbind_ex h
  refine z_callVi F [.int x1] [zr G x0] (kX10_isMan x.2.1 G x0 t0 x1 v_1 r_3 v_2 hq8) mI_X10_isMan (c := 10) rfl t0 wM_X10_298 mi_X10_isMan sl_X10_isMan dX10_rank_8 rfl ⟨Nat.le_of_ble_eq_true rfl, Nat.le_of_ble_eq_true rfl⟩ rfl (Nat.le_of_ble_eq_true rfl) ⟨Nat.zero_le _, Nat.zero_le _⟩ ?_
  refine z_if_ne F 18 dX10_rank_11 rfl (fun hc => ?_) (fun hc => ?_)
  · replace h := zif_f hc h
    refine z_iconst (y := (0 : Int32)) F dX10_rank_18 rfl ?_
    refine z_ls [(0, zr G x0), (1, .int x1)] [0, 1] rfl ?_
    exact jX10_rank_19 x G F hr hk r w   x0 t0 x1 x0 t0 (0 : Int32) v_2 h
  · replace h := zif_t hc h
    refine z_iconst (y := (1 : Int32)) F dX10_rank_14 rfl ?_
    refine z_goto F 19 dX10_rank_15 rfl ?_
    refine z_ls [(0, zr G x0), (1, .int x1)] [0, 1] rfl ?_
    exact jX10_rank_19 x G F hr hk r w   x0 t0 x1 x0 t0 (1 : Int32) v_2 h

theorem dX10_lead_0 : decode cX10_lead 0 = .ok (.aload_n 0, 1) := by decide +kernel
theorem dX10_lead_1 : decode cX10_lead 1 = .ok (.iconst 0, 1) := by decide +kernel
theorem dX10_lead_2 : decode cX10_lead 2 = .ok (.putfield 134, 3) := by decide +kernel
theorem dX10_lead_5 : decode cX10_lead 5 = .ok (.iconst (-1), 1) := by decide +kernel
theorem dX10_lead_6 : decode cX10_lead 6 = .ok (.istore_n 1, 1) := by decide +kernel
theorem dX10_lead_7 : decode cX10_lead 7 = .ok (.iconst (-1), 1) := by decide +kernel
theorem dX10_lead_8 : decode cX10_lead 8 = .ok (.istore_n 2, 1) := by decide +kernel
theorem dX10_lead_9 : decode cX10_lead 9 = .ok (.iconst 0, 1) := by decide +kernel
theorem dX10_lead_10 : decode cX10_lead 10 = .ok (.istore_n 3, 1) := by decide +kernel
theorem dX10_lead_11 : decode cX10_lead 11 = .ok (.iload_n 3, 1) := by decide +kernel
theorem dX10_lead_12 : decode cX10_lead 12 = .ok (.aload_n 0, 1) := by decide +kernel
theorem dX10_lead_13 : decode cX10_lead 13 = .ok (.getfield 23, 3) := by decide +kernel
theorem dX10_lead_16 : decode cX10_lead 16 = .ok (.iconst 1, 1) := by decide +kernel
theorem dX10_lead_17 : decode cX10_lead 17 = .ok (.iaload, 1) := by decide +kernel
theorem dX10_lead_18 : decode cX10_lead 18 = .ok (.if_icmp .ge 84, 3) := by decide +kernel
theorem dX10_lead_21 : decode cX10_lead 21 = .ok (.aload_n 0, 1) := by decide +kernel
theorem dX10_lead_22 : decode cX10_lead 22 = .ok (.getfield 85, 3) := by decide +kernel
theorem dX10_lead_25 : decode cX10_lead 25 = .ok (.iconst 0, 1) := by decide +kernel
theorem dX10_lead_26 : decode cX10_lead 26 = .ok (.iload_n 3, 1) := by decide +kernel
theorem dX10_lead_27 : decode cX10_lead 27 = .ok (.iadd, 1) := by decide +kernel
theorem dX10_lead_28 : decode cX10_lead 28 = .ok (.iaload, 1) := by decide +kernel
theorem dX10_lead_29 : decode cX10_lead 29 = .ok (.ifCond .eq 6, 3) := by decide +kernel
theorem dX10_lead_32 : decode cX10_lead 32 = .ok (.goto 64, 3) := by decide +kernel
theorem dX10_lead_35 : decode cX10_lead 35 = .ok (.iload_n 1, 1) := by decide +kernel
theorem dX10_lead_36 : decode cX10_lead 36 = .ok (.iconst (-1), 1) := by decide +kernel
theorem dX10_lead_37 : decode cX10_lead 37 = .ok (.if_icmp .eq 24, 3) := by decide +kernel
theorem dX10_lead_40 : decode cX10_lead 40 = .ok (.aload_n 0, 1) := by decide +kernel
theorem dX10_lead_41 : decode cX10_lead 41 = .ok (.aload_n 0, 1) := by decide +kernel
theorem dX10_lead_42 : decode cX10_lead 42 = .ok (.getfield 85, 3) := by decide +kernel
theorem dX10_lead_45 : decode cX10_lead 45 = .ok (.iload_n 3, 1) := by decide +kernel
theorem dX10_lead_46 : decode cX10_lead 46 = .ok (.invokevirtual 323, 3) := by decide +kernel
theorem dX10_lead_49 : decode cX10_lead 49 = .ok (.aload_n 0, 1) := by decide +kernel
theorem dX10_lead_50 : decode cX10_lead 50 = .ok (.aload_n 0, 1) := by decide +kernel
theorem dX10_lead_51 : decode cX10_lead 51 = .ok (.getfield 85, 3) := by decide +kernel
theorem dX10_lead_54 : decode cX10_lead 54 = .ok (.iload_n 1, 1) := by decide +kernel
theorem dX10_lead_55 : decode cX10_lead 55 = .ok (.invokevirtual 323, 3) := by decide +kernel
theorem dX10_lead_58 : decode cX10_lead 58 = .ok (.if_icmp .le 10, 3) := by decide +kernel
theorem dX10_lead_61 : decode cX10_lead 61 = .ok (.iload_n 1, 1) := by decide +kernel
theorem dX10_lead_62 : decode cX10_lead 62 = .ok (.istore_n 2, 1) := by decide +kernel
theorem dX10_lead_63 : decode cX10_lead 63 = .ok (.iload_n 3, 1) := by decide +kernel
theorem dX10_lead_64 : decode cX10_lead 64 = .ok (.istore_n 1, 1) := by decide +kernel
theorem dX10_lead_65 : decode cX10_lead 65 = .ok (.goto 31, 3) := by decide +kernel
theorem dX10_lead_68 : decode cX10_lead 68 = .ok (.iload_n 2, 1) := by decide +kernel
theorem dX10_lead_69 : decode cX10_lead 69 = .ok (.iconst (-1), 1) := by decide +kernel
theorem dX10_lead_70 : decode cX10_lead 70 = .ok (.if_icmp .eq 24, 3) := by decide +kernel
theorem dX10_lead_73 : decode cX10_lead 73 = .ok (.aload_n 0, 1) := by decide +kernel
theorem dX10_lead_74 : decode cX10_lead 74 = .ok (.aload_n 0, 1) := by decide +kernel
theorem dX10_lead_75 : decode cX10_lead 75 = .ok (.getfield 85, 3) := by decide +kernel
theorem dX10_lead_78 : decode cX10_lead 78 = .ok (.iload_n 3, 1) := by decide +kernel
theorem dX10_lead_79 : decode cX10_lead 79 = .ok (.invokevirtual 323, 3) := by decide +kernel
theorem dX10_lead_82 : decode cX10_lead 82 = .ok (.aload_n 0, 1) := by decide +kernel
theorem dX10_lead_83 : decode cX10_lead 83 = .ok (.aload_n 0, 1) := by decide +kernel
theorem dX10_lead_84 : decode cX10_lead 84 = .ok (.getfield 85, 3) := by decide +kernel
theorem dX10_lead_87 : decode cX10_lead 87 = .ok (.iload_n 2, 1) := by decide +kernel
theorem dX10_lead_88 : decode cX10_lead 88 = .ok (.invokevirtual 323, 3) := by decide +kernel
theorem dX10_lead_91 : decode cX10_lead 91 = .ok (.if_icmp .le 5, 3) := by decide +kernel
theorem dX10_lead_94 : decode cX10_lead 94 = .ok (.iload_n 3, 1) := by decide +kernel
theorem dX10_lead_95 : decode cX10_lead 95 = .ok (.istore_n 2, 1) := by decide +kernel
theorem dX10_lead_96 : decode cX10_lead 96 = .ok (.iinc 3 1, 3) := by decide +kernel
theorem dX10_lead_99 : decode cX10_lead 99 = .ok (.goto (-88), 3) := by decide +kernel
theorem dX10_lead_102 : decode cX10_lead 102 = .ok (.iload_n 1, 1) := by decide +kernel
theorem dX10_lead_103 : decode cX10_lead 103 = .ok (.iconst (-1), 1) := by decide +kernel
theorem dX10_lead_104 : decode cX10_lead 104 = .ok (.if_icmp .ne 7, 3) := by decide +kernel
theorem dX10_lead_107 : decode cX10_lead 107 = .ok (.iconst 0, 1) := by decide +kernel
theorem dX10_lead_108 : decode cX10_lead 108 = .ok (.goto 39, 3) := by decide +kernel
theorem dX10_lead_111 : decode cX10_lead 111 = .ok (.iload_n 2, 1) := by decide +kernel
theorem dX10_lead_112 : decode cX10_lead 112 = .ok (.iconst (-1), 1) := by decide +kernel
theorem dX10_lead_113 : decode cX10_lead 113 = .ok (.if_icmp .ne 15, 3) := by decide +kernel
theorem dX10_lead_116 : decode cX10_lead 116 = .ok (.aload_n 0, 1) := by decide +kernel
theorem dX10_lead_117 : decode cX10_lead 117 = .ok (.aload_n 0, 1) := by decide +kernel
theorem dX10_lead_118 : decode cX10_lead 118 = .ok (.getfield 85, 3) := by decide +kernel
theorem dX10_lead_121 : decode cX10_lead 121 = .ok (.iload_n 1, 1) := by decide +kernel
theorem dX10_lead_122 : decode cX10_lead 122 = .ok (.invokevirtual 323, 3) := by decide +kernel
theorem dX10_lead_125 : decode cX10_lead 125 = .ok (.goto 22, 3) := by decide +kernel
theorem dX10_lead_128 : decode cX10_lead 128 = .ok (.aload_n 0, 1) := by decide +kernel
theorem dX10_lead_129 : decode cX10_lead 129 = .ok (.aload_n 0, 1) := by decide +kernel
theorem dX10_lead_130 : decode cX10_lead 130 = .ok (.getfield 85, 3) := by decide +kernel
theorem dX10_lead_133 : decode cX10_lead 133 = .ok (.iload_n 1, 1) := by decide +kernel
theorem dX10_lead_134 : decode cX10_lead 134 = .ok (.invokevirtual 323, 3) := by decide +kernel
theorem dX10_lead_137 : decode cX10_lead 137 = .ok (.aload_n 0, 1) := by decide +kernel
theorem dX10_lead_138 : decode cX10_lead 138 = .ok (.aload_n 0, 1) := by decide +kernel
theorem dX10_lead_139 : decode cX10_lead 139 = .ok (.getfield 85, 3) := by decide +kernel
theorem dX10_lead_142 : decode cX10_lead 142 = .ok (.iload_n 2, 1) := by decide +kernel
theorem dX10_lead_143 : decode cX10_lead 143 = .ok (.invokevirtual 323, 3) := by decide +kernel
theorem dX10_lead_146 : decode cX10_lead 146 = .ok (.isub, 1) := by decide +kernel
theorem dX10_lead_147 : decode cX10_lead 147 = .ok (.ireturn, 1) := by decide +kernel
def fX10_lead_102  (x0 : Nat) (x1 : Int32) (x2 : Int32) (v : zV) : Option (Int32 × zV) :=
  if x1 = (-1 : Int32) then
    some ((0 : Int32), v)
  else
    if x2 = (-1 : Int32) then
      zbind (fX10_scoreOf x0 (zrf x0 35) x1 v) fun r_6 v_5 =>
      some (r_6, v_5)
    else
      zbind (fX10_scoreOf x0 (zrf x0 35) x1 v) fun r_2 v_1 =>
      zbind (fX10_scoreOf x0 (zrf x0 35) x2 v_1) fun r_4 v_3 =>
      some (r_2 - r_4, v_3)
set_option maxRecDepth 4000 in
theorem jX10_lead_102 (x : zCx) (G : zG) (F : zF x G cX10_lead 4 RX10 5 167) (hr : x.2.2.2.2.2.2.2.2.1.sig.returnType = (Option.some FieldType.int)) (hk : x.2.2.2.2.2.2.2.2.1.locks = false) (r : Int32) (w : zV)  : ∀ (x0 : Nat) (t0 : zty G x0 1 10) (x1 : Int32) (x2 : Int32) (v : zV), fX10_lead_102 x0 x1 x2 v = some (r, w) → zJ x G 4 (zQ x G (some (.int r)) w 0 0) 0 0 102 [(0, zr G x0), (1, .int x1), (2, .int x2)] [] v := by
  intro x0 t0 x1 x2 v h
  unfold fX10_lead_102 at h
  refine z_iload_n F dX10_lead_102 rfl 1 rfl ?_
  refine z_iconst (y := (-1 : Int32)) F dX10_lead_103 rfl ?_
  refine z_icmp_ne F 111 dX10_lead_104 rfl (fun hc => ?_) (fun hc => ?_)
  · replace h := zif_f hc h
    refine z_iload_n F dX10_lead_111 rfl 2 rfl ?_
    refine z_iconst (y := (-1 : Int32)) F dX10_lead_112 rfl ?_
    refine z_icmp_ne F 128 dX10_lead_113 rfl (fun hc => ?_) (fun hc => ?_)
    · replace h := zif_f hc h
      refine z_aload_n F dX10_lead_128 rfl 0 rfl ?_
      refine z_aload_n F dX10_lead_129 rfl 0 rfl ?_
      refine zg_10_35 F t0 wF_X10_85 dX10_lead_130 ?_
      refine z_iload_n F dX10_lead_133 rfl 1 rfl ?_
      obtain ⟨r_2, v_1, hq134, h⟩ := zbind_ex h
      refine z_callVi F [zr G (zrf x0 35), .int x1] [] (kX10_scoreOf x.2.1 G x0 t0 (zrf x0 35) (zt_f tc_10_35 t0) x1 v r_2 v_1 hq134) mI_X10_scoreOf (c := 10) rfl t0 wM_X10_323 mi_X10_scoreOf sl_X10_scoreOf dX10_lead_134 rfl ⟨Nat.le_of_ble_eq_true rfl, Nat.le_of_ble_eq_true rfl⟩ rfl (Nat.le_of_ble_eq_true rfl) ⟨Nat.zero_le _, Nat.zero_le _⟩ ?_
      refine z_aload_n F dX10_lead_137 rfl 0 rfl ?_
      refine z_aload_n F dX10_lead_138 rfl 0 rfl ?_
      refine zg_10_35 F t0 wF_X10_85 dX10_lead_139 ?_
      refine z_iload_n F dX10_lead_142 rfl 2 rfl ?_
      obtain ⟨r_4, v_3, hq143, h⟩ := zbind_ex h
      refine z_callVi F [zr G (zrf x0 35), .int x2] [.int r_2] (kX10_scoreOf x.2.1 G x0 t0 (zrf x0 35) (zt_f tc_10_35 t0) x2 v_1 r_4 v_3 hq143) mI_X10_scoreOf (c := 10) rfl t0 wM_X10_323 mi_X10_scoreOf sl_X10_scoreOf dX10_lead_143 rfl ⟨Nat.le_of_ble_eq_true rfl, Nat.le_of_ble_eq_true rfl⟩ rfl (Nat.le_of_ble_eq_true rfl) ⟨Nat.zero_le _, Nat.zero_le _⟩ ?_
      refine z_isub F dX10_lead_146 ?_
      cases h
      exact z_reti F hr hk dX10_lead_147
    · replace h := zif_t hc h
      refine z_aload_n F dX10_lead_116 rfl 0 rfl ?_
      refine z_aload_n F dX10_lead_117 rfl 0 rfl ?_
      refine zg_10_35 F t0 wF_X10_85 dX10_lead_118 ?_
      refine z_iload_n F dX10_lead_121 rfl 1 rfl ?_
      obtain ⟨r_6, v_5, hq122, h⟩ := zbind_ex h
      refine z_callVi F [zr G (zrf x0 35), .int x1] [] (kX10_scoreOf x.2.1 G x0 t0 (zrf x0 35) (zt_f tc_10_35 t0) x1 v r_6 v_5 hq122) mI_X10_scoreOf (c := 10) rfl t0 wM_X10_323 mi_X10_scoreOf sl_X10_scoreOf dX10_lead_122 rfl ⟨Nat.le_of_ble_eq_true rfl, Nat.le_of_ble_eq_true rfl⟩ rfl (Nat.le_of_ble_eq_true rfl) ⟨Nat.zero_le _, Nat.zero_le _⟩ ?_
      refine z_goto F 147 dX10_lead_125 rfl ?_
      cases h
      exact z_reti F hr hk dX10_lead_147
  · replace h := zif_t hc h
    refine z_iconst (y := (0 : Int32)) F dX10_lead_107 rfl ?_
    refine z_goto F 147 dX10_lead_108 rfl ?_
    cases h
    exact z_reti F hr hk dX10_lead_147

def fX10_lead_11  : Nat → Nat → Int32 → Int32 → Int32 → zV → Option (Int32 × zV)
  | 0 => fun _ _ _ _ _ => none
  | n + 1 => fun x0 x1 x2 x3 v =>
    zix (1 : Int32) (zlen (zrf x0 12)) <|
    if (v (zrf x0 12) ((1 : Int32)).toNatClampNeg) ≤ x3 then
      fX10_lead_102  x0 x1 x2 v
    else
      zix ((0 : Int32) + x3) (zlen (zrf x0 35)) <|
      if (v (zrf x0 35) ((0 : Int32) + x3).toNatClampNeg) = (0 : Int32) then
        if x1 = (-1 : Int32) then
          (fX10_lead_11 n) x0 x3 x1 (x3 + (1 : Int32)) v
        else
          zbind (fX10_scoreOf x0 (zrf x0 35) x3 v) fun r_2 v_1 =>
          zbind (fX10_scoreOf x0 (zrf x0 35) x1 v_1) fun r_4 v_3 =>
          if r_2 ≤ r_4 then
            if x2 = (-1 : Int32) then
              (fX10_lead_11 n) x0 x1 x3 (x3 + (1 : Int32)) v_3
            else
              zbind (fX10_scoreOf x0 (zrf x0 35) x3 v_3) fun r_6 v_5 =>
              zbind (fX10_scoreOf x0 (zrf x0 35) x2 v_5) fun r_8 v_7 =>
              if r_6 ≤ r_8 then
                (fX10_lead_11 n) x0 x1 x2 (x3 + (1 : Int32)) v_7
              else
                (fX10_lead_11 n) x0 x1 x3 (x3 + (1 : Int32)) v_7
          else
            (fX10_lead_11 n) x0 x3 x1 (x3 + (1 : Int32)) v_3
      else
        (fX10_lead_11 n) x0 x1 x2 (x3 + (1 : Int32)) v
set_option maxRecDepth 4000 in
theorem jX10_lead_11 (x : zCx) (G : zG) (F : zF x G cX10_lead 4 RX10 5 167) (hr : x.2.2.2.2.2.2.2.2.1.sig.returnType = (Option.some FieldType.int)) (hk : x.2.2.2.2.2.2.2.2.1.locks = false) (r : Int32) (w : zV)  : ∀ (n : Nat) (x0 : Nat) (t0 : zty G x0 1 10) (x1 : Int32) (x2 : Int32) (x3 : Int32) (v : zV), fX10_lead_11 n x0 x1 x2 x3 v = some (r, w) → zJ x G 4 (zQ x G (some (.int r)) w 0 0) 0 0 11 [(0, zr G x0), (1, .int x1), (2, .int x2), (3, .int x3)] [] v := by
  intro n
  induction n with
  | zero => intro x0 t0 x1 x2 x3 v h; exact absurd h (by intro q; cases q)
  | succ n ih =>
    intro x0 t0 x1 x2 x3 v h
    rw [fX10_lead_11] at h
    dsimp only at h
    refine z_iload_n F dX10_lead_11 rfl 3 rfl ?_
    refine z_aload_n F dX10_lead_12 rfl 0 rfl ?_
    refine zg_10_12 F t0 wF_X10_23 dX10_lead_13 ?_
    refine z_iconst (y := (1 : Int32)) F dX10_lead_16 rfl ?_
    obtain ⟨hi17, h⟩ := zix_ex h
    refine z_iald F (zt_f tc_10_12 t0) dX10_lead_17 hi17 ?_
    refine z_icmp_ge F 102 dX10_lead_18 rfl (fun hc => ?_) (fun hc => ?_)
    · replace h := zif_t hc h
      refine z_ls [(0, zr G x0), (1, .int x1), (2, .int x2)] [0, 1, 2] rfl ?_
      exact jX10_lead_102 x G F hr hk r w   x0 t0 x1 x2 v h
    · replace h := zif_f hc h
      refine z_aload_n F dX10_lead_21 rfl 0 rfl ?_
      refine zg_10_35 F t0 wF_X10_85 dX10_lead_22 ?_
      refine z_iconst (y := (0 : Int32)) F dX10_lead_25 rfl ?_
      refine z_iload_n F dX10_lead_26 rfl 3 rfl ?_
      refine z_iadd F dX10_lead_27 ?_
      obtain ⟨hi28, h⟩ := zix_ex h
      refine z_iald F (zt_f tc_10_35 t0) dX10_lead_28 hi28 ?_
      refine z_if_eq F 35 dX10_lead_29 rfl (fun hc => ?_) (fun hc => ?_)
      · replace h := zif_t hc h
        refine z_iload_n F dX10_lead_35 rfl 1 rfl ?_
        refine z_iconst (y := (-1 : Int32)) F dX10_lead_36 rfl ?_
        refine z_icmp_eq F 61 dX10_lead_37 rfl (fun hc => ?_) (fun hc => ?_)
        · replace h := zif_t hc h
          refine z_iload_n F dX10_lead_61 rfl 1 rfl ?_
          refine z_istore_n F [(2, .int x1), (0, zr G x0), (1, .int x1), (3, .int x3)] dX10_lead_62 rfl (Nat.le_of_ble_eq_true rfl) rfl ?_
          refine z_iload_n F dX10_lead_63 rfl 3 rfl ?_
          refine z_istore_n F [(1, .int x3), (2, .int x1), (0, zr G x0), (3, .int x3)] dX10_lead_64 rfl (Nat.le_of_ble_eq_true rfl) rfl ?_
          refine z_goto F 96 dX10_lead_65 rfl ?_
          refine z_iinc F [(3, .int (x3 + (1 : Int32))), (1, .int x3), (2, .int x1), (0, zr G x0)] dX10_lead_96 3 rfl rfl (Nat.le_of_ble_eq_true rfl) rfl ?_
          refine z_goto F 11 dX10_lead_99 rfl ?_
          refine z_ls [(0, zr G x0), (1, .int x3), (2, .int x1), (3, .int (x3 + (1 : Int32)))] [3, 1, 2, 0] rfl ?_
          exact ih x0 t0 x3 x1 (x3 + (1 : Int32)) v h
        · replace h := zif_f hc h
          refine z_aload_n F dX10_lead_40 rfl 0 rfl ?_
          refine z_aload_n F dX10_lead_41 rfl 0 rfl ?_
          refine zg_10_35 F t0 wF_X10_85 dX10_lead_42 ?_
          refine z_iload_n F dX10_lead_45 rfl 3 rfl ?_
          obtain ⟨r_2, v_1, hq46, h⟩ := zbind_ex h
          refine z_callVi F [zr G (zrf x0 35), .int x3] [] (kX10_scoreOf x.2.1 G x0 t0 (zrf x0 35) (zt_f tc_10_35 t0) x3 v r_2 v_1 hq46) mI_X10_scoreOf (c := 10) rfl t0 wM_X10_323 mi_X10_scoreOf sl_X10_scoreOf dX10_lead_46 rfl ⟨Nat.le_of_ble_eq_true rfl, Nat.le_of_ble_eq_true rfl⟩ rfl (Nat.le_of_ble_eq_true rfl) ⟨Nat.zero_le _, Nat.zero_le _⟩ ?_
          refine z_aload_n F dX10_lead_49 rfl 0 rfl ?_
          refine z_aload_n F dX10_lead_50 rfl 0 rfl ?_
          refine zg_10_35 F t0 wF_X10_85 dX10_lead_51 ?_
          refine z_iload_n F dX10_lead_54 rfl 1 rfl ?_
          obtain ⟨r_4, v_3, hq55, h⟩ := zbind_ex h
          refine z_callVi F [zr G (zrf x0 35), .int x1] [.int r_2] (kX10_scoreOf x.2.1 G x0 t0 (zrf x0 35) (zt_f tc_10_35 t0) x1 v_1 r_4 v_3 hq55) mI_X10_scoreOf (c := 10) rfl t0 wM_X10_323 mi_X10_scoreOf sl_X10_scoreOf dX10_lead_55 rfl ⟨Nat.le_of_ble_eq_true rfl, Nat.le_of_ble_eq_true rfl⟩ rfl (Nat.le_of_ble_eq_true rfl) ⟨Nat.zero_le _, Nat.zero_le _⟩ ?_
          refine z_icmp_le F 68 dX10_lead_58 rfl (fun hc => ?_) (fun hc => ?_)
          · replace h := zif_t hc h
            refine z_iload_n F dX10_lead_68 rfl 2 rfl ?_
            refine z_iconst (y := (-1 : Int32)) F dX10_lead_69 rfl ?_
            refine z_icmp_eq F 94 dX10_lead_70 rfl (fun hc => ?_) (fun hc => ?_)
            · replace h := zif_t hc h
              refine z_iload_n F dX10_lead_94 rfl 3 rfl ?_
              refine z_istore_n F [(2, .int x3), (0, zr G x0), (1, .int x1), (3, .int x3)] dX10_lead_95 rfl (Nat.le_of_ble_eq_true rfl) rfl ?_
              refine z_iinc F [(3, .int (x3 + (1 : Int32))), (2, .int x3), (0, zr G x0), (1, .int x1)] dX10_lead_96 3 rfl rfl (Nat.le_of_ble_eq_true rfl) rfl ?_
              refine z_goto F 11 dX10_lead_99 rfl ?_
              refine z_ls [(0, zr G x0), (1, .int x1), (2, .int x3), (3, .int (x3 + (1 : Int32)))] [2, 3, 1, 0] rfl ?_
              exact ih x0 t0 x1 x3 (x3 + (1 : Int32)) v_3 h
            · replace h := zif_f hc h
              refine z_aload_n F dX10_lead_73 rfl 0 rfl ?_
              refine z_aload_n F dX10_lead_74 rfl 0 rfl ?_
              refine zg_10_35 F t0 wF_X10_85 dX10_lead_75 ?_
              refine z_iload_n F dX10_lead_78 rfl 3 rfl ?_
              obtain ⟨r_6, v_5, hq79, h⟩ := zbind_ex h
              refine z_callVi F [zr G (zrf x0 35), .int x3] [] (kX10_scoreOf x.2.1 G x0 t0 (zrf x0 35) (zt_f tc_10_35 t0) x3 v_3 r_6 v_5 hq79) mI_X10_scoreOf (c := 10) rfl t0 wM_X10_323 mi_X10_scoreOf sl_X10_scoreOf dX10_lead_79 rfl ⟨Nat.le_of_ble_eq_true rfl, Nat.le_of_ble_eq_true rfl⟩ rfl (Nat.le_of_ble_eq_true rfl) ⟨Nat.zero_le _, Nat.zero_le _⟩ ?_
              refine z_aload_n F dX10_lead_82 rfl 0 rfl ?_
              refine z_aload_n F dX10_lead_83 rfl 0 rfl ?_
              refine zg_10_35 F t0 wF_X10_85 dX10_lead_84 ?_
              refine z_iload_n F dX10_lead_87 rfl 2 rfl ?_
              obtain ⟨r_8, v_7, hq88, h⟩ := zbind_ex h
              refine z_callVi F [zr G (zrf x0 35), .int x2] [.int r_6] (kX10_scoreOf x.2.1 G x0 t0 (zrf x0 35) (zt_f tc_10_35 t0) x2 v_5 r_8 v_7 hq88) mI_X10_scoreOf (c := 10) rfl t0 wM_X10_323 mi_X10_scoreOf sl_X10_scoreOf dX10_lead_88 rfl ⟨Nat.le_of_ble_eq_true rfl, Nat.le_of_ble_eq_true rfl⟩ rfl (Nat.le_of_ble_eq_true rfl) ⟨Nat.zero_le _, Nat.zero_le _⟩ ?_
              refine z_icmp_le F 96 dX10_lead_91 rfl (fun hc => ?_) (fun hc => ?_)
              · replace h := zif_t hc h
                refine z_iinc F [(3, .int (x3 + (1 : Int32))), (0, zr G x0), (1, .int x1), (2, .int x2)] dX10_lead_96 3 rfl rfl (Nat.le_of_ble_eq_true rfl) rfl ?_
                refine z_goto F 11 dX10_lead_99 rfl ?_
                refine z_ls [(0, zr G x0), (1, .int x1), (2, .int x2), (3, .int (x3 + (1 : Int32)))] [1, 2, 3, 0] rfl ?_
                exact ih x0 t0 x1 x2 (x3 + (1 : Int32)) v_7 h
              · replace h := zif_f hc h
                refine z_iload_n F dX10_lead_94 rfl 3 rfl ?_
                refine z_istore_n F [(2, .int x3), (0, zr G x0), (1, .int x1), (3, .int x3)] dX10_lead_95 rfl (Nat.le_of_ble_eq_true rfl) rfl ?_
                refine z_iinc F [(3, .int (x3 + (1 : Int32))), (2, .int x3), (0, zr G x0), (1, .int x1)] dX10_lead_96 3 rfl rfl (Nat.le_of_ble_eq_true rfl) rfl ?_
                refine z_goto F 11 dX10_lead_99 rfl ?_
                refine z_ls [(0, zr G x0), (1, .int x1), (2, .int x3), (3, .int (x3 + (1 : Int32)))] [2, 3, 1, 0] rfl ?_
                exact ih x0 t0 x1 x3 (x3 + (1 : Int32)) v_7 h
          · replace h := zif_f hc h
            refine z_iload_n F dX10_lead_61 rfl 1 rfl ?_
            refine z_istore_n F [(2, .int x1), (0, zr G x0), (1, .int x1), (3, .int x3)] dX10_lead_62 rfl (Nat.le_of_ble_eq_true rfl) rfl ?_
            refine z_iload_n F dX10_lead_63 rfl 3 rfl ?_
            refine z_istore_n F [(1, .int x3), (2, .int x1), (0, zr G x0), (3, .int x3)] dX10_lead_64 rfl (Nat.le_of_ble_eq_true rfl) rfl ?_
            refine z_goto F 96 dX10_lead_65 rfl ?_
            refine z_iinc F [(3, .int (x3 + (1 : Int32))), (1, .int x3), (2, .int x1), (0, zr G x0)] dX10_lead_96 3 rfl rfl (Nat.le_of_ble_eq_true rfl) rfl ?_
            refine z_goto F 11 dX10_lead_99 rfl ?_
            refine z_ls [(0, zr G x0), (1, .int x3), (2, .int x1), (3, .int (x3 + (1 : Int32)))] [3, 1, 2, 0] rfl ?_
            exact ih x0 t0 x3 x1 (x3 + (1 : Int32)) v_3 h
      · replace h := zif_f hc h
        refine z_goto F 96 dX10_lead_32 rfl ?_
        refine z_iinc F [(3, .int (x3 + (1 : Int32))), (0, zr G x0), (1, .int x1), (2, .int x2)] dX10_lead_96 3 rfl rfl (Nat.le_of_ble_eq_true rfl) rfl ?_
        refine z_goto F 11 dX10_lead_99 rfl ?_
        refine z_ls [(0, zr G x0), (1, .int x1), (2, .int x2), (3, .int (x3 + (1 : Int32)))] [1, 2, 3, 0] rfl ?_
        exact ih x0 t0 x1 x2 (x3 + (1 : Int32)) v h

def fX10_lead (x0 : Nat) (v : zV) : Option (Int32 × zV) :=
  zlet (zup v x0 0 (0 : Int32)) fun v_1 =>
  fX10_lead_11  zFU x0 (-1 : Int32) (-1 : Int32) (0 : Int32) v_1
set_option maxRecDepth 4000 in
theorem kX10_lead (l : Launch) (G : zG) (x0 : Nat) (t0 : zty G x0 1 10) (v : zV) (r : Int32) (w : zV) (h : fX10_lead x0 v = some (r, w)) : zMet l yX10_lead cX10_lead 4 (Option.some FieldType.int) 5 167 0 0 [zr G x0] G v (some (.int r)) w := by
  refine zM_of (own := RX10) (by decide) rfl (Nat.le_of_ble_eq_true rfl) (fun x hl F hr hk hcs => ?_)
  subst hl
  refine z_ls [(0, zr G x0)] [0] rfl ?_
  unfold fX10_lead at h
  refine z_aload_n F dX10_lead_0 rfl 0 rfl ?_
  refine z_iconst (y := (0 : Int32)) F dX10_lead_1 rfl ?_
  refine zp_10_0 F t0 wF_X10_134 dX10_lead_2 ?_
  obtain ⟨v_1, ev_1, h⟩ := zlet_ex h
  refine z_heap ev_1 ?_
  refine z_iconst (y := (-1 : Int32)) F dX10_lead_5 rfl ?_
  refine z_istore_n F [(1, .int (-1 : Int32)), (0, zr G x0)] dX10_lead_6 rfl (Nat.le_of_ble_eq_true rfl) rfl ?_
  refine z_iconst (y := (-1 : Int32)) F dX10_lead_7 rfl ?_
  refine z_istore_n F [(2, .int (-1 : Int32)), (1, .int (-1 : Int32)), (0, zr G x0)] dX10_lead_8 rfl (Nat.le_of_ble_eq_true rfl) rfl ?_
  refine z_iconst (y := (0 : Int32)) F dX10_lead_9 rfl ?_
  refine z_istore_n F [(3, .int (0 : Int32)), (2, .int (-1 : Int32)), (1, .int (-1 : Int32)), (0, zr G x0)] dX10_lead_10 rfl (Nat.le_of_ble_eq_true rfl) rfl ?_
  refine z_ls [(0, zr G x0), (1, .int (-1 : Int32)), (2, .int (-1 : Int32)), (3, .int (0 : Int32))] [3, 2, 1, 0] rfl ?_
  exact jX10_lead_11 x G F hr hk r w   zFU x0 t0 (-1 : Int32) (-1 : Int32) (0 : Int32) v_1 h

theorem dX10_voteOf_0 : decode cX10_voteOf 0 = .ok (.iconst (-1), 1) := by decide +kernel
theorem dX10_voteOf_1 : decode cX10_voteOf 1 = .ok (.istore 5, 2) := by decide +kernel
theorem dX10_voteOf_3 : decode cX10_voteOf 3 = .ok (.iconst 0, 1) := by decide +kernel
theorem dX10_voteOf_4 : decode cX10_voteOf 4 = .ok (.istore 6, 2) := by decide +kernel
theorem dX10_voteOf_6 : decode cX10_voteOf 6 = .ok (.iload 6, 2) := by decide +kernel
theorem dX10_voteOf_8 : decode cX10_voteOf 8 = .ok (.iconst 3, 1) := by decide +kernel
theorem dX10_voteOf_9 : decode cX10_voteOf 9 = .ok (.if_icmp .ge 17, 3) := by decide +kernel
theorem dX10_voteOf_12 : decode cX10_voteOf 12 = .ok (.aload_n 0, 1) := by decide +kernel
theorem dX10_voteOf_13 : decode cX10_voteOf 13 = .ok (.getfield 121, 3) := by decide +kernel
theorem dX10_voteOf_16 : decode cX10_voteOf 16 = .ok (.iload 6, 2) := by decide +kernel
theorem dX10_voteOf_18 : decode cX10_voteOf 18 = .ok (.iconst 0, 1) := by decide +kernel
theorem dX10_voteOf_19 : decode cX10_voteOf 19 = .ok (.iastore, 1) := by decide +kernel
theorem dX10_voteOf_20 : decode cX10_voteOf 20 = .ok (.iinc 6 1, 3) := by decide +kernel
theorem dX10_voteOf_23 : decode cX10_voteOf 23 = .ok (.goto (-17), 3) := by decide +kernel
theorem dX10_voteOf_26 : decode cX10_voteOf 26 = .ok (.iconst 0, 1) := by decide +kernel
theorem dX10_voteOf_27 : decode cX10_voteOf 27 = .ok (.istore 6, 2) := by decide +kernel
theorem dX10_voteOf_29 : decode cX10_voteOf 29 = .ok (.iload 6, 2) := by decide +kernel
theorem dX10_voteOf_31 : decode cX10_voteOf 31 = .ok (.iload 4, 2) := by decide +kernel
theorem dX10_voteOf_33 : decode cX10_voteOf 33 = .ok (.if_icmp .ge 47, 3) := by decide +kernel
theorem dX10_voteOf_36 : decode cX10_voteOf 36 = .ok (.aload_n 0, 1) := by decide +kernel
theorem dX10_voteOf_37 : decode cX10_voteOf 37 = .ok (.getfield 121, 3) := by decide +kernel
theorem dX10_voteOf_40 : decode cX10_voteOf 40 = .ok (.aload_n 0, 1) := by decide +kernel
theorem dX10_voteOf_41 : decode cX10_voteOf 41 = .ok (.getfield 49, 3) := by decide +kernel
theorem dX10_voteOf_44 : decode cX10_voteOf 44 = .ok (.aload_n 0, 1) := by decide +kernel
theorem dX10_voteOf_45 : decode cX10_voteOf 45 = .ok (.getfield 85, 3) := by decide +kernel
theorem dX10_voteOf_48 : decode cX10_voteOf 48 = .ok (.bipush 48, 2) := by decide +kernel
theorem dX10_voteOf_50 : decode cX10_voteOf 50 = .ok (.iload 6, 2) := by decide +kernel
theorem dX10_voteOf_52 : decode cX10_voteOf 52 = .ok (.iadd, 1) := by decide +kernel
theorem dX10_voteOf_53 : decode cX10_voteOf 53 = .ok (.iaload, 1) := by decide +kernel
theorem dX10_voteOf_54 : decode cX10_voteOf 54 = .ok (.aaload, 1) := by decide +kernel
theorem dX10_voteOf_55 : decode cX10_voteOf 55 = .ok (.iload_n 1, 1) := by decide +kernel
theorem dX10_voteOf_56 : decode cX10_voteOf 56 = .ok (.iaload, 1) := by decide +kernel
theorem dX10_voteOf_57 : decode cX10_voteOf 57 = .ok (.dup2, 1) := by decide +kernel
theorem dX10_voteOf_58 : decode cX10_voteOf 58 = .ok (.iaload, 1) := by decide +kernel
theorem dX10_voteOf_59 : decode cX10_voteOf 59 = .ok (.iload 6, 2) := by decide +kernel
theorem dX10_voteOf_61 : decode cX10_voteOf 61 = .ok (.iload_n 2, 1) := by decide +kernel
theorem dX10_voteOf_62 : decode cX10_voteOf 62 = .ok (.irem, 1) := by decide +kernel
theorem dX10_voteOf_63 : decode cX10_voteOf 63 = .ok (.iload_n 3, 1) := by decide +kernel
theorem dX10_voteOf_64 : decode cX10_voteOf 64 = .ok (.if_icmp .ne 7, 3) := by decide +kernel
theorem dX10_voteOf_67 : decode cX10_voteOf 67 = .ok (.iconst 1, 1) := by decide +kernel
theorem dX10_voteOf_68 : decode cX10_voteOf 68 = .ok (.goto 4, 3) := by decide +kernel
theorem dX10_voteOf_71 : decode cX10_voteOf 71 = .ok (.iconst 0, 1) := by decide +kernel
theorem dX10_voteOf_72 : decode cX10_voteOf 72 = .ok (.iadd, 1) := by decide +kernel
theorem dX10_voteOf_73 : decode cX10_voteOf 73 = .ok (.iastore, 1) := by decide +kernel
theorem dX10_voteOf_74 : decode cX10_voteOf 74 = .ok (.iinc 6 1, 3) := by decide +kernel
theorem dX10_voteOf_77 : decode cX10_voteOf 77 = .ok (.goto (-48), 3) := by decide +kernel
theorem dX10_voteOf_80 : decode cX10_voteOf 80 = .ok (.iconst 0, 1) := by decide +kernel
theorem dX10_voteOf_81 : decode cX10_voteOf 81 = .ok (.istore 6, 2) := by decide +kernel
theorem dX10_voteOf_83 : decode cX10_voteOf 83 = .ok (.iload 6, 2) := by decide +kernel
theorem dX10_voteOf_85 : decode cX10_voteOf 85 = .ok (.iconst 3, 1) := by decide +kernel
theorem dX10_voteOf_86 : decode cX10_voteOf 86 = .ok (.if_icmp .ge 51, 3) := by decide +kernel
theorem dX10_voteOf_89 : decode cX10_voteOf 89 = .ok (.aload_n 0, 1) := by decide +kernel
theorem dX10_voteOf_90 : decode cX10_voteOf 90 = .ok (.getfield 121, 3) := by decide +kernel
theorem dX10_voteOf_93 : decode cX10_voteOf 93 = .ok (.iload 6, 2) := by decide +kernel
theorem dX10_voteOf_95 : decode cX10_voteOf 95 = .ok (.iaload, 1) := by decide +kernel
theorem dX10_voteOf_96 : decode cX10_voteOf 96 = .ok (.ifCond .le 31, 3) := by decide +kernel
theorem dX10_voteOf_99 : decode cX10_voteOf 99 = .ok (.iload 5, 2) := by decide +kernel
theorem dX10_voteOf_101 : decode cX10_voteOf 101 = .ok (.iconst (-1), 1) := by decide +kernel
theorem dX10_voteOf_102 : decode cX10_voteOf 102 = .ok (.if_icmp .eq 20, 3) := by decide +kernel
theorem dX10_voteOf_105 : decode cX10_voteOf 105 = .ok (.aload_n 0, 1) := by decide +kernel
theorem dX10_voteOf_106 : decode cX10_voteOf 106 = .ok (.getfield 121, 3) := by decide +kernel
theorem dX10_voteOf_109 : decode cX10_voteOf 109 = .ok (.iload 6, 2) := by decide +kernel
theorem dX10_voteOf_111 : decode cX10_voteOf 111 = .ok (.iaload, 1) := by decide +kernel
theorem dX10_voteOf_112 : decode cX10_voteOf 112 = .ok (.aload_n 0, 1) := by decide +kernel
theorem dX10_voteOf_113 : decode cX10_voteOf 113 = .ok (.getfield 121, 3) := by decide +kernel
theorem dX10_voteOf_116 : decode cX10_voteOf 116 = .ok (.iload 5, 2) := by decide +kernel
theorem dX10_voteOf_118 : decode cX10_voteOf 118 = .ok (.iaload, 1) := by decide +kernel
theorem dX10_voteOf_119 : decode cX10_voteOf 119 = .ok (.if_icmp .le 8, 3) := by decide +kernel
theorem dX10_voteOf_122 : decode cX10_voteOf 122 = .ok (.iload 6, 2) := by decide +kernel
theorem dX10_voteOf_124 : decode cX10_voteOf 124 = .ok (.goto 5, 3) := by decide +kernel
theorem dX10_voteOf_127 : decode cX10_voteOf 127 = .ok (.iload 5, 2) := by decide +kernel
theorem dX10_voteOf_129 : decode cX10_voteOf 129 = .ok (.istore 5, 2) := by decide +kernel
theorem dX10_voteOf_131 : decode cX10_voteOf 131 = .ok (.iinc 6 1, 3) := by decide +kernel
theorem dX10_voteOf_134 : decode cX10_voteOf 134 = .ok (.goto (-51), 3) := by decide +kernel
theorem dX10_voteOf_137 : decode cX10_voteOf 137 = .ok (.iload 5, 2) := by decide +kernel
theorem dX10_voteOf_139 : decode cX10_voteOf 139 = .ok (.ireturn, 1) := by decide +kernel
def fX10_voteOf_83  : Nat → Nat → Int32 → Int32 → zV → Option (Int32 × zV)
  | 0 => fun _ _ _ _ => none
  | n + 1 => fun x0 x5 x6 v =>
    if (3 : Int32) ≤ x6 then
      some (x5, v)
    else
      zix x6 (zlen (zrf x0 59)) <|
      if (v (zrf x0 59) (x6).toNatClampNeg) ≤ (0 : Int32) then
        (fX10_voteOf_83 n) x0 x5 (x6 + (1 : Int32)) v
      else
        if x5 = (-1 : Int32) then
          (fX10_voteOf_83 n) x0 x6 (x6 + (1 : Int32)) v
        else
          zix x6 (zlen (zrf x0 59)) <|
          zix x5 (zlen (zrf x0 59)) <|
          if (v (zrf x0 59) (x6).toNatClampNeg) ≤ (v (zrf x0 59) (x5).toNatClampNeg) then
            (fX10_voteOf_83 n) x0 x5 (x6 + (1 : Int32)) v
          else
            (fX10_voteOf_83 n) x0 x6 (x6 + (1 : Int32)) v
set_option maxRecDepth 4000 in
theorem jX10_voteOf_83 (x : zCx) (G : zG) (F : zF x G cX10_voteOf 7 RX10 1 80) (hr : x.2.2.2.2.2.2.2.2.1.sig.returnType = (Option.some FieldType.int)) (hk : x.2.2.2.2.2.2.2.2.1.locks = false) (r : Int32) (w : zV)  : ∀ (n : Nat) (x0 : Nat) (t0 : zty G x0 1 10) (x5 : Int32) (x6 : Int32) (v : zV), fX10_voteOf_83 n x0 x5 x6 v = some (r, w) → zJ x G 7 (zQ x G (some (.int r)) w 0 0) 0 0 83 [(0, zr G x0), (5, .int x5), (6, .int x6)] [] v := by
  intro n
  induction n with
  | zero => intro x0 t0 x5 x6 v h; exact absurd h (by intro q; cases q)
  | succ n ih =>
    intro x0 t0 x5 x6 v h
    rw [fX10_voteOf_83] at h
    dsimp only at h
    refine z_iload F dX10_voteOf_83 2 rfl ?_
    refine z_iconst (y := (3 : Int32)) F dX10_voteOf_85 rfl ?_
    refine z_icmp_ge F 137 dX10_voteOf_86 rfl (fun hc => ?_) (fun hc => ?_)
    · replace h := zif_t hc h
      refine z_iload F dX10_voteOf_137 1 rfl ?_
      cases h
      exact z_reti F hr hk dX10_voteOf_139
    · replace h := zif_f hc h
      refine z_aload_n F dX10_voteOf_89 rfl 0 rfl ?_
      refine zg_10_59 F t0 wF_X10_121 dX10_voteOf_90 ?_
      refine z_iload F dX10_voteOf_93 2 rfl ?_
      obtain ⟨hi95, h⟩ := zix_ex h
      refine z_iald F (zt_f tc_10_59 t0) dX10_voteOf_95 hi95 ?_
      refine z_if_le F 127 dX10_voteOf_96 rfl (fun hc => ?_) (fun hc => ?_)
      · replace h := zif_t hc h
        refine z_iload F dX10_voteOf_127 1 rfl ?_
        refine z_istore (n := 0) F [(5, .int x5), (0, zr G x0), (6, .int x6)] dX10_voteOf_129 (Nat.le_of_ble_eq_true rfl) rfl ?_
        refine z_iinc F [(6, .int (x6 + (1 : Int32))), (5, .int x5), (0, zr G x0)] dX10_voteOf_131 2 rfl rfl (Nat.le_of_ble_eq_true rfl) rfl ?_
        refine z_goto F 83 dX10_voteOf_134 rfl ?_
        refine z_ls [(0, zr G x0), (5, .int x5), (6, .int (x6 + (1 : Int32)))] [2, 1, 0] rfl ?_
        exact ih x0 t0 x5 (x6 + (1 : Int32)) v h
      · replace h := zif_f hc h
        refine z_iload F dX10_voteOf_99 1 rfl ?_
        refine z_iconst (y := (-1 : Int32)) F dX10_voteOf_101 rfl ?_
        refine z_icmp_eq F 122 dX10_voteOf_102 rfl (fun hc => ?_) (fun hc => ?_)
        · replace h := zif_t hc h
          refine z_iload F dX10_voteOf_122 2 rfl ?_
          refine z_goto F 129 dX10_voteOf_124 rfl ?_
          refine z_istore (n := 0) F [(5, .int x6), (0, zr G x0), (6, .int x6)] dX10_voteOf_129 (Nat.le_of_ble_eq_true rfl) rfl ?_
          refine z_iinc F [(6, .int (x6 + (1 : Int32))), (5, .int x6), (0, zr G x0)] dX10_voteOf_131 2 rfl rfl (Nat.le_of_ble_eq_true rfl) rfl ?_
          refine z_goto F 83 dX10_voteOf_134 rfl ?_
          refine z_ls [(0, zr G x0), (5, .int x6), (6, .int (x6 + (1 : Int32)))] [2, 1, 0] rfl ?_
          exact ih x0 t0 x6 (x6 + (1 : Int32)) v h
        · replace h := zif_f hc h
          refine z_aload_n F dX10_voteOf_105 rfl 0 rfl ?_
          refine zg_10_59 F t0 wF_X10_121 dX10_voteOf_106 ?_
          refine z_iload F dX10_voteOf_109 2 rfl ?_
          obtain ⟨hi111, h⟩ := zix_ex h
          refine z_iald F (zt_f tc_10_59 t0) dX10_voteOf_111 hi111 ?_
          refine z_aload_n F dX10_voteOf_112 rfl 0 rfl ?_
          refine zg_10_59 F t0 wF_X10_121 dX10_voteOf_113 ?_
          refine z_iload F dX10_voteOf_116 1 rfl ?_
          obtain ⟨hi118, h⟩ := zix_ex h
          refine z_iald F (zt_f tc_10_59 t0) dX10_voteOf_118 hi118 ?_
          refine z_icmp_le F 127 dX10_voteOf_119 rfl (fun hc => ?_) (fun hc => ?_)
          · replace h := zif_t hc h
            refine z_iload F dX10_voteOf_127 1 rfl ?_
            refine z_istore (n := 0) F [(5, .int x5), (0, zr G x0), (6, .int x6)] dX10_voteOf_129 (Nat.le_of_ble_eq_true rfl) rfl ?_
            refine z_iinc F [(6, .int (x6 + (1 : Int32))), (5, .int x5), (0, zr G x0)] dX10_voteOf_131 2 rfl rfl (Nat.le_of_ble_eq_true rfl) rfl ?_
            refine z_goto F 83 dX10_voteOf_134 rfl ?_
            refine z_ls [(0, zr G x0), (5, .int x5), (6, .int (x6 + (1 : Int32)))] [2, 1, 0] rfl ?_
            exact ih x0 t0 x5 (x6 + (1 : Int32)) v h
          · replace h := zif_f hc h
            refine z_iload F dX10_voteOf_122 2 rfl ?_
            refine z_goto F 129 dX10_voteOf_124 rfl ?_
            refine z_istore (n := 0) F [(5, .int x6), (0, zr G x0), (6, .int x6)] dX10_voteOf_129 (Nat.le_of_ble_eq_true rfl) rfl ?_
            refine z_iinc F [(6, .int (x6 + (1 : Int32))), (5, .int x6), (0, zr G x0)] dX10_voteOf_131 2 rfl rfl (Nat.le_of_ble_eq_true rfl) rfl ?_
            refine z_goto F 83 dX10_voteOf_134 rfl ?_
            refine z_ls [(0, zr G x0), (5, .int x6), (6, .int (x6 + (1 : Int32)))] [2, 1, 0] rfl ?_
            exact ih x0 t0 x6 (x6 + (1 : Int32)) v h

def fX10_voteOf_29  : Nat → Nat → Int32 → Int32 → Int32 → Int32 → Int32 → Int32 → zV → Option (Int32 × zV)
  | 0 => fun _ _ _ _ _ _ _ _ => none
  | n + 1 => fun x0 x1 x2 x3 x4 x5 x6 v =>
    if x4 ≤ x6 then
      fX10_voteOf_83  zFU x0 x5 (0 : Int32) v
    else
      zix ((48 : Int32) + x6) (zlen (zrf x0 35)) <|
      zix (v (zrf x0 35) ((48 : Int32) + x6).toNatClampNeg) (zlen (zrf x0 20)) <|
      zix x1 (zlen (zrf (zrf x0 20) (v (zrf x0 35) ((48 : Int32) + x6).toNatClampNeg).toNatClampNeg)) <|
      zix (v (zrf (zrf x0 20) (v (zrf x0 35) ((48 : Int32) + x6).toNatClampNeg).toNatClampNeg) (x1).toNatClampNeg) (zlen (zrf x0 59)) <|
      znz x2 <|
      if (x6 - x6 / x2 * x2) = x3 then
        zix (v (zrf (zrf x0 20) (v (zrf x0 35) ((48 : Int32) + x6).toNatClampNeg).toNatClampNeg) (x1).toNatClampNeg) (zlen (zrf x0 59)) <|
        zlet (zup v (zrf x0 59) (v (zrf (zrf x0 20) (v (zrf x0 35) ((48 : Int32) + x6).toNatClampNeg).toNatClampNeg) (x1).toNatClampNeg).toNatClampNeg ((v (zrf x0 59) (v (zrf (zrf x0 20) (v (zrf x0 35) ((48 : Int32) + x6).toNatClampNeg).toNatClampNeg) (x1).toNatClampNeg).toNatClampNeg) + (1 : Int32))) fun v_2 =>
        (fX10_voteOf_29 n) x0 x1 x2 x3 x4 x5 (x6 + (1 : Int32)) v_2
      else
        zix (v (zrf (zrf x0 20) (v (zrf x0 35) ((48 : Int32) + x6).toNatClampNeg).toNatClampNeg) (x1).toNatClampNeg) (zlen (zrf x0 59)) <|
        zlet (zup v (zrf x0 59) (v (zrf (zrf x0 20) (v (zrf x0 35) ((48 : Int32) + x6).toNatClampNeg).toNatClampNeg) (x1).toNatClampNeg).toNatClampNeg ((v (zrf x0 59) (v (zrf (zrf x0 20) (v (zrf x0 35) ((48 : Int32) + x6).toNatClampNeg).toNatClampNeg) (x1).toNatClampNeg).toNatClampNeg) + (0 : Int32))) fun v_1 =>
        (fX10_voteOf_29 n) x0 x1 x2 x3 x4 x5 (x6 + (1 : Int32)) v_1
set_option maxRecDepth 4000 in
theorem jX10_voteOf_29 (x : zCx) (G : zG) (F : zF x G cX10_voteOf 7 RX10 1 80) (hr : x.2.2.2.2.2.2.2.2.1.sig.returnType = (Option.some FieldType.int)) (hk : x.2.2.2.2.2.2.2.2.1.locks = false) (r : Int32) (w : zV)  : ∀ (n : Nat) (x0 : Nat) (t0 : zty G x0 1 10) (x1 : Int32) (x2 : Int32) (x3 : Int32) (x4 : Int32) (x5 : Int32) (x6 : Int32) (v : zV), fX10_voteOf_29 n x0 x1 x2 x3 x4 x5 x6 v = some (r, w) → zJ x G 7 (zQ x G (some (.int r)) w 0 0) 0 0 29 [(0, zr G x0), (1, .int x1), (2, .int x2), (3, .int x3), (4, .int x4), (5, .int x5), (6, .int x6)] [] v := by
  intro n
  induction n with
  | zero => intro x0 t0 x1 x2 x3 x4 x5 x6 v h; exact absurd h (by intro q; cases q)
  | succ n ih =>
    intro x0 t0 x1 x2 x3 x4 x5 x6 v h
    rw [fX10_voteOf_29] at h
    dsimp only at h
    refine z_iload F dX10_voteOf_29 6 rfl ?_
    refine z_iload F dX10_voteOf_31 4 rfl ?_
    refine z_icmp_ge F 80 dX10_voteOf_33 rfl (fun hc => ?_) (fun hc => ?_)
    · replace h := zif_t hc h
      refine z_iconst (y := (0 : Int32)) F dX10_voteOf_80 rfl ?_
      refine z_istore (n := 0) F [(6, .int (0 : Int32)), (0, zr G x0), (1, .int x1), (2, .int x2), (3, .int x3), (4, .int x4), (5, .int x5)] dX10_voteOf_81 (Nat.le_of_ble_eq_true rfl) rfl ?_
      refine z_ls [(0, zr G x0), (5, .int x5), (6, .int (0 : Int32))] [1, 6, 0] rfl ?_
      exact jX10_voteOf_83 x G F hr hk r w   zFU x0 t0 x5 (0 : Int32) v h
    · replace h := zif_f hc h
      refine z_aload_n F dX10_voteOf_36 rfl 0 rfl ?_
      refine zg_10_59 F t0 wF_X10_121 dX10_voteOf_37 ?_
      refine z_aload_n F dX10_voteOf_40 rfl 0 rfl ?_
      refine zg_10_20 F t0 wF_X10_49 dX10_voteOf_41 ?_
      refine z_aload_n F dX10_voteOf_44 rfl 0 rfl ?_
      refine zg_10_35 F t0 wF_X10_85 dX10_voteOf_45 ?_
      refine z_bipush (y := (48 : Int32)) F dX10_voteOf_48 rfl ?_
      refine z_iload F dX10_voteOf_50 6 rfl ?_
      refine z_iadd F dX10_voteOf_52 ?_
      obtain ⟨hi53, h⟩ := zix_ex h
      refine z_iald F (zt_f tc_10_35 t0) dX10_voteOf_53 hi53 ?_
      obtain ⟨hi54, h⟩ := zix_ex h
      refine z_aald3 F (zt_f tc_10_20 t0) dX10_voteOf_54 hi54 ?_
      refine z_iload_n F dX10_voteOf_55 rfl 1 rfl ?_
      obtain ⟨hi56, h⟩ := zix_ex h
      refine z_iald F (zt_a tcA_3 (zt_f tc_10_20 t0) (zin_lt hi54)) dX10_voteOf_56 hi56 ?_
      refine z_dup2 F dX10_voteOf_57 rfl rfl ?_
      obtain ⟨hi58, h⟩ := zix_ex h
      refine z_iald F (zt_f tc_10_59 t0) dX10_voteOf_58 hi58 ?_
      refine z_iload F dX10_voteOf_59 6 rfl ?_
      refine z_iload_n F dX10_voteOf_61 rfl 2 rfl ?_
      obtain ⟨hz62, h⟩ := znz_ex h
      refine z_irem F dX10_voteOf_62 hz62 ?_
      refine z_iload_n F dX10_voteOf_63 rfl 3 rfl ?_
      refine z_icmp_ne F 71 dX10_voteOf_64 rfl (fun hc => ?_) (fun hc => ?_)
      · replace h := zif_f hc h
        refine z_iconst (y := (0 : Int32)) F dX10_voteOf_71 rfl ?_
        refine z_iadd F dX10_voteOf_72 ?_
        obtain ⟨hi73, h⟩ := zix_ex h
        refine z_iast F (zt_f tc_10_59 t0) dX10_voteOf_73 hi73 ?_
        obtain ⟨v_1, ev_1, h⟩ := zlet_ex h
        refine z_heap ev_1 ?_
        refine z_iinc F [(6, .int (x6 + (1 : Int32))), (0, zr G x0), (1, .int x1), (2, .int x2), (3, .int x3), (4, .int x4), (5, .int x5)] dX10_voteOf_74 6 rfl rfl (Nat.le_of_ble_eq_true rfl) rfl ?_
        refine z_goto F 29 dX10_voteOf_77 rfl ?_
        refine z_ls [(0, zr G x0), (1, .int x1), (2, .int x2), (3, .int x3), (4, .int x4), (5, .int x5), (6, .int (x6 + (1 : Int32)))] [1, 2, 3, 4, 5, 6, 0] rfl ?_
        exact ih x0 t0 x1 x2 x3 x4 x5 (x6 + (1 : Int32)) v_1 h
      · replace h := zif_t hc h
        refine z_iconst (y := (1 : Int32)) F dX10_voteOf_67 rfl ?_
        refine z_goto F 72 dX10_voteOf_68 rfl ?_
        refine z_iadd F dX10_voteOf_72 ?_
        obtain ⟨hi73, h⟩ := zix_ex h
        refine z_iast F (zt_f tc_10_59 t0) dX10_voteOf_73 hi73 ?_
        obtain ⟨v_2, ev_2, h⟩ := zlet_ex h
        refine z_heap ev_2 ?_
        refine z_iinc F [(6, .int (x6 + (1 : Int32))), (0, zr G x0), (1, .int x1), (2, .int x2), (3, .int x3), (4, .int x4), (5, .int x5)] dX10_voteOf_74 6 rfl rfl (Nat.le_of_ble_eq_true rfl) rfl ?_
        refine z_goto F 29 dX10_voteOf_77 rfl ?_
        refine z_ls [(0, zr G x0), (1, .int x1), (2, .int x2), (3, .int x3), (4, .int x4), (5, .int x5), (6, .int (x6 + (1 : Int32)))] [1, 2, 3, 4, 5, 6, 0] rfl ?_
        exact ih x0 t0 x1 x2 x3 x4 x5 (x6 + (1 : Int32)) v_2 h

def fX10_voteOf_6  : Nat → Nat → Int32 → Int32 → Int32 → Int32 → Int32 → Int32 → zV → Option (Int32 × zV)
  | 0 => fun _ _ _ _ _ _ _ _ => none
  | n + 1 => fun x0 x1 x2 x3 x4 x5 x6 v =>
    if (3 : Int32) ≤ x6 then
      fX10_voteOf_29  zFU x0 x1 x2 x3 x4 x5 (0 : Int32) v
    else
      zix x6 (zlen (zrf x0 59)) <|
      zlet (zup v (zrf x0 59) (x6).toNatClampNeg (0 : Int32)) fun v_1 =>
      (fX10_voteOf_6 n) x0 x1 x2 x3 x4 x5 (x6 + (1 : Int32)) v_1
set_option maxRecDepth 4000 in
theorem jX10_voteOf_6 (x : zCx) (G : zG) (F : zF x G cX10_voteOf 7 RX10 1 80) (hr : x.2.2.2.2.2.2.2.2.1.sig.returnType = (Option.some FieldType.int)) (hk : x.2.2.2.2.2.2.2.2.1.locks = false) (r : Int32) (w : zV)  : ∀ (n : Nat) (x0 : Nat) (t0 : zty G x0 1 10) (x1 : Int32) (x2 : Int32) (x3 : Int32) (x4 : Int32) (x5 : Int32) (x6 : Int32) (v : zV), fX10_voteOf_6 n x0 x1 x2 x3 x4 x5 x6 v = some (r, w) → zJ x G 7 (zQ x G (some (.int r)) w 0 0) 0 0 6 [(0, zr G x0), (1, .int x1), (2, .int x2), (3, .int x3), (4, .int x4), (5, .int x5), (6, .int x6)] [] v := by
  intro n
  induction n with
  | zero => intro x0 t0 x1 x2 x3 x4 x5 x6 v h; exact absurd h (by intro q; cases q)
  | succ n ih =>
    intro x0 t0 x1 x2 x3 x4 x5 x6 v h
    rw [fX10_voteOf_6] at h
    dsimp only at h
    refine z_iload F dX10_voteOf_6 6 rfl ?_
    refine z_iconst (y := (3 : Int32)) F dX10_voteOf_8 rfl ?_
    refine z_icmp_ge F 26 dX10_voteOf_9 rfl (fun hc => ?_) (fun hc => ?_)
    · replace h := zif_t hc h
      refine z_iconst (y := (0 : Int32)) F dX10_voteOf_26 rfl ?_
      refine z_istore (n := 0) F [(6, .int (0 : Int32)), (0, zr G x0), (1, .int x1), (2, .int x2), (3, .int x3), (4, .int x4), (5, .int x5)] dX10_voteOf_27 (Nat.le_of_ble_eq_true rfl) rfl ?_
      refine z_ls [(0, zr G x0), (1, .int x1), (2, .int x2), (3, .int x3), (4, .int x4), (5, .int x5), (6, .int (0 : Int32))] [1, 2, 3, 4, 5, 6, 0] rfl ?_
      exact jX10_voteOf_29 x G F hr hk r w   zFU x0 t0 x1 x2 x3 x4 x5 (0 : Int32) v h
    · replace h := zif_f hc h
      refine z_aload_n F dX10_voteOf_12 rfl 0 rfl ?_
      refine zg_10_59 F t0 wF_X10_121 dX10_voteOf_13 ?_
      refine z_iload F dX10_voteOf_16 6 rfl ?_
      refine z_iconst (y := (0 : Int32)) F dX10_voteOf_18 rfl ?_
      obtain ⟨hi19, h⟩ := zix_ex h
      refine z_iast F (zt_f tc_10_59 t0) dX10_voteOf_19 hi19 ?_
      obtain ⟨v_1, ev_1, h⟩ := zlet_ex h
      refine z_heap ev_1 ?_
      refine z_iinc F [(6, .int (x6 + (1 : Int32))), (0, zr G x0), (1, .int x1), (2, .int x2), (3, .int x3), (4, .int x4), (5, .int x5)] dX10_voteOf_20 6 rfl rfl (Nat.le_of_ble_eq_true rfl) rfl ?_
      refine z_goto F 6 dX10_voteOf_23 rfl ?_
      refine z_ls [(0, zr G x0), (1, .int x1), (2, .int x2), (3, .int x3), (4, .int x4), (5, .int x5), (6, .int (x6 + (1 : Int32)))] [1, 2, 3, 4, 5, 6, 0] rfl ?_
      exact ih x0 t0 x1 x2 x3 x4 x5 (x6 + (1 : Int32)) v_1 h

def fX10_voteOf (x0 : Nat) (x1 : Int32) (x2 : Int32) (x3 : Int32) (x4 : Int32) (v : zV) : Option (Int32 × zV) :=
  fX10_voteOf_6  zFU x0 x1 x2 x3 x4 (-1 : Int32) (0 : Int32) v
set_option maxRecDepth 4000 in
theorem kX10_voteOf (l : Launch) (G : zG) (x0 : Nat) (t0 : zty G x0 1 10) (x1 : Int32) (x2 : Int32) (x3 : Int32) (x4 : Int32) (v : zV) (r : Int32) (w : zV) (h : fX10_voteOf x0 x1 x2 x3 x4 v = some (r, w)) : zMet l yX10_voteOf cX10_voteOf 7 (Option.some FieldType.int) 1 80 0 0 [zr G x0, .int x1, .int x2, .int x3, .int x4] G v (some (.int r)) w := by
  refine zM_of (own := RX10) (by decide) rfl (Nat.le_of_ble_eq_true rfl) (fun x hl F hr hk hcs => ?_)
  subst hl
  refine z_ls [(0, zr G x0), (1, .int x1), (2, .int x2), (3, .int x3), (4, .int x4)] [0, 1, 2, 3, 4] rfl ?_
  unfold fX10_voteOf at h
  refine z_iconst (y := (-1 : Int32)) F dX10_voteOf_0 rfl ?_
  refine z_istore (n := 0) F [(5, .int (-1 : Int32)), (0, zr G x0), (1, .int x1), (2, .int x2), (3, .int x3), (4, .int x4)] dX10_voteOf_1 (Nat.le_of_ble_eq_true rfl) rfl ?_
  refine z_iconst (y := (0 : Int32)) F dX10_voteOf_3 rfl ?_
  refine z_istore (n := 0) F [(6, .int (0 : Int32)), (5, .int (-1 : Int32)), (0, zr G x0), (1, .int x1), (2, .int x2), (3, .int x3), (4, .int x4)] dX10_voteOf_4 (Nat.le_of_ble_eq_true rfl) rfl ?_
  refine z_ls [(0, zr G x0), (1, .int x1), (2, .int x2), (3, .int x3), (4, .int x4), (5, .int (-1 : Int32)), (6, .int (0 : Int32))] [2, 3, 4, 5, 6, 1, 0] rfl ?_
  exact jX10_voteOf_6 x G F hr hk r w   zFU x0 t0 x1 x2 x3 x4 (-1 : Int32) (0 : Int32) v h

theorem dX10_vote_0 : decode cX10_vote 0 = .ok (.aload_n 0, 1) := by decide +kernel
theorem dX10_vote_1 : decode cX10_vote 1 = .ok (.iconst 0, 1) := by decide +kernel
theorem dX10_vote_2 : decode cX10_vote 2 = .ok (.putfield 134, 3) := by decide +kernel
theorem dX10_vote_5 : decode cX10_vote 5 = .ok (.aload_n 0, 1) := by decide +kernel
theorem dX10_vote_6 : decode cX10_vote 6 = .ok (.aload_n 0, 1) := by decide +kernel
theorem dX10_vote_7 : decode cX10_vote 7 = .ok (.iload_n 1, 1) := by decide +kernel
theorem dX10_vote_8 : decode cX10_vote 8 = .ok (.invokevirtual 304, 3) := by decide +kernel
theorem dX10_vote_11 : decode cX10_vote 11 = .ok (.ifCond .ne 7, 3) := by decide +kernel
theorem dX10_vote_14 : decode cX10_vote 14 = .ok (.iconst 1, 1) := by decide +kernel
theorem dX10_vote_15 : decode cX10_vote 15 = .ok (.goto 4, 3) := by decide +kernel
theorem dX10_vote_18 : decode cX10_vote 18 = .ok (.iconst 0, 1) := by decide +kernel
theorem dX10_vote_19 : decode cX10_vote 19 = .ok (.iconst 1, 1) := by decide +kernel
theorem dX10_vote_20 : decode cX10_vote 20 = .ok (.iconst 0, 1) := by decide +kernel
theorem dX10_vote_21 : decode cX10_vote 21 = .ok (.invokevirtual 220, 3) := by decide +kernel
theorem dX10_vote_24 : decode cX10_vote 24 = .ok (.ifCond .ne 37, 3) := by decide +kernel
theorem dX10_vote_27 : decode cX10_vote 27 = .ok (.aload_n 0, 1) := by decide +kernel
theorem dX10_vote_28 : decode cX10_vote 28 = .ok (.iload_n 2, 1) := by decide +kernel
theorem dX10_vote_29 : decode cX10_vote 29 = .ok (.iconst 1, 1) := by decide +kernel
theorem dX10_vote_30 : decode cX10_vote 30 = .ok (.bipush 12, 2) := by decide +kernel
theorem dX10_vote_32 : decode cX10_vote 32 = .ok (.invokestatic 168, 3) := by decide +kernel
theorem dX10_vote_35 : decode cX10_vote 35 = .ok (.ifCond .eq 13, 3) := by decide +kernel
theorem dX10_vote_38 : decode cX10_vote 38 = .ok (.iload_n 3, 1) := by decide +kernel
theorem dX10_vote_39 : decode cX10_vote 39 = .ok (.iconst 0, 1) := by decide +kernel
theorem dX10_vote_40 : decode cX10_vote 40 = .ok (.bipush 11, 2) := by decide +kernel
theorem dX10_vote_42 : decode cX10_vote 42 = .ok (.invokestatic 168, 3) := by decide +kernel
theorem dX10_vote_45 : decode cX10_vote 45 = .ok (.ifCond .ne 7, 3) := by decide +kernel
theorem dX10_vote_48 : decode cX10_vote 48 = .ok (.iconst 1, 1) := by decide +kernel
theorem dX10_vote_49 : decode cX10_vote 49 = .ok (.goto 4, 3) := by decide +kernel
theorem dX10_vote_52 : decode cX10_vote 52 = .ok (.iconst 0, 1) := by decide +kernel
theorem dX10_vote_53 : decode cX10_vote 53 = .ok (.iconst 2, 1) := by decide +kernel
theorem dX10_vote_54 : decode cX10_vote 54 = .ok (.iconst 1, 1) := by decide +kernel
theorem dX10_vote_55 : decode cX10_vote 55 = .ok (.invokevirtual 220, 3) := by decide +kernel
theorem dX10_vote_58 : decode cX10_vote 58 = .ok (.ifCond .eq 5, 3) := by decide +kernel
theorem dX10_vote_61 : decode cX10_vote 61 = .ok (.iconst 0, 1) := by decide +kernel
theorem dX10_vote_62 : decode cX10_vote 62 = .ok (.ireturn, 1) := by decide +kernel
theorem dX10_vote_63 : decode cX10_vote 63 = .ok (.aload_n 0, 1) := by decide +kernel
theorem dX10_vote_64 : decode cX10_vote 64 = .ok (.iload_n 1, 1) := by decide +kernel
theorem dX10_vote_65 : decode cX10_vote 65 = .ok (.iload_n 2, 1) := by decide +kernel
theorem dX10_vote_66 : decode cX10_vote 66 = .ok (.iload_n 3, 1) := by decide +kernel
theorem dX10_vote_67 : decode cX10_vote 67 = .ok (.aload_n 0, 1) := by decide +kernel
theorem dX10_vote_68 : decode cX10_vote 68 = .ok (.getfield 85, 3) := by decide +kernel
theorem dX10_vote_71 : decode cX10_vote 71 = .ok (.bipush 61, 2) := by decide +kernel
theorem dX10_vote_73 : decode cX10_vote 73 = .ok (.iaload, 1) := by decide +kernel
theorem dX10_vote_74 : decode cX10_vote 74 = .ok (.invokevirtual 410, 3) := by decide +kernel
theorem dX10_vote_77 : decode cX10_vote 77 = .ok (.ireturn, 1) := by decide +kernel
def fX10_vote_53  (x0 : Nat) (x1 : Int32) (x2 : Int32) (x3 : Int32) (s0 : Nat) (s1 : Int32) (v : zV) : Option (Int32 × zV) :=
  zbind (fX10_bad s0 s1 (2 : Int32) (1 : Int32) v) fun r_2 v_1 =>
  if r_2 = (0 : Int32) then
    zix (61 : Int32) (zlen (zrf x0 35)) <|
    zbind (fX10_voteOf x0 x1 x2 x3 (v_1 (zrf x0 35) ((61 : Int32)).toNatClampNeg) v_1) fun r_4 v_3 =>
    some (r_4, v_3)
  else
    some ((0 : Int32), v_1)
set_option maxRecDepth 4000 in
theorem jX10_vote_53 (x : zCx) (G : zG) (F : zF x G cX10_vote 4 RX10 3 123) (hr : x.2.2.2.2.2.2.2.2.1.sig.returnType = (Option.some FieldType.int)) (hk : x.2.2.2.2.2.2.2.2.1.locks = false) (r : Int32) (w : zV)  : ∀ (x0 : Nat) (t0 : zty G x0 1 10) (x1 : Int32) (x2 : Int32) (x3 : Int32) (s0 : Nat) (ts0 : zty G s0 1 10) (s1 : Int32) (v : zV), fX10_vote_53 x0 x1 x2 x3 s0 s1 v = some (r, w) → zJ x G 4 (zQ x G (some (.int r)) w 0 0) 0 0 53 [(0, zr G x0), (1, .int x1), (2, .int x2), (3, .int x3)] [.int s1, zr G s0] v := by
  intro x0 t0 x1 x2 x3 s0 ts0 s1 v h
  unfold fX10_vote_53 at h
  refine z_iconst (y := (2 : Int32)) F dX10_vote_53 rfl ?_
  refine z_iconst (y := (1 : Int32)) F dX10_vote_54 rfl ?_
  obtain ⟨r_2, v_1, hq55, h⟩ := zbind_ex h
  refine z_callVi F [.int s1, .int (2 : Int32), .int (1 : Int32)] [] (kX10_bad x.2.1 G s0 ts0 s1 (2 : Int32) (1 : Int32) v r_2 v_1 hq55) mI_X10_bad (c := 10) rfl ts0 wM_X10_220 mi_X10_bad sl_X10_bad dX10_vote_55 rfl ⟨Nat.le_of_ble_eq_true rfl, Nat.le_of_ble_eq_true rfl⟩ rfl (Nat.le_of_ble_eq_true rfl) ⟨Nat.zero_le _, Nat.zero_le _⟩ ?_
  refine z_if_eq F 63 dX10_vote_58 rfl (fun hc => ?_) (fun hc => ?_)
  · replace h := zif_t hc h
    refine z_aload_n F dX10_vote_63 rfl 0 rfl ?_
    refine z_iload_n F dX10_vote_64 rfl 1 rfl ?_
    refine z_iload_n F dX10_vote_65 rfl 2 rfl ?_
    refine z_iload_n F dX10_vote_66 rfl 3 rfl ?_
    refine z_aload_n F dX10_vote_67 rfl 0 rfl ?_
    refine zg_10_35 F t0 wF_X10_85 dX10_vote_68 ?_
    refine z_bipush (y := (61 : Int32)) F dX10_vote_71 rfl ?_
    obtain ⟨hi73, h⟩ := zix_ex h
    refine z_iald F (zt_f tc_10_35 t0) dX10_vote_73 hi73 ?_
    obtain ⟨r_4, v_3, hq74, h⟩ := zbind_ex h
    refine z_callVi F [.int x1, .int x2, .int x3, .int (v_1 (zrf x0 35) ((61 : Int32)).toNatClampNeg)] [] (kX10_voteOf x.2.1 G x0 t0 x1 x2 x3 (v_1 (zrf x0 35) ((61 : Int32)).toNatClampNeg) v_1 r_4 v_3 hq74) mI_X10_voteOf (c := 10) rfl t0 wM_X10_410 mi_X10_voteOf sl_X10_voteOf dX10_vote_74 rfl ⟨Nat.le_of_ble_eq_true rfl, Nat.le_of_ble_eq_true rfl⟩ rfl (Nat.le_of_ble_eq_true rfl) ⟨Nat.zero_le _, Nat.zero_le _⟩ ?_
    cases h
    exact z_reti F hr hk dX10_vote_77
  · replace h := zif_f hc h
    refine z_iconst (y := (0 : Int32)) F dX10_vote_61 rfl ?_
    cases h
    exact z_reti F hr hk dX10_vote_62

def fX10_vote_19  (x0 : Nat) (x1 : Int32) (x2 : Int32) (x3 : Int32) (s0 : Nat) (s1 : Int32) (v : zV) : Option (Int32 × zV) :=
  zbind (fX10_bad s0 s1 (1 : Int32) (0 : Int32) v) fun r_2 v_1 =>
  if r_2 = (0 : Int32) then
    zbind (fX10_in x2 (1 : Int32) (12 : Int32) v_1) fun r_4 v_3 =>
    if r_4 = (0 : Int32) then
      fX10_vote_53  x0 x1 x2 x3 x0 (1 : Int32) v_3
    else
      zbind (fX10_in x3 (0 : Int32) (11 : Int32) v_3) fun r_6 v_5 =>
      if r_6 = (0 : Int32) then
        fX10_vote_53  x0 x1 x2 x3 x0 (1 : Int32) v_5
      else
        fX10_vote_53  x0 x1 x2 x3 x0 (0 : Int32) v_5
  else
    some ((0 : Int32), v_1)
set_option maxRecDepth 4000 in
theorem jX10_vote_19 (x : zCx) (G : zG) (F : zF x G cX10_vote 4 RX10 3 123) (hr : x.2.2.2.2.2.2.2.2.1.sig.returnType = (Option.some FieldType.int)) (hk : x.2.2.2.2.2.2.2.2.1.locks = false) (r : Int32) (w : zV)  : ∀ (x0 : Nat) (t0 : zty G x0 1 10) (x1 : Int32) (x2 : Int32) (x3 : Int32) (s0 : Nat) (ts0 : zty G s0 1 10) (s1 : Int32) (v : zV), fX10_vote_19 x0 x1 x2 x3 s0 s1 v = some (r, w) → zJ x G 4 (zQ x G (some (.int r)) w 0 0) 0 0 19 [(0, zr G x0), (1, .int x1), (2, .int x2), (3, .int x3)] [.int s1, zr G s0] v := by
  intro x0 t0 x1 x2 x3 s0 ts0 s1 v h
  unfold fX10_vote_19 at h
  refine z_iconst (y := (1 : Int32)) F dX10_vote_19 rfl ?_
  refine z_iconst (y := (0 : Int32)) F dX10_vote_20 rfl ?_
  obtain ⟨r_2, v_1, hq21, h⟩ := zbind_ex h
  refine z_callVi F [.int s1, .int (1 : Int32), .int (0 : Int32)] [] (kX10_bad x.2.1 G s0 ts0 s1 (1 : Int32) (0 : Int32) v r_2 v_1 hq21) mI_X10_bad (c := 10) rfl ts0 wM_X10_220 mi_X10_bad sl_X10_bad dX10_vote_21 rfl ⟨Nat.le_of_ble_eq_true rfl, Nat.le_of_ble_eq_true rfl⟩ rfl (Nat.le_of_ble_eq_true rfl) ⟨Nat.zero_le _, Nat.zero_le _⟩ ?_
  refine z_if_ne F 61 dX10_vote_24 rfl (fun hc => ?_) (fun hc => ?_)
  · replace h := zif_f hc h
    refine z_iconst (y := (0 : Int32)) F dX10_vote_61 rfl ?_
    cases h
    exact z_reti F hr hk dX10_vote_62
  · replace h := zif_t hc h
    refine z_aload_n F dX10_vote_27 rfl 0 rfl ?_
    refine z_iload_n F dX10_vote_28 rfl 2 rfl ?_
    refine z_iconst (y := (1 : Int32)) F dX10_vote_29 rfl ?_
    refine z_bipush (y := (12 : Int32)) F dX10_vote_30 rfl ?_
    obtain ⟨r_4, v_3, hq32, h⟩ := zbind_ex h
    refine z_callSi F [.int x2, .int (1 : Int32), .int (12 : Int32)] [zr G x0] (kX10_in x.2.1 G x2 (1 : Int32) (12 : Int32) v_1 r_4 v_3 hq32) mI_X10_in wM_X10_168 ms_X10_in dX10_vote_32 rfl ⟨Nat.le_of_ble_eq_true rfl, Nat.le_of_ble_eq_true rfl⟩ rfl (Nat.le_of_ble_eq_true rfl) ⟨Nat.zero_le _, Nat.zero_le _⟩ ?_
    refine z_if_eq F 48 dX10_vote_35 rfl (fun hc => ?_) (fun hc => ?_)
    · replace h := zif_t hc h
      refine z_iconst (y := (1 : Int32)) F dX10_vote_48 rfl ?_
      refine z_goto F 53 dX10_vote_49 rfl ?_
      refine z_ls [(0, zr G x0), (1, .int x1), (2, .int x2), (3, .int x3)] [0, 1, 2, 3] rfl ?_
      exact jX10_vote_53 x G F hr hk r w   x0 t0 x1 x2 x3 x0 t0 (1 : Int32) v_3 h
    · replace h := zif_f hc h
      refine z_iload_n F dX10_vote_38 rfl 3 rfl ?_
      refine z_iconst (y := (0 : Int32)) F dX10_vote_39 rfl ?_
      refine z_bipush (y := (11 : Int32)) F dX10_vote_40 rfl ?_
      obtain ⟨r_6, v_5, hq42, h⟩ := zbind_ex h
      refine z_callSi F [.int x3, .int (0 : Int32), .int (11 : Int32)] [zr G x0] (kX10_in x.2.1 G x3 (0 : Int32) (11 : Int32) v_3 r_6 v_5 hq42) mI_X10_in wM_X10_168 ms_X10_in dX10_vote_42 rfl ⟨Nat.le_of_ble_eq_true rfl, Nat.le_of_ble_eq_true rfl⟩ rfl (Nat.le_of_ble_eq_true rfl) ⟨Nat.zero_le _, Nat.zero_le _⟩ ?_
      refine z_if_ne F 52 dX10_vote_45 rfl (fun hc => ?_) (fun hc => ?_)
      · replace h := zif_f hc h
        refine z_iconst (y := (0 : Int32)) F dX10_vote_52 rfl ?_
        refine z_ls [(0, zr G x0), (1, .int x1), (2, .int x2), (3, .int x3)] [0, 1, 2, 3] rfl ?_
        exact jX10_vote_53 x G F hr hk r w   x0 t0 x1 x2 x3 x0 t0 (0 : Int32) v_5 h
      · replace h := zif_t hc h
        refine z_iconst (y := (1 : Int32)) F dX10_vote_48 rfl ?_
        refine z_goto F 53 dX10_vote_49 rfl ?_
        refine z_ls [(0, zr G x0), (1, .int x1), (2, .int x2), (3, .int x3)] [0, 1, 2, 3] rfl ?_
        exact jX10_vote_53 x G F hr hk r w   x0 t0 x1 x2 x3 x0 t0 (1 : Int32) v_5 h

def fX10_vote (x0 : Nat) (x1 : Int32) (x2 : Int32) (x3 : Int32) (v : zV) : Option (Int32 × zV) :=
  zlet (zup v x0 0 (0 : Int32)) fun v_1 =>
  zbind (fX10_isQuestion x0 x1 v_1) fun r_3 v_2 =>
  if r_3 = (0 : Int32) then
    fX10_vote_19  x0 x1 x2 x3 x0 (1 : Int32) v_2
  else
    fX10_vote_19  x0 x1 x2 x3 x0 (0 : Int32) v_2
set_option maxRecDepth 4000 in
theorem kX10_vote (l : Launch) (G : zG) (x0 : Nat) (t0 : zty G x0 1 10) (x1 : Int32) (x2 : Int32) (x3 : Int32) (v : zV) (r : Int32) (w : zV) (h : fX10_vote x0 x1 x2 x3 v = some (r, w)) : zMet l yX10_vote cX10_vote 4 (Option.some FieldType.int) 3 123 0 0 [zr G x0, .int x1, .int x2, .int x3] G v (some (.int r)) w := by
  refine zM_of (own := RX10) (by decide) rfl (Nat.le_of_ble_eq_true rfl) (fun x hl F hr hk hcs => ?_)
  subst hl
  refine z_ls [(0, zr G x0), (1, .int x1), (2, .int x2), (3, .int x3)] [0, 1, 2, 3] rfl ?_
  unfold fX10_vote at h
  refine z_aload_n F dX10_vote_0 rfl 0 rfl ?_
  refine z_iconst (y := (0 : Int32)) F dX10_vote_1 rfl ?_
  refine zp_10_0 F t0 wF_X10_134 dX10_vote_2 ?_
  obtain ⟨v_1, ev_1, h⟩ := zlet_ex h
  refine z_heap ev_1 ?_
  refine z_aload_n F dX10_vote_5 rfl 0 rfl ?_
  refine z_aload_n F dX10_vote_6 rfl 0 rfl ?_
  refine z_iload_n F dX10_vote_7 rfl 1 rfl ?_
  obtain ⟨r_3, v_2, hq8, h⟩ := zbind_ex h
  refine z_callVi F [.int x1] [zr G x0] (kX10_isQuestion x.2.1 G x0 t0 x1 v_1 r_3 v_2 hq8) mI_X10_isQuestion (c := 10) rfl t0 wM_X10_304 mi_X10_isQuestion sl_X10_isQuestion dX10_vote_8 rfl ⟨Nat.le_of_ble_eq_true rfl, Nat.le_of_ble_eq_true rfl⟩ rfl (Nat.le_of_ble_eq_true rfl) ⟨Nat.zero_le _, Nat.zero_le _⟩ ?_
  refine z_if_ne F 18 dX10_vote_11 rfl (fun hc => ?_) (fun hc => ?_)
  · replace h := zif_f hc h
    refine z_iconst (y := (0 : Int32)) F dX10_vote_18 rfl ?_
    refine z_ls [(0, zr G x0), (1, .int x1), (2, .int x2), (3, .int x3)] [0, 1, 2, 3] rfl ?_
    exact jX10_vote_19 x G F hr hk r w   x0 t0 x1 x2 x3 x0 t0 (0 : Int32) v_2 h
  · replace h := zif_t hc h
    refine z_iconst (y := (1 : Int32)) F dX10_vote_14 rfl ?_
    refine z_goto F 19 dX10_vote_15 rfl ?_
    refine z_ls [(0, zr G x0), (1, .int x1), (2, .int x2), (3, .int x3)] [0, 1, 2, 3] rfl ?_
    exact jX10_vote_19 x G F hr hk r w   x0 t0 x1 x2 x3 x0 t0 (1 : Int32) v_2 h

theorem dX10_skip_0 : decode cX10_skip 0 = .ok (.aload_n 0, 1) := by decide +kernel
theorem dX10_skip_1 : decode cX10_skip 1 = .ok (.iconst 0, 1) := by decide +kernel
theorem dX10_skip_2 : decode cX10_skip 2 = .ok (.putfield 134, 3) := by decide +kernel
theorem dX10_skip_5 : decode cX10_skip 5 = .ok (.aload_n 0, 1) := by decide +kernel
theorem dX10_skip_6 : decode cX10_skip 6 = .ok (.aload_n 0, 1) := by decide +kernel
theorem dX10_skip_7 : decode cX10_skip 7 = .ok (.iload_n 1, 1) := by decide +kernel
theorem dX10_skip_8 : decode cX10_skip 8 = .ok (.invokevirtual 304, 3) := by decide +kernel
theorem dX10_skip_11 : decode cX10_skip 11 = .ok (.ifCond .ne 7, 3) := by decide +kernel
theorem dX10_skip_14 : decode cX10_skip 14 = .ok (.iconst 1, 1) := by decide +kernel
theorem dX10_skip_15 : decode cX10_skip 15 = .ok (.goto 4, 3) := by decide +kernel
theorem dX10_skip_18 : decode cX10_skip 18 = .ok (.iconst 0, 1) := by decide +kernel
theorem dX10_skip_19 : decode cX10_skip 19 = .ok (.iconst 1, 1) := by decide +kernel
theorem dX10_skip_20 : decode cX10_skip 20 = .ok (.iconst 0, 1) := by decide +kernel
theorem dX10_skip_21 : decode cX10_skip 21 = .ok (.invokevirtual 220, 3) := by decide +kernel
theorem dX10_skip_24 : decode cX10_skip 24 = .ok (.ifCond .eq 5, 3) := by decide +kernel
theorem dX10_skip_27 : decode cX10_skip 27 = .ok (.iconst 0, 1) := by decide +kernel
theorem dX10_skip_28 : decode cX10_skip 28 = .ok (.ireturn, 1) := by decide +kernel
theorem dX10_skip_29 : decode cX10_skip 29 = .ok (.iconst 0, 1) := by decide +kernel
theorem dX10_skip_30 : decode cX10_skip 30 = .ok (.istore_n 2, 1) := by decide +kernel
theorem dX10_skip_31 : decode cX10_skip 31 = .ok (.iconst 0, 1) := by decide +kernel
theorem dX10_skip_32 : decode cX10_skip 32 = .ok (.istore_n 3, 1) := by decide +kernel
theorem dX10_skip_33 : decode cX10_skip 33 = .ok (.iload_n 3, 1) := by decide +kernel
theorem dX10_skip_34 : decode cX10_skip 34 = .ok (.aload_n 0, 1) := by decide +kernel
theorem dX10_skip_35 : decode cX10_skip 35 = .ok (.getfield 85, 3) := by decide +kernel
theorem dX10_skip_38 : decode cX10_skip 38 = .ok (.bipush 61, 2) := by decide +kernel
theorem dX10_skip_40 : decode cX10_skip 40 = .ok (.iaload, 1) := by decide +kernel
theorem dX10_skip_41 : decode cX10_skip 41 = .ok (.if_icmp .ge 79, 3) := by decide +kernel
theorem dX10_skip_44 : decode cX10_skip 44 = .ok (.iconst 0, 1) := by decide +kernel
theorem dX10_skip_45 : decode cX10_skip 45 = .ok (.istore 4, 2) := by decide +kernel
theorem dX10_skip_47 : decode cX10_skip 47 = .ok (.iload_n 3, 1) := by decide +kernel
theorem dX10_skip_48 : decode cX10_skip 48 = .ok (.istore 5, 2) := by decide +kernel
theorem dX10_skip_50 : decode cX10_skip 50 = .ok (.iload 5, 2) := by decide +kernel
theorem dX10_skip_52 : decode cX10_skip 52 = .ok (.aload_n 0, 1) := by decide +kernel
theorem dX10_skip_53 : decode cX10_skip 53 = .ok (.getfield 85, 3) := by decide +kernel
theorem dX10_skip_56 : decode cX10_skip 56 = .ok (.bipush 61, 2) := by decide +kernel
theorem dX10_skip_58 : decode cX10_skip 58 = .ok (.iaload, 1) := by decide +kernel
theorem dX10_skip_59 : decode cX10_skip 59 = .ok (.if_icmp .ge 48, 3) := by decide +kernel
theorem dX10_skip_62 : decode cX10_skip 62 = .ok (.aload_n 0, 1) := by decide +kernel
theorem dX10_skip_63 : decode cX10_skip 63 = .ok (.getfield 49, 3) := by decide +kernel
theorem dX10_skip_66 : decode cX10_skip 66 = .ok (.aload_n 0, 1) := by decide +kernel
theorem dX10_skip_67 : decode cX10_skip 67 = .ok (.getfield 85, 3) := by decide +kernel
theorem dX10_skip_70 : decode cX10_skip 70 = .ok (.bipush 48, 2) := by decide +kernel
theorem dX10_skip_72 : decode cX10_skip 72 = .ok (.iload 5, 2) := by decide +kernel
theorem dX10_skip_74 : decode cX10_skip 74 = .ok (.iadd, 1) := by decide +kernel
theorem dX10_skip_75 : decode cX10_skip 75 = .ok (.iaload, 1) := by decide +kernel
theorem dX10_skip_76 : decode cX10_skip 76 = .ok (.aaload, 1) := by decide +kernel
theorem dX10_skip_77 : decode cX10_skip 77 = .ok (.iload_n 1, 1) := by decide +kernel
theorem dX10_skip_78 : decode cX10_skip 78 = .ok (.iaload, 1) := by decide +kernel
theorem dX10_skip_79 : decode cX10_skip 79 = .ok (.aload_n 0, 1) := by decide +kernel
theorem dX10_skip_80 : decode cX10_skip 80 = .ok (.getfield 49, 3) := by decide +kernel
theorem dX10_skip_83 : decode cX10_skip 83 = .ok (.aload_n 0, 1) := by decide +kernel
theorem dX10_skip_84 : decode cX10_skip 84 = .ok (.getfield 85, 3) := by decide +kernel
theorem dX10_skip_87 : decode cX10_skip 87 = .ok (.bipush 48, 2) := by decide +kernel
theorem dX10_skip_89 : decode cX10_skip 89 = .ok (.iload_n 3, 1) := by decide +kernel
theorem dX10_skip_90 : decode cX10_skip 90 = .ok (.iadd, 1) := by decide +kernel
theorem dX10_skip_91 : decode cX10_skip 91 = .ok (.iaload, 1) := by decide +kernel
theorem dX10_skip_92 : decode cX10_skip 92 = .ok (.aaload, 1) := by decide +kernel
theorem dX10_skip_93 : decode cX10_skip 93 = .ok (.iload_n 1, 1) := by decide +kernel
theorem dX10_skip_94 : decode cX10_skip 94 = .ok (.iaload, 1) := by decide +kernel
theorem dX10_skip_95 : decode cX10_skip 95 = .ok (.if_icmp .ne 12, 3) := by decide +kernel
theorem dX10_skip_98 : decode cX10_skip 98 = .ok (.iinc 4 1, 3) := by decide +kernel
theorem dX10_skip_101 : decode cX10_skip 101 = .ok (.iinc 5 2, 3) := by decide +kernel
theorem dX10_skip_104 : decode cX10_skip 104 = .ok (.goto (-54), 3) := by decide +kernel
theorem dX10_skip_107 : decode cX10_skip 107 = .ok (.iload_n 2, 1) := by decide +kernel
theorem dX10_skip_108 : decode cX10_skip 108 = .ok (.iload 4, 2) := by decide +kernel
theorem dX10_skip_110 : decode cX10_skip 110 = .ok (.invokestatic 287, 3) := by decide +kernel
theorem dX10_skip_113 : decode cX10_skip 113 = .ok (.istore_n 2, 1) := by decide +kernel
theorem dX10_skip_114 : decode cX10_skip 114 = .ok (.iinc 3 1, 3) := by decide +kernel
theorem dX10_skip_117 : decode cX10_skip 117 = .ok (.goto (-84), 3) := by decide +kernel
theorem dX10_skip_120 : decode cX10_skip 120 = .ok (.iload_n 2, 1) := by decide +kernel
theorem dX10_skip_121 : decode cX10_skip 121 = .ok (.ireturn, 1) := by decide +kernel
def fX10_skip_50 (K33 : Nat → Int32 → Int32 → Int32 → zV → Option (Int32 × zV)) : Nat → Nat → Int32 → Int32 → Int32 → Int32 → Int32 → zV → Option (Int32 × zV)
  | 0 => fun _ _ _ _ _ _ _ => none
  | n + 1 => fun x0 x1 x2 x3 x4 x5 v =>
    zix (61 : Int32) (zlen (zrf x0 35)) <|
    if (v (zrf x0 35) ((61 : Int32)).toNatClampNeg) ≤ x5 then
      zbind (fX10_more x2 x4 v) fun r_2 v_1 =>
      K33 x0 x1 r_2 (x3 + (1 : Int32)) v_1
    else
      zix ((48 : Int32) + x5) (zlen (zrf x0 35)) <|
      zix (v (zrf x0 35) ((48 : Int32) + x5).toNatClampNeg) (zlen (zrf x0 20)) <|
      zix x1 (zlen (zrf (zrf x0 20) (v (zrf x0 35) ((48 : Int32) + x5).toNatClampNeg).toNatClampNeg)) <|
      zix ((48 : Int32) + x3) (zlen (zrf x0 35)) <|
      zix (v (zrf x0 35) ((48 : Int32) + x3).toNatClampNeg) (zlen (zrf x0 20)) <|
      zix x1 (zlen (zrf (zrf x0 20) (v (zrf x0 35) ((48 : Int32) + x3).toNatClampNeg).toNatClampNeg)) <|
      if (v (zrf (zrf x0 20) (v (zrf x0 35) ((48 : Int32) + x5).toNatClampNeg).toNatClampNeg) (x1).toNatClampNeg) = (v (zrf (zrf x0 20) (v (zrf x0 35) ((48 : Int32) + x3).toNatClampNeg).toNatClampNeg) (x1).toNatClampNeg) then
        (fX10_skip_50 K33 n) x0 x1 x2 x3 (x4 + (1 : Int32)) (x5 + (2 : Int32)) v
      else
        zbind (fX10_more x2 x4 v) fun r_4 v_3 =>
        K33 x0 x1 r_4 (x3 + (1 : Int32)) v_3
set_option maxRecDepth 4000 in
theorem jX10_skip_50 (x : zCx) (G : zG) (F : zF x G cX10_skip 6 RX10 3 123) (hr : x.2.2.2.2.2.2.2.2.1.sig.returnType = (Option.some FieldType.int)) (hk : x.2.2.2.2.2.2.2.2.1.locks = false) (r : Int32) (w : zV) (K33 : Nat → Int32 → Int32 → Int32 → zV → Option (Int32 × zV)) (hK33 : ∀ (x0 : Nat) (t0 : zty G x0 1 10) (x1 : Int32) (x2 : Int32) (x3 : Int32) (v : zV), K33 x0 x1 x2 x3 v = some (r, w) → zJ x G 6 (zQ x G (some (.int r)) w 0 0) 0 0 33 [(0, zr G x0), (1, .int x1), (2, .int x2), (3, .int x3)] [] v) : ∀ (n : Nat) (x0 : Nat) (t0 : zty G x0 1 10) (x1 : Int32) (x2 : Int32) (x3 : Int32) (x4 : Int32) (x5 : Int32) (v : zV), fX10_skip_50 K33 n x0 x1 x2 x3 x4 x5 v = some (r, w) → zJ x G 6 (zQ x G (some (.int r)) w 0 0) 0 0 50 [(0, zr G x0), (1, .int x1), (2, .int x2), (3, .int x3), (4, .int x4), (5, .int x5)] [] v := by
  intro n
  induction n with
  | zero => intro x0 t0 x1 x2 x3 x4 x5 v h; exact absurd h (by intro q; cases q)
  | succ n ih =>
    intro x0 t0 x1 x2 x3 x4 x5 v h
    rw [fX10_skip_50] at h
    dsimp only at h
    refine z_iload F dX10_skip_50 5 rfl ?_
    refine z_aload_n F dX10_skip_52 rfl 0 rfl ?_
    refine zg_10_35 F t0 wF_X10_85 dX10_skip_53 ?_
    refine z_bipush (y := (61 : Int32)) F dX10_skip_56 rfl ?_
    obtain ⟨hi58, h⟩ := zix_ex h
    refine z_iald F (zt_f tc_10_35 t0) dX10_skip_58 hi58 ?_
    refine z_icmp_ge F 107 dX10_skip_59 rfl (fun hc => ?_) (fun hc => ?_)
    · replace h := zif_t hc h
      refine z_iload_n F dX10_skip_107 rfl 2 rfl ?_
      refine z_iload F dX10_skip_108 4 rfl ?_
      obtain ⟨r_2, v_1, hq110, h⟩ := zbind_ex h
      refine z_callSi F [.int x2, .int x4] [] (kX10_more x.2.1 G x2 x4 v r_2 v_1 hq110) mI_X10_more wM_X10_287 ms_X10_more dX10_skip_110 rfl ⟨Nat.le_of_ble_eq_true rfl, Nat.le_of_ble_eq_true rfl⟩ rfl (Nat.le_of_ble_eq_true rfl) ⟨Nat.zero_le _, Nat.zero_le _⟩ ?_
      refine z_istore_n F [(2, .int r_2), (0, zr G x0), (1, .int x1), (3, .int x3), (4, .int x4), (5, .int x5)] dX10_skip_113 rfl (Nat.le_of_ble_eq_true rfl) rfl ?_
      refine z_iinc F [(3, .int (x3 + (1 : Int32))), (2, .int r_2), (0, zr G x0), (1, .int x1), (4, .int x4), (5, .int x5)] dX10_skip_114 3 rfl rfl (Nat.le_of_ble_eq_true rfl) rfl ?_
      refine z_goto F 33 dX10_skip_117 rfl ?_
      refine z_ls [(0, zr G x0), (1, .int x1), (2, .int r_2), (3, .int (x3 + (1 : Int32)))] [2, 3, 1, 0] rfl ?_
      exact hK33 x0 t0 x1 r_2 (x3 + (1 : Int32)) v_1 h
    · replace h := zif_f hc h
      refine z_aload_n F dX10_skip_62 rfl 0 rfl ?_
      refine zg_10_20 F t0 wF_X10_49 dX10_skip_63 ?_
      refine z_aload_n F dX10_skip_66 rfl 0 rfl ?_
      refine zg_10_35 F t0 wF_X10_85 dX10_skip_67 ?_
      refine z_bipush (y := (48 : Int32)) F dX10_skip_70 rfl ?_
      refine z_iload F dX10_skip_72 5 rfl ?_
      refine z_iadd F dX10_skip_74 ?_
      obtain ⟨hi75, h⟩ := zix_ex h
      refine z_iald F (zt_f tc_10_35 t0) dX10_skip_75 hi75 ?_
      obtain ⟨hi76, h⟩ := zix_ex h
      refine z_aald3 F (zt_f tc_10_20 t0) dX10_skip_76 hi76 ?_
      refine z_iload_n F dX10_skip_77 rfl 1 rfl ?_
      obtain ⟨hi78, h⟩ := zix_ex h
      refine z_iald F (zt_a tcA_3 (zt_f tc_10_20 t0) (zin_lt hi76)) dX10_skip_78 hi78 ?_
      refine z_aload_n F dX10_skip_79 rfl 0 rfl ?_
      refine zg_10_20 F t0 wF_X10_49 dX10_skip_80 ?_
      refine z_aload_n F dX10_skip_83 rfl 0 rfl ?_
      refine zg_10_35 F t0 wF_X10_85 dX10_skip_84 ?_
      refine z_bipush (y := (48 : Int32)) F dX10_skip_87 rfl ?_
      refine z_iload_n F dX10_skip_89 rfl 3 rfl ?_
      refine z_iadd F dX10_skip_90 ?_
      obtain ⟨hi91, h⟩ := zix_ex h
      refine z_iald F (zt_f tc_10_35 t0) dX10_skip_91 hi91 ?_
      obtain ⟨hi92, h⟩ := zix_ex h
      refine z_aald3 F (zt_f tc_10_20 t0) dX10_skip_92 hi92 ?_
      refine z_iload_n F dX10_skip_93 rfl 1 rfl ?_
      obtain ⟨hi94, h⟩ := zix_ex h
      refine z_iald F (zt_a tcA_3 (zt_f tc_10_20 t0) (zin_lt hi92)) dX10_skip_94 hi94 ?_
      refine z_icmp_ne F 107 dX10_skip_95 rfl (fun hc => ?_) (fun hc => ?_)
      · replace h := zif_f hc h
        refine z_iload_n F dX10_skip_107 rfl 2 rfl ?_
        refine z_iload F dX10_skip_108 4 rfl ?_
        obtain ⟨r_4, v_3, hq110, h⟩ := zbind_ex h
        refine z_callSi F [.int x2, .int x4] [] (kX10_more x.2.1 G x2 x4 v r_4 v_3 hq110) mI_X10_more wM_X10_287 ms_X10_more dX10_skip_110 rfl ⟨Nat.le_of_ble_eq_true rfl, Nat.le_of_ble_eq_true rfl⟩ rfl (Nat.le_of_ble_eq_true rfl) ⟨Nat.zero_le _, Nat.zero_le _⟩ ?_
        refine z_istore_n F [(2, .int r_4), (0, zr G x0), (1, .int x1), (3, .int x3), (4, .int x4), (5, .int x5)] dX10_skip_113 rfl (Nat.le_of_ble_eq_true rfl) rfl ?_
        refine z_iinc F [(3, .int (x3 + (1 : Int32))), (2, .int r_4), (0, zr G x0), (1, .int x1), (4, .int x4), (5, .int x5)] dX10_skip_114 3 rfl rfl (Nat.le_of_ble_eq_true rfl) rfl ?_
        refine z_goto F 33 dX10_skip_117 rfl ?_
        refine z_ls [(0, zr G x0), (1, .int x1), (2, .int r_4), (3, .int (x3 + (1 : Int32)))] [2, 3, 1, 0] rfl ?_
        exact hK33 x0 t0 x1 r_4 (x3 + (1 : Int32)) v_3 h
      · replace h := zif_t hc h
        refine z_iinc F [(4, .int (x4 + (1 : Int32))), (0, zr G x0), (1, .int x1), (2, .int x2), (3, .int x3), (5, .int x5)] dX10_skip_98 4 rfl rfl (Nat.le_of_ble_eq_true rfl) rfl ?_
        refine z_iinc F [(5, .int (x5 + (2 : Int32))), (4, .int (x4 + (1 : Int32))), (0, zr G x0), (1, .int x1), (2, .int x2), (3, .int x3)] dX10_skip_101 5 rfl rfl (Nat.le_of_ble_eq_true rfl) rfl ?_
        refine z_goto F 50 dX10_skip_104 rfl ?_
        refine z_ls [(0, zr G x0), (1, .int x1), (2, .int x2), (3, .int x3), (4, .int (x4 + (1 : Int32))), (5, .int (x5 + (2 : Int32)))] [2, 3, 4, 5, 1, 0] rfl ?_
        exact ih x0 t0 x1 x2 x3 (x4 + (1 : Int32)) (x5 + (2 : Int32)) v h

def fX10_skip_33  : Nat → Nat → Int32 → Int32 → Int32 → zV → Option (Int32 × zV)
  | 0 => fun _ _ _ _ _ => none
  | n + 1 => fun x0 x1 x2 x3 v =>
    zix (61 : Int32) (zlen (zrf x0 35)) <|
    if (v (zrf x0 35) ((61 : Int32)).toNatClampNeg) ≤ x3 then
      some (x2, v)
    else
      fX10_skip_50 (fX10_skip_33 n) zFU x0 x1 x2 x3 (0 : Int32) x3 v
set_option maxRecDepth 4000 in
theorem jX10_skip_33 (x : zCx) (G : zG) (F : zF x G cX10_skip 6 RX10 3 123) (hr : x.2.2.2.2.2.2.2.2.1.sig.returnType = (Option.some FieldType.int)) (hk : x.2.2.2.2.2.2.2.2.1.locks = false) (r : Int32) (w : zV)  : ∀ (n : Nat) (x0 : Nat) (t0 : zty G x0 1 10) (x1 : Int32) (x2 : Int32) (x3 : Int32) (v : zV), fX10_skip_33 n x0 x1 x2 x3 v = some (r, w) → zJ x G 6 (zQ x G (some (.int r)) w 0 0) 0 0 33 [(0, zr G x0), (1, .int x1), (2, .int x2), (3, .int x3)] [] v := by
  intro n
  induction n with
  | zero => intro x0 t0 x1 x2 x3 v h; exact absurd h (by intro q; cases q)
  | succ n ih =>
    intro x0 t0 x1 x2 x3 v h
    rw [fX10_skip_33] at h
    dsimp only at h
    refine z_iload_n F dX10_skip_33 rfl 3 rfl ?_
    refine z_aload_n F dX10_skip_34 rfl 0 rfl ?_
    refine zg_10_35 F t0 wF_X10_85 dX10_skip_35 ?_
    refine z_bipush (y := (61 : Int32)) F dX10_skip_38 rfl ?_
    obtain ⟨hi40, h⟩ := zix_ex h
    refine z_iald F (zt_f tc_10_35 t0) dX10_skip_40 hi40 ?_
    refine z_icmp_ge F 120 dX10_skip_41 rfl (fun hc => ?_) (fun hc => ?_)
    · replace h := zif_t hc h
      refine z_iload_n F dX10_skip_120 rfl 2 rfl ?_
      cases h
      exact z_reti F hr hk dX10_skip_121
    · replace h := zif_f hc h
      refine z_iconst (y := (0 : Int32)) F dX10_skip_44 rfl ?_
      refine z_istore (n := 0) F [(4, .int (0 : Int32)), (0, zr G x0), (1, .int x1), (2, .int x2), (3, .int x3)] dX10_skip_45 (Nat.le_of_ble_eq_true rfl) rfl ?_
      refine z_iload_n F dX10_skip_47 rfl 4 rfl ?_
      refine z_istore (n := 0) F [(5, .int x3), (4, .int (0 : Int32)), (0, zr G x0), (1, .int x1), (2, .int x2), (3, .int x3)] dX10_skip_48 (Nat.le_of_ble_eq_true rfl) rfl ?_
      refine z_ls [(0, zr G x0), (1, .int x1), (2, .int x2), (3, .int x3), (4, .int (0 : Int32)), (5, .int x3)] [2, 3, 4, 5, 1, 0] rfl ?_
      exact jX10_skip_50 x G F hr hk r w (fX10_skip_33 n) ih zFU x0 t0 x1 x2 x3 (0 : Int32) x3 v h

def fX10_skip (x0 : Nat) (x1 : Int32) (v : zV) : Option (Int32 × zV) :=
  zlet (zup v x0 0 (0 : Int32)) fun v_1 =>
  zbind (fX10_isQuestion x0 x1 v_1) fun r_3 v_2 =>
  if r_3 = (0 : Int32) then
    zbind (fX10_bad x0 (1 : Int32) (1 : Int32) (0 : Int32) v_2) fun r_7 v_6 =>
    if r_7 = (0 : Int32) then
      fX10_skip_33  zFU x0 x1 (0 : Int32) (0 : Int32) v_6
    else
      some ((0 : Int32), v_6)
  else
    zbind (fX10_bad x0 (0 : Int32) (1 : Int32) (0 : Int32) v_2) fun r_5 v_4 =>
    if r_5 = (0 : Int32) then
      fX10_skip_33  zFU x0 x1 (0 : Int32) (0 : Int32) v_4
    else
      some ((0 : Int32), v_4)
set_option maxRecDepth 4000 in
theorem kX10_skip (l : Launch) (G : zG) (x0 : Nat) (t0 : zty G x0 1 10) (x1 : Int32) (v : zV) (r : Int32) (w : zV) (h : fX10_skip x0 x1 v = some (r, w)) : zMet l yX10_skip cX10_skip 6 (Option.some FieldType.int) 3 123 0 0 [zr G x0, .int x1] G v (some (.int r)) w := by
  refine zM_of (own := RX10) (by decide) rfl (Nat.le_of_ble_eq_true rfl) (fun x hl F hr hk hcs => ?_)
  subst hl
  refine z_ls [(0, zr G x0), (1, .int x1)] [0, 1] rfl ?_
  unfold fX10_skip at h
  refine z_aload_n F dX10_skip_0 rfl 0 rfl ?_
  refine z_iconst (y := (0 : Int32)) F dX10_skip_1 rfl ?_
  refine zp_10_0 F t0 wF_X10_134 dX10_skip_2 ?_
  obtain ⟨v_1, ev_1, h⟩ := zlet_ex h
  refine z_heap ev_1 ?_
  refine z_aload_n F dX10_skip_5 rfl 0 rfl ?_
  refine z_aload_n F dX10_skip_6 rfl 0 rfl ?_
  refine z_iload_n F dX10_skip_7 rfl 1 rfl ?_
  obtain ⟨r_3, v_2, hq8, h⟩ := zbind_ex h
  refine z_callVi F [.int x1] [zr G x0] (kX10_isQuestion x.2.1 G x0 t0 x1 v_1 r_3 v_2 hq8) mI_X10_isQuestion (c := 10) rfl t0 wM_X10_304 mi_X10_isQuestion sl_X10_isQuestion dX10_skip_8 rfl ⟨Nat.le_of_ble_eq_true rfl, Nat.le_of_ble_eq_true rfl⟩ rfl (Nat.le_of_ble_eq_true rfl) ⟨Nat.zero_le _, Nat.zero_le _⟩ ?_
  refine z_if_ne F 18 dX10_skip_11 rfl (fun hc => ?_) (fun hc => ?_)
  · replace h := zif_f hc h
    refine z_iconst (y := (0 : Int32)) F dX10_skip_18 rfl ?_
    refine z_iconst (y := (1 : Int32)) F dX10_skip_19 rfl ?_
    refine z_iconst (y := (0 : Int32)) F dX10_skip_20 rfl ?_
    obtain ⟨r_5, v_4, hq21, h⟩ := zbind_ex h
    refine z_callVi F [.int (0 : Int32), .int (1 : Int32), .int (0 : Int32)] [] (kX10_bad x.2.1 G x0 t0 (0 : Int32) (1 : Int32) (0 : Int32) v_2 r_5 v_4 hq21) mI_X10_bad (c := 10) rfl t0 wM_X10_220 mi_X10_bad sl_X10_bad dX10_skip_21 rfl ⟨Nat.le_of_ble_eq_true rfl, Nat.le_of_ble_eq_true rfl⟩ rfl (Nat.le_of_ble_eq_true rfl) ⟨Nat.zero_le _, Nat.zero_le _⟩ ?_
    refine z_if_eq F 29 dX10_skip_24 rfl (fun hc => ?_) (fun hc => ?_)
    · replace h := zif_t hc h
      refine z_iconst (y := (0 : Int32)) F dX10_skip_29 rfl ?_
      refine z_istore_n F [(2, .int (0 : Int32)), (0, zr G x0), (1, .int x1)] dX10_skip_30 rfl (Nat.le_of_ble_eq_true rfl) rfl ?_
      refine z_iconst (y := (0 : Int32)) F dX10_skip_31 rfl ?_
      refine z_istore_n F [(3, .int (0 : Int32)), (2, .int (0 : Int32)), (0, zr G x0), (1, .int x1)] dX10_skip_32 rfl (Nat.le_of_ble_eq_true rfl) rfl ?_
      refine z_ls [(0, zr G x0), (1, .int x1), (2, .int (0 : Int32)), (3, .int (0 : Int32))] [2, 3, 1, 0] rfl ?_
      exact jX10_skip_33 x G F hr hk r w   zFU x0 t0 x1 (0 : Int32) (0 : Int32) v_4 h
    · replace h := zif_f hc h
      refine z_iconst (y := (0 : Int32)) F dX10_skip_27 rfl ?_
      cases h
      exact z_reti F hr hk dX10_skip_28
  · replace h := zif_t hc h
    refine z_iconst (y := (1 : Int32)) F dX10_skip_14 rfl ?_
    refine z_goto F 19 dX10_skip_15 rfl ?_
    refine z_iconst (y := (1 : Int32)) F dX10_skip_19 rfl ?_
    refine z_iconst (y := (0 : Int32)) F dX10_skip_20 rfl ?_
    obtain ⟨r_7, v_6, hq21, h⟩ := zbind_ex h
    refine z_callVi F [.int (1 : Int32), .int (1 : Int32), .int (0 : Int32)] [] (kX10_bad x.2.1 G x0 t0 (1 : Int32) (1 : Int32) (0 : Int32) v_2 r_7 v_6 hq21) mI_X10_bad (c := 10) rfl t0 wM_X10_220 mi_X10_bad sl_X10_bad dX10_skip_21 rfl ⟨Nat.le_of_ble_eq_true rfl, Nat.le_of_ble_eq_true rfl⟩ rfl (Nat.le_of_ble_eq_true rfl) ⟨Nat.zero_le _, Nat.zero_le _⟩ ?_
    refine z_if_eq F 29 dX10_skip_24 rfl (fun hc => ?_) (fun hc => ?_)
    · replace h := zif_t hc h
      refine z_iconst (y := (0 : Int32)) F dX10_skip_29 rfl ?_
      refine z_istore_n F [(2, .int (0 : Int32)), (0, zr G x0), (1, .int x1)] dX10_skip_30 rfl (Nat.le_of_ble_eq_true rfl) rfl ?_
      refine z_iconst (y := (0 : Int32)) F dX10_skip_31 rfl ?_
      refine z_istore_n F [(3, .int (0 : Int32)), (2, .int (0 : Int32)), (0, zr G x0), (1, .int x1)] dX10_skip_32 rfl (Nat.le_of_ble_eq_true rfl) rfl ?_
      refine z_ls [(0, zr G x0), (1, .int x1), (2, .int (0 : Int32)), (3, .int (0 : Int32))] [2, 3, 1, 0] rfl ?_
      exact jX10_skip_33 x G F hr hk r w   zFU x0 t0 x1 (0 : Int32) (0 : Int32) v_6 h
    · replace h := zif_f hc h
      refine z_iconst (y := (0 : Int32)) F dX10_skip_27 rfl ?_
      cases h
      exact z_reti F hr hk dX10_skip_28

theorem dX10_middle_0 : decode cX10_middle 0 = .ok (.aload_n 0, 1) := by decide +kernel
theorem dX10_middle_1 : decode cX10_middle 1 = .ok (.iconst 0, 1) := by decide +kernel
theorem dX10_middle_2 : decode cX10_middle 2 = .ok (.putfield 134, 3) := by decide +kernel
theorem dX10_middle_5 : decode cX10_middle 5 = .ok (.iconst (-1), 1) := by decide +kernel
theorem dX10_middle_6 : decode cX10_middle 6 = .ok (.istore_n 1, 1) := by decide +kernel
theorem dX10_middle_7 : decode cX10_middle 7 = .ok (.iconst 0, 1) := by decide +kernel
theorem dX10_middle_8 : decode cX10_middle 8 = .ok (.istore_n 2, 1) := by decide +kernel
theorem dX10_middle_9 : decode cX10_middle 9 = .ok (.iconst 0, 1) := by decide +kernel
theorem dX10_middle_10 : decode cX10_middle 10 = .ok (.istore_n 3, 1) := by decide +kernel
theorem dX10_middle_11 : decode cX10_middle 11 = .ok (.iload_n 3, 1) := by decide +kernel
theorem dX10_middle_12 : decode cX10_middle 12 = .ok (.aload_n 0, 1) := by decide +kernel
theorem dX10_middle_13 : decode cX10_middle 13 = .ok (.getfield 85, 3) := by decide +kernel
theorem dX10_middle_16 : decode cX10_middle 16 = .ok (.bipush 61, 2) := by decide +kernel
theorem dX10_middle_18 : decode cX10_middle 18 = .ok (.iaload, 1) := by decide +kernel
theorem dX10_middle_19 : decode cX10_middle 19 = .ok (.if_icmp .ge 88, 3) := by decide +kernel
theorem dX10_middle_22 : decode cX10_middle 22 = .ok (.iconst 0, 1) := by decide +kernel
theorem dX10_middle_23 : decode cX10_middle 23 = .ok (.istore 4, 2) := by decide +kernel
theorem dX10_middle_25 : decode cX10_middle 25 = .ok (.iconst 0, 1) := by decide +kernel
theorem dX10_middle_26 : decode cX10_middle 26 = .ok (.istore 5, 2) := by decide +kernel
theorem dX10_middle_28 : decode cX10_middle 28 = .ok (.iload 5, 2) := by decide +kernel
theorem dX10_middle_30 : decode cX10_middle 30 = .ok (.aload_n 0, 1) := by decide +kernel
theorem dX10_middle_31 : decode cX10_middle 31 = .ok (.getfield 85, 3) := by decide +kernel
theorem dX10_middle_34 : decode cX10_middle 34 = .ok (.bipush 61, 2) := by decide +kernel
theorem dX10_middle_36 : decode cX10_middle 36 = .ok (.iaload, 1) := by decide +kernel
theorem dX10_middle_37 : decode cX10_middle 37 = .ok (.if_icmp .ge 37, 3) := by decide +kernel
theorem dX10_middle_40 : decode cX10_middle 40 = .ok (.iload 4, 2) := by decide +kernel
theorem dX10_middle_42 : decode cX10_middle 42 = .ok (.aload_n 0, 1) := by decide +kernel
theorem dX10_middle_43 : decode cX10_middle 43 = .ok (.aload_n 0, 1) := by decide +kernel
theorem dX10_middle_44 : decode cX10_middle 44 = .ok (.getfield 85, 3) := by decide +kernel
theorem dX10_middle_47 : decode cX10_middle 47 = .ok (.bipush 48, 2) := by decide +kernel
theorem dX10_middle_49 : decode cX10_middle 49 = .ok (.iload_n 3, 1) := by decide +kernel
theorem dX10_middle_50 : decode cX10_middle 50 = .ok (.iadd, 1) := by decide +kernel
theorem dX10_middle_51 : decode cX10_middle 51 = .ok (.iaload, 1) := by decide +kernel
theorem dX10_middle_52 : decode cX10_middle 52 = .ok (.aload_n 0, 1) := by decide +kernel
theorem dX10_middle_53 : decode cX10_middle 53 = .ok (.getfield 85, 3) := by decide +kernel
theorem dX10_middle_56 : decode cX10_middle 56 = .ok (.bipush 48, 2) := by decide +kernel
theorem dX10_middle_58 : decode cX10_middle 58 = .ok (.iload 5, 2) := by decide +kernel
theorem dX10_middle_60 : decode cX10_middle 60 = .ok (.iadd, 1) := by decide +kernel
theorem dX10_middle_61 : decode cX10_middle 61 = .ok (.iaload, 1) := by decide +kernel
theorem dX10_middle_62 : decode cX10_middle 62 = .ok (.invokevirtual 307, 3) := by decide +kernel
theorem dX10_middle_65 : decode cX10_middle 65 = .ok (.iadd, 1) := by decide +kernel
theorem dX10_middle_66 : decode cX10_middle 66 = .ok (.istore 4, 2) := by decide +kernel
theorem dX10_middle_68 : decode cX10_middle 68 = .ok (.iinc 5 1, 3) := by decide +kernel
theorem dX10_middle_71 : decode cX10_middle 71 = .ok (.goto (-43), 3) := by decide +kernel
theorem dX10_middle_74 : decode cX10_middle 74 = .ok (.iload_n 1, 1) := by decide +kernel
theorem dX10_middle_75 : decode cX10_middle 75 = .ok (.iconst (-1), 1) := by decide +kernel
theorem dX10_middle_76 : decode cX10_middle 76 = .ok (.if_icmp .eq 12, 3) := by decide +kernel
theorem dX10_middle_79 : decode cX10_middle 79 = .ok (.iload 4, 2) := by decide +kernel
theorem dX10_middle_81 : decode cX10_middle 81 = .ok (.iload_n 2, 1) := by decide +kernel
theorem dX10_middle_82 : decode cX10_middle 82 = .ok (.if_icmp .lt 6, 3) := by decide +kernel
theorem dX10_middle_85 : decode cX10_middle 85 = .ok (.goto 16, 3) := by decide +kernel
theorem dX10_middle_88 : decode cX10_middle 88 = .ok (.aload_n 0, 1) := by decide +kernel
theorem dX10_middle_89 : decode cX10_middle 89 = .ok (.getfield 85, 3) := by decide +kernel
theorem dX10_middle_92 : decode cX10_middle 92 = .ok (.bipush 48, 2) := by decide +kernel
theorem dX10_middle_94 : decode cX10_middle 94 = .ok (.iload_n 3, 1) := by decide +kernel
theorem dX10_middle_95 : decode cX10_middle 95 = .ok (.iadd, 1) := by decide +kernel
theorem dX10_middle_96 : decode cX10_middle 96 = .ok (.iaload, 1) := by decide +kernel
theorem dX10_middle_97 : decode cX10_middle 97 = .ok (.istore_n 1, 1) := by decide +kernel
theorem dX10_middle_98 : decode cX10_middle 98 = .ok (.iload 4, 2) := by decide +kernel
theorem dX10_middle_100 : decode cX10_middle 100 = .ok (.istore_n 2, 1) := by decide +kernel
theorem dX10_middle_101 : decode cX10_middle 101 = .ok (.iinc 3 1, 3) := by decide +kernel
theorem dX10_middle_104 : decode cX10_middle 104 = .ok (.goto (-93), 3) := by decide +kernel
theorem dX10_middle_107 : decode cX10_middle 107 = .ok (.iload_n 1, 1) := by decide +kernel
theorem dX10_middle_108 : decode cX10_middle 108 = .ok (.ireturn, 1) := by decide +kernel
def fX10_middle_74 (K11 : Nat → Int32 → Int32 → Int32 → zV → Option (Int32 × zV)) (x0 : Nat) (x1 : Int32) (x2 : Int32) (x3 : Int32) (x4 : Int32) (v : zV) : Option (Int32 × zV) :=
  if x1 = (-1 : Int32) then
    zix ((48 : Int32) + x3) (zlen (zrf x0 35)) <|
    K11 x0 (v (zrf x0 35) ((48 : Int32) + x3).toNatClampNeg) x4 (x3 + (1 : Int32)) v
  else
    if x4 < x2 then
      zix ((48 : Int32) + x3) (zlen (zrf x0 35)) <|
      K11 x0 (v (zrf x0 35) ((48 : Int32) + x3).toNatClampNeg) x4 (x3 + (1 : Int32)) v
    else
      K11 x0 x1 x2 (x3 + (1 : Int32)) v
set_option maxRecDepth 4000 in
theorem jX10_middle_74 (x : zCx) (G : zG) (F : zF x G cX10_middle 6 RX10 2 104) (hr : x.2.2.2.2.2.2.2.2.1.sig.returnType = (Option.some FieldType.int)) (hk : x.2.2.2.2.2.2.2.2.1.locks = false) (r : Int32) (w : zV) (K11 : Nat → Int32 → Int32 → Int32 → zV → Option (Int32 × zV)) (hK11 : ∀ (x0 : Nat) (t0 : zty G x0 1 10) (x1 : Int32) (x2 : Int32) (x3 : Int32) (v : zV), K11 x0 x1 x2 x3 v = some (r, w) → zJ x G 6 (zQ x G (some (.int r)) w 0 0) 0 0 11 [(0, zr G x0), (1, .int x1), (2, .int x2), (3, .int x3)] [] v) : ∀ (x0 : Nat) (t0 : zty G x0 1 10) (x1 : Int32) (x2 : Int32) (x3 : Int32) (x4 : Int32) (v : zV), fX10_middle_74 K11 x0 x1 x2 x3 x4 v = some (r, w) → zJ x G 6 (zQ x G (some (.int r)) w 0 0) 0 0 74 [(0, zr G x0), (1, .int x1), (2, .int x2), (3, .int x3), (4, .int x4)] [] v := by
  intro x0 t0 x1 x2 x3 x4 v h
  unfold fX10_middle_74 at h
  refine z_iload_n F dX10_middle_74 rfl 1 rfl ?_
  refine z_iconst (y := (-1 : Int32)) F dX10_middle_75 rfl ?_
  refine z_icmp_eq F 88 dX10_middle_76 rfl (fun hc => ?_) (fun hc => ?_)
  · replace h := zif_t hc h
    refine z_aload_n F dX10_middle_88 rfl 0 rfl ?_
    refine zg_10_35 F t0 wF_X10_85 dX10_middle_89 ?_
    refine z_bipush (y := (48 : Int32)) F dX10_middle_92 rfl ?_
    refine z_iload_n F dX10_middle_94 rfl 3 rfl ?_
    refine z_iadd F dX10_middle_95 ?_
    obtain ⟨hi96, h⟩ := zix_ex h
    refine z_iald F (zt_f tc_10_35 t0) dX10_middle_96 hi96 ?_
    refine z_istore_n F [(1, .int (v (zrf x0 35) ((48 : Int32) + x3).toNatClampNeg)), (0, zr G x0), (2, .int x2), (3, .int x3), (4, .int x4)] dX10_middle_97 rfl (Nat.le_of_ble_eq_true rfl) rfl ?_
    refine z_iload F dX10_middle_98 4 rfl ?_
    refine z_istore_n F [(2, .int x4), (1, .int (v (zrf x0 35) ((48 : Int32) + x3).toNatClampNeg)), (0, zr G x0), (3, .int x3), (4, .int x4)] dX10_middle_100 rfl (Nat.le_of_ble_eq_true rfl) rfl ?_
    refine z_iinc F [(3, .int (x3 + (1 : Int32))), (2, .int x4), (1, .int (v (zrf x0 35) ((48 : Int32) + x3).toNatClampNeg)), (0, zr G x0), (4, .int x4)] dX10_middle_101 3 rfl rfl (Nat.le_of_ble_eq_true rfl) rfl ?_
    refine z_goto F 11 dX10_middle_104 rfl ?_
    refine z_ls [(0, zr G x0), (1, .int (v (zrf x0 35) ((48 : Int32) + x3).toNatClampNeg)), (2, .int x4), (3, .int (x3 + (1 : Int32)))] [3, 2, 1, 0] rfl ?_
    exact hK11 x0 t0 (v (zrf x0 35) ((48 : Int32) + x3).toNatClampNeg) x4 (x3 + (1 : Int32)) v h
  · replace h := zif_f hc h
    refine z_iload F dX10_middle_79 4 rfl ?_
    refine z_iload_n F dX10_middle_81 rfl 2 rfl ?_
    refine z_icmp_lt F 88 dX10_middle_82 rfl (fun hc => ?_) (fun hc => ?_)
    · replace h := zif_t hc h
      refine z_aload_n F dX10_middle_88 rfl 0 rfl ?_
      refine zg_10_35 F t0 wF_X10_85 dX10_middle_89 ?_
      refine z_bipush (y := (48 : Int32)) F dX10_middle_92 rfl ?_
      refine z_iload_n F dX10_middle_94 rfl 3 rfl ?_
      refine z_iadd F dX10_middle_95 ?_
      obtain ⟨hi96, h⟩ := zix_ex h
      refine z_iald F (zt_f tc_10_35 t0) dX10_middle_96 hi96 ?_
      refine z_istore_n F [(1, .int (v (zrf x0 35) ((48 : Int32) + x3).toNatClampNeg)), (0, zr G x0), (2, .int x2), (3, .int x3), (4, .int x4)] dX10_middle_97 rfl (Nat.le_of_ble_eq_true rfl) rfl ?_
      refine z_iload F dX10_middle_98 4 rfl ?_
      refine z_istore_n F [(2, .int x4), (1, .int (v (zrf x0 35) ((48 : Int32) + x3).toNatClampNeg)), (0, zr G x0), (3, .int x3), (4, .int x4)] dX10_middle_100 rfl (Nat.le_of_ble_eq_true rfl) rfl ?_
      refine z_iinc F [(3, .int (x3 + (1 : Int32))), (2, .int x4), (1, .int (v (zrf x0 35) ((48 : Int32) + x3).toNatClampNeg)), (0, zr G x0), (4, .int x4)] dX10_middle_101 3 rfl rfl (Nat.le_of_ble_eq_true rfl) rfl ?_
      refine z_goto F 11 dX10_middle_104 rfl ?_
      refine z_ls [(0, zr G x0), (1, .int (v (zrf x0 35) ((48 : Int32) + x3).toNatClampNeg)), (2, .int x4), (3, .int (x3 + (1 : Int32)))] [3, 2, 1, 0] rfl ?_
      exact hK11 x0 t0 (v (zrf x0 35) ((48 : Int32) + x3).toNatClampNeg) x4 (x3 + (1 : Int32)) v h
    · replace h := zif_f hc h
      refine z_goto F 101 dX10_middle_85 rfl ?_
      refine z_iinc F [(3, .int (x3 + (1 : Int32))), (0, zr G x0), (1, .int x1), (2, .int x2), (4, .int x4)] dX10_middle_101 3 rfl rfl (Nat.le_of_ble_eq_true rfl) rfl ?_
      refine z_goto F 11 dX10_middle_104 rfl ?_
      refine z_ls [(0, zr G x0), (1, .int x1), (2, .int x2), (3, .int (x3 + (1 : Int32)))] [1, 2, 3, 0] rfl ?_
      exact hK11 x0 t0 x1 x2 (x3 + (1 : Int32)) v h

def fX10_middle_28 (K11 : Nat → Int32 → Int32 → Int32 → zV → Option (Int32 × zV)) : Nat → Nat → Int32 → Int32 → Int32 → Int32 → Int32 → zV → Option (Int32 × zV)
  | 0 => fun _ _ _ _ _ _ _ => none
  | n + 1 => fun x0 x1 x2 x3 x4 x5 v =>
    zix (61 : Int32) (zlen (zrf x0 35)) <|
    if (v (zrf x0 35) ((61 : Int32)).toNatClampNeg) ≤ x5 then
      fX10_middle_74 K11 x0 x1 x2 x3 x4 v
    else
      zix ((48 : Int32) + x3) (zlen (zrf x0 35)) <|
      zix ((48 : Int32) + x5) (zlen (zrf x0 35)) <|
      zbind (fX10_differsOf x0 (v (zrf x0 35) ((48 : Int32) + x3).toNatClampNeg) (v (zrf x0 35) ((48 : Int32) + x5).toNatClampNeg) v) fun r_2 v_1 =>
      (fX10_middle_28 K11 n) x0 x1 x2 x3 (x4 + r_2) (x5 + (1 : Int32)) v_1
set_option maxRecDepth 4000 in
theorem jX10_middle_28 (x : zCx) (G : zG) (F : zF x G cX10_middle 6 RX10 2 104) (hr : x.2.2.2.2.2.2.2.2.1.sig.returnType = (Option.some FieldType.int)) (hk : x.2.2.2.2.2.2.2.2.1.locks = false) (r : Int32) (w : zV) (K11 : Nat → Int32 → Int32 → Int32 → zV → Option (Int32 × zV)) (hK11 : ∀ (x0 : Nat) (t0 : zty G x0 1 10) (x1 : Int32) (x2 : Int32) (x3 : Int32) (v : zV), K11 x0 x1 x2 x3 v = some (r, w) → zJ x G 6 (zQ x G (some (.int r)) w 0 0) 0 0 11 [(0, zr G x0), (1, .int x1), (2, .int x2), (3, .int x3)] [] v) : ∀ (n : Nat) (x0 : Nat) (t0 : zty G x0 1 10) (x1 : Int32) (x2 : Int32) (x3 : Int32) (x4 : Int32) (x5 : Int32) (v : zV), fX10_middle_28 K11 n x0 x1 x2 x3 x4 x5 v = some (r, w) → zJ x G 6 (zQ x G (some (.int r)) w 0 0) 0 0 28 [(0, zr G x0), (1, .int x1), (2, .int x2), (3, .int x3), (4, .int x4), (5, .int x5)] [] v := by
  intro n
  induction n with
  | zero => intro x0 t0 x1 x2 x3 x4 x5 v h; exact absurd h (by intro q; cases q)
  | succ n ih =>
    intro x0 t0 x1 x2 x3 x4 x5 v h
    rw [fX10_middle_28] at h
    dsimp only at h
    refine z_iload F dX10_middle_28 5 rfl ?_
    refine z_aload_n F dX10_middle_30 rfl 0 rfl ?_
    refine zg_10_35 F t0 wF_X10_85 dX10_middle_31 ?_
    refine z_bipush (y := (61 : Int32)) F dX10_middle_34 rfl ?_
    obtain ⟨hi36, h⟩ := zix_ex h
    refine z_iald F (zt_f tc_10_35 t0) dX10_middle_36 hi36 ?_
    refine z_icmp_ge F 74 dX10_middle_37 rfl (fun hc => ?_) (fun hc => ?_)
    · replace h := zif_t hc h
      refine z_ls [(0, zr G x0), (1, .int x1), (2, .int x2), (3, .int x3), (4, .int x4)] [0, 1, 2, 3, 4] rfl ?_
      exact jX10_middle_74 x G F hr hk r w K11 hK11 x0 t0 x1 x2 x3 x4 v h
    · replace h := zif_f hc h
      refine z_iload F dX10_middle_40 4 rfl ?_
      refine z_aload_n F dX10_middle_42 rfl 0 rfl ?_
      refine z_aload_n F dX10_middle_43 rfl 0 rfl ?_
      refine zg_10_35 F t0 wF_X10_85 dX10_middle_44 ?_
      refine z_bipush (y := (48 : Int32)) F dX10_middle_47 rfl ?_
      refine z_iload_n F dX10_middle_49 rfl 3 rfl ?_
      refine z_iadd F dX10_middle_50 ?_
      obtain ⟨hi51, h⟩ := zix_ex h
      refine z_iald F (zt_f tc_10_35 t0) dX10_middle_51 hi51 ?_
      refine z_aload_n F dX10_middle_52 rfl 0 rfl ?_
      refine zg_10_35 F t0 wF_X10_85 dX10_middle_53 ?_
      refine z_bipush (y := (48 : Int32)) F dX10_middle_56 rfl ?_
      refine z_iload F dX10_middle_58 5 rfl ?_
      refine z_iadd F dX10_middle_60 ?_
      obtain ⟨hi61, h⟩ := zix_ex h
      refine z_iald F (zt_f tc_10_35 t0) dX10_middle_61 hi61 ?_
      obtain ⟨r_2, v_1, hq62, h⟩ := zbind_ex h
      refine z_callVi F [.int (v (zrf x0 35) ((48 : Int32) + x3).toNatClampNeg), .int (v (zrf x0 35) ((48 : Int32) + x5).toNatClampNeg)] [.int x4] (kX10_differsOf x.2.1 G x0 t0 (v (zrf x0 35) ((48 : Int32) + x3).toNatClampNeg) (v (zrf x0 35) ((48 : Int32) + x5).toNatClampNeg) v r_2 v_1 hq62) mI_X10_differsOf (c := 10) rfl t0 wM_X10_307 mi_X10_differsOf sl_X10_differsOf dX10_middle_62 rfl ⟨Nat.le_of_ble_eq_true rfl, Nat.le_of_ble_eq_true rfl⟩ rfl (Nat.le_of_ble_eq_true rfl) ⟨Nat.zero_le _, Nat.zero_le _⟩ ?_
      refine z_iadd F dX10_middle_65 ?_
      refine z_istore (n := 0) F [(4, .int (x4 + r_2)), (0, zr G x0), (1, .int x1), (2, .int x2), (3, .int x3), (5, .int x5)] dX10_middle_66 (Nat.le_of_ble_eq_true rfl) rfl ?_
      refine z_iinc F [(5, .int (x5 + (1 : Int32))), (4, .int (x4 + r_2)), (0, zr G x0), (1, .int x1), (2, .int x2), (3, .int x3)] dX10_middle_68 5 rfl rfl (Nat.le_of_ble_eq_true rfl) rfl ?_
      refine z_goto F 28 dX10_middle_71 rfl ?_
      refine z_ls [(0, zr G x0), (1, .int x1), (2, .int x2), (3, .int x3), (4, .int (x4 + r_2)), (5, .int (x5 + (1 : Int32)))] [2, 3, 4, 5, 1, 0] rfl ?_
      exact ih x0 t0 x1 x2 x3 (x4 + r_2) (x5 + (1 : Int32)) v_1 h

def fX10_middle_11  : Nat → Nat → Int32 → Int32 → Int32 → zV → Option (Int32 × zV)
  | 0 => fun _ _ _ _ _ => none
  | n + 1 => fun x0 x1 x2 x3 v =>
    zix (61 : Int32) (zlen (zrf x0 35)) <|
    if (v (zrf x0 35) ((61 : Int32)).toNatClampNeg) ≤ x3 then
      some (x1, v)
    else
      fX10_middle_28 (fX10_middle_11 n) zFU x0 x1 x2 x3 (0 : Int32) (0 : Int32) v
set_option maxRecDepth 4000 in
theorem jX10_middle_11 (x : zCx) (G : zG) (F : zF x G cX10_middle 6 RX10 2 104) (hr : x.2.2.2.2.2.2.2.2.1.sig.returnType = (Option.some FieldType.int)) (hk : x.2.2.2.2.2.2.2.2.1.locks = false) (r : Int32) (w : zV)  : ∀ (n : Nat) (x0 : Nat) (t0 : zty G x0 1 10) (x1 : Int32) (x2 : Int32) (x3 : Int32) (v : zV), fX10_middle_11 n x0 x1 x2 x3 v = some (r, w) → zJ x G 6 (zQ x G (some (.int r)) w 0 0) 0 0 11 [(0, zr G x0), (1, .int x1), (2, .int x2), (3, .int x3)] [] v := by
  intro n
  induction n with
  | zero => intro x0 t0 x1 x2 x3 v h; exact absurd h (by intro q; cases q)
  | succ n ih =>
    intro x0 t0 x1 x2 x3 v h
    rw [fX10_middle_11] at h
    dsimp only at h
    refine z_iload_n F dX10_middle_11 rfl 3 rfl ?_
    refine z_aload_n F dX10_middle_12 rfl 0 rfl ?_
    refine zg_10_35 F t0 wF_X10_85 dX10_middle_13 ?_
    refine z_bipush (y := (61 : Int32)) F dX10_middle_16 rfl ?_
    obtain ⟨hi18, h⟩ := zix_ex h
    refine z_iald F (zt_f tc_10_35 t0) dX10_middle_18 hi18 ?_
    refine z_icmp_ge F 107 dX10_middle_19 rfl (fun hc => ?_) (fun hc => ?_)
    · replace h := zif_t hc h
      refine z_iload_n F dX10_middle_107 rfl 1 rfl ?_
      cases h
      exact z_reti F hr hk dX10_middle_108
    · replace h := zif_f hc h
      refine z_iconst (y := (0 : Int32)) F dX10_middle_22 rfl ?_
      refine z_istore (n := 0) F [(4, .int (0 : Int32)), (0, zr G x0), (1, .int x1), (2, .int x2), (3, .int x3)] dX10_middle_23 (Nat.le_of_ble_eq_true rfl) rfl ?_
      refine z_iconst (y := (0 : Int32)) F dX10_middle_25 rfl ?_
      refine z_istore (n := 0) F [(5, .int (0 : Int32)), (4, .int (0 : Int32)), (0, zr G x0), (1, .int x1), (2, .int x2), (3, .int x3)] dX10_middle_26 (Nat.le_of_ble_eq_true rfl) rfl ?_
      refine z_ls [(0, zr G x0), (1, .int x1), (2, .int x2), (3, .int x3), (4, .int (0 : Int32)), (5, .int (0 : Int32))] [2, 3, 4, 5, 1, 0] rfl ?_
      exact jX10_middle_28 x G F hr hk r w (fX10_middle_11 n) ih zFU x0 t0 x1 x2 x3 (0 : Int32) (0 : Int32) v h

def fX10_middle (x0 : Nat) (v : zV) : Option (Int32 × zV) :=
  zlet (zup v x0 0 (0 : Int32)) fun v_1 =>
  fX10_middle_11  zFU x0 (-1 : Int32) (0 : Int32) (0 : Int32) v_1
set_option maxRecDepth 4000 in
theorem kX10_middle (l : Launch) (G : zG) (x0 : Nat) (t0 : zty G x0 1 10) (v : zV) (r : Int32) (w : zV) (h : fX10_middle x0 v = some (r, w)) : zMet l yX10_middle cX10_middle 6 (Option.some FieldType.int) 2 104 0 0 [zr G x0] G v (some (.int r)) w := by
  refine zM_of (own := RX10) (by decide) rfl (Nat.le_of_ble_eq_true rfl) (fun x hl F hr hk hcs => ?_)
  subst hl
  refine z_ls [(0, zr G x0)] [0] rfl ?_
  unfold fX10_middle at h
  refine z_aload_n F dX10_middle_0 rfl 0 rfl ?_
  refine z_iconst (y := (0 : Int32)) F dX10_middle_1 rfl ?_
  refine zp_10_0 F t0 wF_X10_134 dX10_middle_2 ?_
  obtain ⟨v_1, ev_1, h⟩ := zlet_ex h
  refine z_heap ev_1 ?_
  refine z_iconst (y := (-1 : Int32)) F dX10_middle_5 rfl ?_
  refine z_istore_n F [(1, .int (-1 : Int32)), (0, zr G x0)] dX10_middle_6 rfl (Nat.le_of_ble_eq_true rfl) rfl ?_
  refine z_iconst (y := (0 : Int32)) F dX10_middle_7 rfl ?_
  refine z_istore_n F [(2, .int (0 : Int32)), (1, .int (-1 : Int32)), (0, zr G x0)] dX10_middle_8 rfl (Nat.le_of_ble_eq_true rfl) rfl ?_
  refine z_iconst (y := (0 : Int32)) F dX10_middle_9 rfl ?_
  refine z_istore_n F [(3, .int (0 : Int32)), (2, .int (0 : Int32)), (1, .int (-1 : Int32)), (0, zr G x0)] dX10_middle_10 rfl (Nat.le_of_ble_eq_true rfl) rfl ?_
  refine z_ls [(0, zr G x0), (1, .int (-1 : Int32)), (2, .int (0 : Int32)), (3, .int (0 : Int32))] [3, 2, 1, 0] rfl ?_
  exact jX10_middle_11 x G F hr hk r w   zFU x0 t0 (-1 : Int32) (0 : Int32) (0 : Int32) v_1 h

theorem dX10_flip_0 : decode cX10_flip 0 = .ok (.aload_n 0, 1) := by decide +kernel
theorem dX10_flip_1 : decode cX10_flip 1 = .ok (.iconst 0, 1) := by decide +kernel
theorem dX10_flip_2 : decode cX10_flip 2 = .ok (.putfield 134, 3) := by decide +kernel
theorem dX10_flip_5 : decode cX10_flip 5 = .ok (.aload_n 0, 1) := by decide +kernel
theorem dX10_flip_6 : decode cX10_flip 6 = .ok (.aload_n 0, 1) := by decide +kernel
theorem dX10_flip_7 : decode cX10_flip 7 = .ok (.iload_n 1, 1) := by decide +kernel
theorem dX10_flip_8 : decode cX10_flip 8 = .ok (.invokevirtual 304, 3) := by decide +kernel
theorem dX10_flip_11 : decode cX10_flip 11 = .ok (.ifCond .ne 7, 3) := by decide +kernel
theorem dX10_flip_14 : decode cX10_flip 14 = .ok (.iconst 1, 1) := by decide +kernel
theorem dX10_flip_15 : decode cX10_flip 15 = .ok (.goto 4, 3) := by decide +kernel
theorem dX10_flip_18 : decode cX10_flip 18 = .ok (.iconst 0, 1) := by decide +kernel
theorem dX10_flip_19 : decode cX10_flip 19 = .ok (.iconst 1, 1) := by decide +kernel
theorem dX10_flip_20 : decode cX10_flip 20 = .ok (.iconst 0, 1) := by decide +kernel
theorem dX10_flip_21 : decode cX10_flip 21 = .ok (.invokevirtual 220, 3) := by decide +kernel
theorem dX10_flip_24 : decode cX10_flip 24 = .ok (.ifCond .eq 5, 3) := by decide +kernel
theorem dX10_flip_27 : decode cX10_flip 27 = .ok (.iconst 0, 1) := by decide +kernel
theorem dX10_flip_28 : decode cX10_flip 28 = .ok (.ireturn, 1) := by decide +kernel
theorem dX10_flip_29 : decode cX10_flip 29 = .ok (.aload_n 0, 1) := by decide +kernel
theorem dX10_flip_30 : decode cX10_flip 30 = .ok (.iload_n 1, 1) := by decide +kernel
theorem dX10_flip_31 : decode cX10_flip 31 = .ok (.iconst 1, 1) := by decide +kernel
theorem dX10_flip_32 : decode cX10_flip 32 = .ok (.iconst 0, 1) := by decide +kernel
theorem dX10_flip_33 : decode cX10_flip 33 = .ok (.aload_n 0, 1) := by decide +kernel
theorem dX10_flip_34 : decode cX10_flip 34 = .ok (.getfield 85, 3) := by decide +kernel
theorem dX10_flip_37 : decode cX10_flip 37 = .ok (.bipush 61, 2) := by decide +kernel
theorem dX10_flip_39 : decode cX10_flip 39 = .ok (.iaload, 1) := by decide +kernel
theorem dX10_flip_40 : decode cX10_flip 40 = .ok (.invokevirtual 410, 3) := by decide +kernel
theorem dX10_flip_43 : decode cX10_flip 43 = .ok (.istore_n 2, 1) := by decide +kernel
theorem dX10_flip_44 : decode cX10_flip 44 = .ok (.iconst (-1), 1) := by decide +kernel
theorem dX10_flip_45 : decode cX10_flip 45 = .ok (.istore_n 3, 1) := by decide +kernel
theorem dX10_flip_46 : decode cX10_flip 46 = .ok (.iconst 0, 1) := by decide +kernel
theorem dX10_flip_47 : decode cX10_flip 47 = .ok (.istore 4, 2) := by decide +kernel
theorem dX10_flip_49 : decode cX10_flip 49 = .ok (.iload 4, 2) := by decide +kernel
theorem dX10_flip_51 : decode cX10_flip 51 = .ok (.iconst 3, 1) := by decide +kernel
theorem dX10_flip_52 : decode cX10_flip 52 = .ok (.if_icmp .ge 118, 3) := by decide +kernel
theorem dX10_flip_55 : decode cX10_flip 55 = .ok (.iload 4, 2) := by decide +kernel
theorem dX10_flip_57 : decode cX10_flip 57 = .ok (.iload_n 2, 1) := by decide +kernel
theorem dX10_flip_58 : decode cX10_flip 58 = .ok (.if_icmp .eq 106, 3) := by decide +kernel
theorem dX10_flip_61 : decode cX10_flip 61 = .ok (.aload_n 0, 1) := by decide +kernel
theorem dX10_flip_62 : decode cX10_flip 62 = .ok (.getfield 121, 3) := by decide +kernel
theorem dX10_flip_65 : decode cX10_flip 65 = .ok (.iload 4, 2) := by decide +kernel
theorem dX10_flip_67 : decode cX10_flip 67 = .ok (.iaload, 1) := by decide +kernel
theorem dX10_flip_68 : decode cX10_flip 68 = .ok (.ifCond .ne 6, 3) := by decide +kernel
theorem dX10_flip_71 : decode cX10_flip 71 = .ok (.goto 93, 3) := by decide +kernel
theorem dX10_flip_74 : decode cX10_flip 74 = .ok (.iconst 0, 1) := by decide +kernel
theorem dX10_flip_75 : decode cX10_flip 75 = .ok (.istore 5, 2) := by decide +kernel
theorem dX10_flip_77 : decode cX10_flip 77 = .ok (.iconst 0, 1) := by decide +kernel
theorem dX10_flip_78 : decode cX10_flip 78 = .ok (.istore 6, 2) := by decide +kernel
theorem dX10_flip_80 : decode cX10_flip 80 = .ok (.iload 6, 2) := by decide +kernel
theorem dX10_flip_82 : decode cX10_flip 82 = .ok (.iconst 3, 1) := by decide +kernel
theorem dX10_flip_83 : decode cX10_flip 83 = .ok (.if_icmp .ge 63, 3) := by decide +kernel
theorem dX10_flip_86 : decode cX10_flip 86 = .ok (.iload 5, 2) := by decide +kernel
theorem dX10_flip_88 : decode cX10_flip 88 = .ok (.iload 6, 2) := by decide +kernel
theorem dX10_flip_90 : decode cX10_flip 90 = .ok (.iload 4, 2) := by decide +kernel
theorem dX10_flip_92 : decode cX10_flip 92 = .ok (.if_icmp .ne 7, 3) := by decide +kernel
theorem dX10_flip_95 : decode cX10_flip 95 = .ok (.iconst 0, 1) := by decide +kernel
theorem dX10_flip_96 : decode cX10_flip 96 = .ok (.goto 41, 3) := by decide +kernel
theorem dX10_flip_99 : decode cX10_flip 99 = .ok (.iconst 0, 1) := by decide +kernel
theorem dX10_flip_100 : decode cX10_flip 100 = .ok (.aload_n 0, 1) := by decide +kernel
theorem dX10_flip_101 : decode cX10_flip 101 = .ok (.getfield 121, 3) := by decide +kernel
theorem dX10_flip_104 : decode cX10_flip 104 = .ok (.iload 6, 2) := by decide +kernel
theorem dX10_flip_106 : decode cX10_flip 106 = .ok (.iaload, 1) := by decide +kernel
theorem dX10_flip_107 : decode cX10_flip 107 = .ok (.iload 6, 2) := by decide +kernel
theorem dX10_flip_109 : decode cX10_flip 109 = .ok (.iload 4, 2) := by decide +kernel
theorem dX10_flip_111 : decode cX10_flip 111 = .ok (.if_icmp .ge 15, 3) := by decide +kernel
theorem dX10_flip_114 : decode cX10_flip 114 = .ok (.aload_n 0, 1) := by decide +kernel
theorem dX10_flip_115 : decode cX10_flip 115 = .ok (.getfield 121, 3) := by decide +kernel
theorem dX10_flip_118 : decode cX10_flip 118 = .ok (.iload 4, 2) := by decide +kernel
theorem dX10_flip_120 : decode cX10_flip 120 = .ok (.iaload, 1) := by decide +kernel
theorem dX10_flip_121 : decode cX10_flip 121 = .ok (.iconst 1, 1) := by decide +kernel
theorem dX10_flip_122 : decode cX10_flip 122 = .ok (.isub, 1) := by decide +kernel
theorem dX10_flip_123 : decode cX10_flip 123 = .ok (.goto 10, 3) := by decide +kernel
theorem dX10_flip_126 : decode cX10_flip 126 = .ok (.aload_n 0, 1) := by decide +kernel
theorem dX10_flip_127 : decode cX10_flip 127 = .ok (.getfield 121, 3) := by decide +kernel
theorem dX10_flip_130 : decode cX10_flip 130 = .ok (.iload 4, 2) := by decide +kernel
theorem dX10_flip_132 : decode cX10_flip 132 = .ok (.iaload, 1) := by decide +kernel
theorem dX10_flip_133 : decode cX10_flip 133 = .ok (.isub, 1) := by decide +kernel
theorem dX10_flip_134 : decode cX10_flip 134 = .ok (.invokestatic 287, 3) := by decide +kernel
theorem dX10_flip_137 : decode cX10_flip 137 = .ok (.iadd, 1) := by decide +kernel
theorem dX10_flip_138 : decode cX10_flip 138 = .ok (.istore 5, 2) := by decide +kernel
theorem dX10_flip_140 : decode cX10_flip 140 = .ok (.iinc 6 1, 3) := by decide +kernel
theorem dX10_flip_143 : decode cX10_flip 143 = .ok (.goto (-63), 3) := by decide +kernel
theorem dX10_flip_146 : decode cX10_flip 146 = .ok (.iload_n 3, 1) := by decide +kernel
theorem dX10_flip_147 : decode cX10_flip 147 = .ok (.iconst (-1), 1) := by decide +kernel
theorem dX10_flip_148 : decode cX10_flip 148 = .ok (.if_icmp .eq 9, 3) := by decide +kernel
theorem dX10_flip_151 : decode cX10_flip 151 = .ok (.iload 5, 2) := by decide +kernel
theorem dX10_flip_153 : decode cX10_flip 153 = .ok (.iload_n 3, 1) := by decide +kernel
theorem dX10_flip_154 : decode cX10_flip 154 = .ok (.if_icmp .ge 8, 3) := by decide +kernel
theorem dX10_flip_157 : decode cX10_flip 157 = .ok (.iload 5, 2) := by decide +kernel
theorem dX10_flip_159 : decode cX10_flip 159 = .ok (.goto 4, 3) := by decide +kernel
theorem dX10_flip_162 : decode cX10_flip 162 = .ok (.iload_n 3, 1) := by decide +kernel
theorem dX10_flip_163 : decode cX10_flip 163 = .ok (.istore_n 3, 1) := by decide +kernel
theorem dX10_flip_164 : decode cX10_flip 164 = .ok (.iinc 4 1, 3) := by decide +kernel
theorem dX10_flip_167 : decode cX10_flip 167 = .ok (.goto (-118), 3) := by decide +kernel
theorem dX10_flip_170 : decode cX10_flip 170 = .ok (.iload_n 3, 1) := by decide +kernel
theorem dX10_flip_171 : decode cX10_flip 171 = .ok (.ireturn, 1) := by decide +kernel
def fX10_flip_146 (K49 : Nat → Int32 → Int32 → Int32 → zV → Option (Int32 × zV)) (x0 : Nat) (x2 : Int32) (x3 : Int32) (x4 : Int32) (x5 : Int32) (v : zV) : Option (Int32 × zV) :=
  if x3 = (-1 : Int32) then
    K49 x0 x2 x5 (x4 + (1 : Int32)) v
  else
    if x3 ≤ x5 then
      K49 x0 x2 x3 (x4 + (1 : Int32)) v
    else
      K49 x0 x2 x5 (x4 + (1 : Int32)) v
set_option maxRecDepth 4000 in
theorem jX10_flip_146 (x : zCx) (G : zG) (F : zF x G cX10_flip 7 RX10 3 123) (hr : x.2.2.2.2.2.2.2.2.1.sig.returnType = (Option.some FieldType.int)) (hk : x.2.2.2.2.2.2.2.2.1.locks = false) (r : Int32) (w : zV) (K49 : Nat → Int32 → Int32 → Int32 → zV → Option (Int32 × zV)) (hK49 : ∀ (x0 : Nat) (t0 : zty G x0 1 10) (x2 : Int32) (x3 : Int32) (x4 : Int32) (v : zV), K49 x0 x2 x3 x4 v = some (r, w) → zJ x G 7 (zQ x G (some (.int r)) w 0 0) 0 0 49 [(0, zr G x0), (2, .int x2), (3, .int x3), (4, .int x4)] [] v) : ∀ (x0 : Nat) (t0 : zty G x0 1 10) (x2 : Int32) (x3 : Int32) (x4 : Int32) (x5 : Int32) (v : zV), fX10_flip_146 K49 x0 x2 x3 x4 x5 v = some (r, w) → zJ x G 7 (zQ x G (some (.int r)) w 0 0) 0 0 146 [(0, zr G x0), (2, .int x2), (3, .int x3), (4, .int x4), (5, .int x5)] [] v := by
  intro x0 t0 x2 x3 x4 x5 v h
  unfold fX10_flip_146 at h
  refine z_iload_n F dX10_flip_146 rfl 2 rfl ?_
  refine z_iconst (y := (-1 : Int32)) F dX10_flip_147 rfl ?_
  refine z_icmp_eq F 157 dX10_flip_148 rfl (fun hc => ?_) (fun hc => ?_)
  · replace h := zif_t hc h
    refine z_iload F dX10_flip_157 4 rfl ?_
    refine z_goto F 163 dX10_flip_159 rfl ?_
    refine z_istore_n F [(3, .int x5), (0, zr G x0), (2, .int x2), (4, .int x4), (5, .int x5)] dX10_flip_163 rfl (Nat.le_of_ble_eq_true rfl) rfl ?_
    refine z_iinc F [(4, .int (x4 + (1 : Int32))), (3, .int x5), (0, zr G x0), (2, .int x2), (5, .int x5)] dX10_flip_164 3 rfl rfl (Nat.le_of_ble_eq_true rfl) rfl ?_
    refine z_goto F 49 dX10_flip_167 rfl ?_
    refine z_ls [(0, zr G x0), (2, .int x2), (3, .int x5), (4, .int (x4 + (1 : Int32)))] [2, 3, 1, 0] rfl ?_
    exact hK49 x0 t0 x2 x5 (x4 + (1 : Int32)) v h
  · replace h := zif_f hc h
    refine z_iload F dX10_flip_151 4 rfl ?_
    refine z_iload_n F dX10_flip_153 rfl 2 rfl ?_
    refine z_icmp_ge F 162 dX10_flip_154 rfl (fun hc => ?_) (fun hc => ?_)
    · replace h := zif_t hc h
      refine z_iload_n F dX10_flip_162 rfl 2 rfl ?_
      refine z_istore_n F [(3, .int x3), (0, zr G x0), (2, .int x2), (4, .int x4), (5, .int x5)] dX10_flip_163 rfl (Nat.le_of_ble_eq_true rfl) rfl ?_
      refine z_iinc F [(4, .int (x4 + (1 : Int32))), (3, .int x3), (0, zr G x0), (2, .int x2), (5, .int x5)] dX10_flip_164 3 rfl rfl (Nat.le_of_ble_eq_true rfl) rfl ?_
      refine z_goto F 49 dX10_flip_167 rfl ?_
      refine z_ls [(0, zr G x0), (2, .int x2), (3, .int x3), (4, .int (x4 + (1 : Int32)))] [2, 3, 1, 0] rfl ?_
      exact hK49 x0 t0 x2 x3 (x4 + (1 : Int32)) v h
    · replace h := zif_f hc h
      refine z_iload F dX10_flip_157 4 rfl ?_
      refine z_goto F 163 dX10_flip_159 rfl ?_
      refine z_istore_n F [(3, .int x5), (0, zr G x0), (2, .int x2), (4, .int x4), (5, .int x5)] dX10_flip_163 rfl (Nat.le_of_ble_eq_true rfl) rfl ?_
      refine z_iinc F [(4, .int (x4 + (1 : Int32))), (3, .int x5), (0, zr G x0), (2, .int x2), (5, .int x5)] dX10_flip_164 3 rfl rfl (Nat.le_of_ble_eq_true rfl) rfl ?_
      refine z_goto F 49 dX10_flip_167 rfl ?_
      refine z_ls [(0, zr G x0), (2, .int x2), (3, .int x5), (4, .int (x4 + (1 : Int32)))] [2, 3, 1, 0] rfl ?_
      exact hK49 x0 t0 x2 x5 (x4 + (1 : Int32)) v h

def fX10_flip_80 (K49 : Nat → Int32 → Int32 → Int32 → zV → Option (Int32 × zV)) : Nat → Nat → Int32 → Int32 → Int32 → Int32 → Int32 → zV → Option (Int32 × zV)
  | 0 => fun _ _ _ _ _ _ _ => none
  | n + 1 => fun x0 x2 x3 x4 x5 x6 v =>
    if (3 : Int32) ≤ x6 then
      fX10_flip_146 K49 x0 x2 x3 x4 x5 v
    else
      if x6 = x4 then
        (fX10_flip_80 K49 n) x0 x2 x3 x4 (x5 + (0 : Int32)) (x6 + (1 : Int32)) v
      else
        zix x6 (zlen (zrf x0 59)) <|
        if x4 ≤ x6 then
          zix x4 (zlen (zrf x0 59)) <|
          zbind (fX10_more (0 : Int32) ((v (zrf x0 59) (x6).toNatClampNeg) - (v (zrf x0 59) (x4).toNatClampNeg)) v) fun r_2 v_1 =>
          (fX10_flip_80 K49 n) x0 x2 x3 x4 (x5 + r_2) (x6 + (1 : Int32)) v_1
        else
          zix x4 (zlen (zrf x0 59)) <|
          zbind (fX10_more (0 : Int32) ((v (zrf x0 59) (x6).toNatClampNeg) - ((v (zrf x0 59) (x4).toNatClampNeg) - (1 : Int32))) v) fun r_4 v_3 =>
          (fX10_flip_80 K49 n) x0 x2 x3 x4 (x5 + r_4) (x6 + (1 : Int32)) v_3
set_option maxRecDepth 4000 in
theorem jX10_flip_80 (x : zCx) (G : zG) (F : zF x G cX10_flip 7 RX10 3 123) (hr : x.2.2.2.2.2.2.2.2.1.sig.returnType = (Option.some FieldType.int)) (hk : x.2.2.2.2.2.2.2.2.1.locks = false) (r : Int32) (w : zV) (K49 : Nat → Int32 → Int32 → Int32 → zV → Option (Int32 × zV)) (hK49 : ∀ (x0 : Nat) (t0 : zty G x0 1 10) (x2 : Int32) (x3 : Int32) (x4 : Int32) (v : zV), K49 x0 x2 x3 x4 v = some (r, w) → zJ x G 7 (zQ x G (some (.int r)) w 0 0) 0 0 49 [(0, zr G x0), (2, .int x2), (3, .int x3), (4, .int x4)] [] v) : ∀ (n : Nat) (x0 : Nat) (t0 : zty G x0 1 10) (x2 : Int32) (x3 : Int32) (x4 : Int32) (x5 : Int32) (x6 : Int32) (v : zV), fX10_flip_80 K49 n x0 x2 x3 x4 x5 x6 v = some (r, w) → zJ x G 7 (zQ x G (some (.int r)) w 0 0) 0 0 80 [(0, zr G x0), (2, .int x2), (3, .int x3), (4, .int x4), (5, .int x5), (6, .int x6)] [] v := by
  intro n
  induction n with
  | zero => intro x0 t0 x2 x3 x4 x5 x6 v h; exact absurd h (by intro q; cases q)
  | succ n ih =>
    intro x0 t0 x2 x3 x4 x5 x6 v h
    rw [fX10_flip_80] at h
    dsimp only at h
    refine z_iload F dX10_flip_80 5 rfl ?_
    refine z_iconst (y := (3 : Int32)) F dX10_flip_82 rfl ?_
    refine z_icmp_ge F 146 dX10_flip_83 rfl (fun hc => ?_) (fun hc => ?_)
    · replace h := zif_t hc h
      refine z_ls [(0, zr G x0), (2, .int x2), (3, .int x3), (4, .int x4), (5, .int x5)] [0, 1, 2, 3, 4] rfl ?_
      exact jX10_flip_146 x G F hr hk r w K49 hK49 x0 t0 x2 x3 x4 x5 v h
    · replace h := zif_f hc h
      refine z_iload F dX10_flip_86 4 rfl ?_
      refine z_iload F dX10_flip_88 5 rfl ?_
      refine z_iload F dX10_flip_90 3 rfl ?_
      refine z_icmp_ne F 99 dX10_flip_92 rfl (fun hc => ?_) (fun hc => ?_)
      · replace h := zif_f hc h
        refine z_iconst (y := (0 : Int32)) F dX10_flip_99 rfl ?_
        refine z_aload_n F dX10_flip_100 rfl 0 rfl ?_
        refine zg_10_59 F t0 wF_X10_121 dX10_flip_101 ?_
        refine z_iload F dX10_flip_104 5 rfl ?_
        obtain ⟨hi106, h⟩ := zix_ex h
        refine z_iald F (zt_f tc_10_59 t0) dX10_flip_106 hi106 ?_
        refine z_iload F dX10_flip_107 5 rfl ?_
        refine z_iload F dX10_flip_109 3 rfl ?_
        refine z_icmp_ge F 126 dX10_flip_111 rfl (fun hc => ?_) (fun hc => ?_)
        · replace h := zif_t hc h
          refine z_aload_n F dX10_flip_126 rfl 0 rfl ?_
          refine zg_10_59 F t0 wF_X10_121 dX10_flip_127 ?_
          refine z_iload F dX10_flip_130 3 rfl ?_
          obtain ⟨hi132, h⟩ := zix_ex h
          refine z_iald F (zt_f tc_10_59 t0) dX10_flip_132 hi132 ?_
          refine z_isub F dX10_flip_133 ?_
          obtain ⟨r_2, v_1, hq134, h⟩ := zbind_ex h
          refine z_callSi F [.int (0 : Int32), .int ((v (zrf x0 59) (x6).toNatClampNeg) - (v (zrf x0 59) (x4).toNatClampNeg))] [.int x5] (kX10_more x.2.1 G (0 : Int32) ((v (zrf x0 59) (x6).toNatClampNeg) - (v (zrf x0 59) (x4).toNatClampNeg)) v r_2 v_1 hq134) mI_X10_more wM_X10_287 ms_X10_more dX10_flip_134 rfl ⟨Nat.le_of_ble_eq_true rfl, Nat.le_of_ble_eq_true rfl⟩ rfl (Nat.le_of_ble_eq_true rfl) ⟨Nat.zero_le _, Nat.zero_le _⟩ ?_
          refine z_iadd F dX10_flip_137 ?_
          refine z_istore (n := 0) F [(5, .int (x5 + r_2)), (0, zr G x0), (2, .int x2), (3, .int x3), (4, .int x4), (6, .int x6)] dX10_flip_138 (Nat.le_of_ble_eq_true rfl) rfl ?_
          refine z_iinc F [(6, .int (x6 + (1 : Int32))), (5, .int (x5 + r_2)), (0, zr G x0), (2, .int x2), (3, .int x3), (4, .int x4)] dX10_flip_140 5 rfl rfl (Nat.le_of_ble_eq_true rfl) rfl ?_
          refine z_goto F 80 dX10_flip_143 rfl ?_
          refine z_ls [(0, zr G x0), (2, .int x2), (3, .int x3), (4, .int x4), (5, .int (x5 + r_2)), (6, .int (x6 + (1 : Int32)))] [2, 3, 4, 5, 1, 0] rfl ?_
          exact ih x0 t0 x2 x3 x4 (x5 + r_2) (x6 + (1 : Int32)) v_1 h
        · replace h := zif_f hc h
          refine z_aload_n F dX10_flip_114 rfl 0 rfl ?_
          refine zg_10_59 F t0 wF_X10_121 dX10_flip_115 ?_
          refine z_iload F dX10_flip_118 3 rfl ?_
          obtain ⟨hi120, h⟩ := zix_ex h
          refine z_iald F (zt_f tc_10_59 t0) dX10_flip_120 hi120 ?_
          refine z_iconst (y := (1 : Int32)) F dX10_flip_121 rfl ?_
          refine z_isub F dX10_flip_122 ?_
          refine z_goto F 133 dX10_flip_123 rfl ?_
          refine z_isub F dX10_flip_133 ?_
          obtain ⟨r_4, v_3, hq134, h⟩ := zbind_ex h
          refine z_callSi F [.int (0 : Int32), .int ((v (zrf x0 59) (x6).toNatClampNeg) - ((v (zrf x0 59) (x4).toNatClampNeg) - (1 : Int32)))] [.int x5] (kX10_more x.2.1 G (0 : Int32) ((v (zrf x0 59) (x6).toNatClampNeg) - ((v (zrf x0 59) (x4).toNatClampNeg) - (1 : Int32))) v r_4 v_3 hq134) mI_X10_more wM_X10_287 ms_X10_more dX10_flip_134 rfl ⟨Nat.le_of_ble_eq_true rfl, Nat.le_of_ble_eq_true rfl⟩ rfl (Nat.le_of_ble_eq_true rfl) ⟨Nat.zero_le _, Nat.zero_le _⟩ ?_
          refine z_iadd F dX10_flip_137 ?_
          refine z_istore (n := 0) F [(5, .int (x5 + r_4)), (0, zr G x0), (2, .int x2), (3, .int x3), (4, .int x4), (6, .int x6)] dX10_flip_138 (Nat.le_of_ble_eq_true rfl) rfl ?_
          refine z_iinc F [(6, .int (x6 + (1 : Int32))), (5, .int (x5 + r_4)), (0, zr G x0), (2, .int x2), (3, .int x3), (4, .int x4)] dX10_flip_140 5 rfl rfl (Nat.le_of_ble_eq_true rfl) rfl ?_
          refine z_goto F 80 dX10_flip_143 rfl ?_
          refine z_ls [(0, zr G x0), (2, .int x2), (3, .int x3), (4, .int x4), (5, .int (x5 + r_4)), (6, .int (x6 + (1 : Int32)))] [2, 3, 4, 5, 1, 0] rfl ?_
          exact ih x0 t0 x2 x3 x4 (x5 + r_4) (x6 + (1 : Int32)) v_3 h
      · replace h := zif_t hc h
        refine z_iconst (y := (0 : Int32)) F dX10_flip_95 rfl ?_
        refine z_goto F 137 dX10_flip_96 rfl ?_
        refine z_iadd F dX10_flip_137 ?_
        refine z_istore (n := 0) F [(5, .int (x5 + (0 : Int32))), (0, zr G x0), (2, .int x2), (3, .int x3), (4, .int x4), (6, .int x6)] dX10_flip_138 (Nat.le_of_ble_eq_true rfl) rfl ?_
        refine z_iinc F [(6, .int (x6 + (1 : Int32))), (5, .int (x5 + (0 : Int32))), (0, zr G x0), (2, .int x2), (3, .int x3), (4, .int x4)] dX10_flip_140 5 rfl rfl (Nat.le_of_ble_eq_true rfl) rfl ?_
        refine z_goto F 80 dX10_flip_143 rfl ?_
        refine z_ls [(0, zr G x0), (2, .int x2), (3, .int x3), (4, .int x4), (5, .int (x5 + (0 : Int32))), (6, .int (x6 + (1 : Int32)))] [2, 3, 4, 5, 1, 0] rfl ?_
        exact ih x0 t0 x2 x3 x4 (x5 + (0 : Int32)) (x6 + (1 : Int32)) v h

def fX10_flip_49  : Nat → Nat → Int32 → Int32 → Int32 → zV → Option (Int32 × zV)
  | 0 => fun _ _ _ _ _ => none
  | n + 1 => fun x0 x2 x3 x4 v =>
    if (3 : Int32) ≤ x4 then
      some (x3, v)
    else
      if x4 = x2 then
        (fX10_flip_49 n) x0 x2 x3 (x4 + (1 : Int32)) v
      else
        zix x4 (zlen (zrf x0 59)) <|
        if (v (zrf x0 59) (x4).toNatClampNeg) = (0 : Int32) then
          (fX10_flip_49 n) x0 x2 x3 (x4 + (1 : Int32)) v
        else
          fX10_flip_80 (fX10_flip_49 n) zFU x0 x2 x3 x4 (0 : Int32) (0 : Int32) v
set_option maxRecDepth 4000 in
theorem jX10_flip_49 (x : zCx) (G : zG) (F : zF x G cX10_flip 7 RX10 3 123) (hr : x.2.2.2.2.2.2.2.2.1.sig.returnType = (Option.some FieldType.int)) (hk : x.2.2.2.2.2.2.2.2.1.locks = false) (r : Int32) (w : zV)  : ∀ (n : Nat) (x0 : Nat) (t0 : zty G x0 1 10) (x2 : Int32) (x3 : Int32) (x4 : Int32) (v : zV), fX10_flip_49 n x0 x2 x3 x4 v = some (r, w) → zJ x G 7 (zQ x G (some (.int r)) w 0 0) 0 0 49 [(0, zr G x0), (2, .int x2), (3, .int x3), (4, .int x4)] [] v := by
  intro n
  induction n with
  | zero => intro x0 t0 x2 x3 x4 v h; exact absurd h (by intro q; cases q)
  | succ n ih =>
    intro x0 t0 x2 x3 x4 v h
    rw [fX10_flip_49] at h
    dsimp only at h
    refine z_iload F dX10_flip_49 3 rfl ?_
    refine z_iconst (y := (3 : Int32)) F dX10_flip_51 rfl ?_
    refine z_icmp_ge F 170 dX10_flip_52 rfl (fun hc => ?_) (fun hc => ?_)
    · replace h := zif_t hc h
      refine z_iload_n F dX10_flip_170 rfl 2 rfl ?_
      cases h
      exact z_reti F hr hk dX10_flip_171
    · replace h := zif_f hc h
      refine z_iload F dX10_flip_55 3 rfl ?_
      refine z_iload_n F dX10_flip_57 rfl 1 rfl ?_
      refine z_icmp_eq F 164 dX10_flip_58 rfl (fun hc => ?_) (fun hc => ?_)
      · replace h := zif_t hc h
        refine z_iinc F [(4, .int (x4 + (1 : Int32))), (0, zr G x0), (2, .int x2), (3, .int x3)] dX10_flip_164 3 rfl rfl (Nat.le_of_ble_eq_true rfl) rfl ?_
        refine z_goto F 49 dX10_flip_167 rfl ?_
        refine z_ls [(0, zr G x0), (2, .int x2), (3, .int x3), (4, .int (x4 + (1 : Int32)))] [1, 2, 3, 0] rfl ?_
        exact ih x0 t0 x2 x3 (x4 + (1 : Int32)) v h
      · replace h := zif_f hc h
        refine z_aload_n F dX10_flip_61 rfl 0 rfl ?_
        refine zg_10_59 F t0 wF_X10_121 dX10_flip_62 ?_
        refine z_iload F dX10_flip_65 3 rfl ?_
        obtain ⟨hi67, h⟩ := zix_ex h
        refine z_iald F (zt_f tc_10_59 t0) dX10_flip_67 hi67 ?_
        refine z_if_ne F 74 dX10_flip_68 rfl (fun hc => ?_) (fun hc => ?_)
        · replace h := zif_f hc h
          refine z_iconst (y := (0 : Int32)) F dX10_flip_74 rfl ?_
          refine z_istore (n := 0) F [(5, .int (0 : Int32)), (0, zr G x0), (2, .int x2), (3, .int x3), (4, .int x4)] dX10_flip_75 (Nat.le_of_ble_eq_true rfl) rfl ?_
          refine z_iconst (y := (0 : Int32)) F dX10_flip_77 rfl ?_
          refine z_istore (n := 0) F [(6, .int (0 : Int32)), (5, .int (0 : Int32)), (0, zr G x0), (2, .int x2), (3, .int x3), (4, .int x4)] dX10_flip_78 (Nat.le_of_ble_eq_true rfl) rfl ?_
          refine z_ls [(0, zr G x0), (2, .int x2), (3, .int x3), (4, .int x4), (5, .int (0 : Int32)), (6, .int (0 : Int32))] [2, 3, 4, 5, 1, 0] rfl ?_
          exact jX10_flip_80 x G F hr hk r w (fX10_flip_49 n) ih zFU x0 t0 x2 x3 x4 (0 : Int32) (0 : Int32) v h
        · replace h := zif_t hc h
          refine z_goto F 164 dX10_flip_71 rfl ?_
          refine z_iinc F [(4, .int (x4 + (1 : Int32))), (0, zr G x0), (2, .int x2), (3, .int x3)] dX10_flip_164 3 rfl rfl (Nat.le_of_ble_eq_true rfl) rfl ?_
          refine z_goto F 49 dX10_flip_167 rfl ?_
          refine z_ls [(0, zr G x0), (2, .int x2), (3, .int x3), (4, .int (x4 + (1 : Int32)))] [1, 2, 3, 0] rfl ?_
          exact ih x0 t0 x2 x3 (x4 + (1 : Int32)) v h

def fX10_flip_19  (x0 : Nat) (x1 : Int32) (s0 : Nat) (s1 : Int32) (v : zV) : Option (Int32 × zV) :=
  zbind (fX10_bad s0 s1 (1 : Int32) (0 : Int32) v) fun r_2 v_1 =>
  if r_2 = (0 : Int32) then
    zix (61 : Int32) (zlen (zrf x0 35)) <|
    zbind (fX10_voteOf x0 x1 (1 : Int32) (0 : Int32) (v_1 (zrf x0 35) ((61 : Int32)).toNatClampNeg) v_1) fun r_4 v_3 =>
    fX10_flip_49  zFU x0 r_4 (-1 : Int32) (0 : Int32) v_3
  else
    some ((0 : Int32), v_1)
set_option maxRecDepth 4000 in
theorem jX10_flip_19 (x : zCx) (G : zG) (F : zF x G cX10_flip 7 RX10 3 123) (hr : x.2.2.2.2.2.2.2.2.1.sig.returnType = (Option.some FieldType.int)) (hk : x.2.2.2.2.2.2.2.2.1.locks = false) (r : Int32) (w : zV)  : ∀ (x0 : Nat) (t0 : zty G x0 1 10) (x1 : Int32) (s0 : Nat) (ts0 : zty G s0 1 10) (s1 : Int32) (v : zV), fX10_flip_19 x0 x1 s0 s1 v = some (r, w) → zJ x G 7 (zQ x G (some (.int r)) w 0 0) 0 0 19 [(0, zr G x0), (1, .int x1)] [.int s1, zr G s0] v := by
  intro x0 t0 x1 s0 ts0 s1 v h
  unfold fX10_flip_19 at h
  refine z_iconst (y := (1 : Int32)) F dX10_flip_19 rfl ?_
  refine z_iconst (y := (0 : Int32)) F dX10_flip_20 rfl ?_
  obtain ⟨r_2, v_1, hq21, h⟩ := zbind_ex h
  refine z_callVi F [.int s1, .int (1 : Int32), .int (0 : Int32)] [] (kX10_bad x.2.1 G s0 ts0 s1 (1 : Int32) (0 : Int32) v r_2 v_1 hq21) mI_X10_bad (c := 10) rfl ts0 wM_X10_220 mi_X10_bad sl_X10_bad dX10_flip_21 rfl ⟨Nat.le_of_ble_eq_true rfl, Nat.le_of_ble_eq_true rfl⟩ rfl (Nat.le_of_ble_eq_true rfl) ⟨Nat.zero_le _, Nat.zero_le _⟩ ?_
  refine z_if_eq F 29 dX10_flip_24 rfl (fun hc => ?_) (fun hc => ?_)
  · replace h := zif_t hc h
    refine z_aload_n F dX10_flip_29 rfl 0 rfl ?_
    refine z_iload_n F dX10_flip_30 rfl 1 rfl ?_
    refine z_iconst (y := (1 : Int32)) F dX10_flip_31 rfl ?_
    refine z_iconst (y := (0 : Int32)) F dX10_flip_32 rfl ?_
    refine z_aload_n F dX10_flip_33 rfl 0 rfl ?_
    refine zg_10_35 F t0 wF_X10_85 dX10_flip_34 ?_
    refine z_bipush (y := (61 : Int32)) F dX10_flip_37 rfl ?_
    obtain ⟨hi39, h⟩ := zix_ex h
    refine z_iald F (zt_f tc_10_35 t0) dX10_flip_39 hi39 ?_
    obtain ⟨r_4, v_3, hq40, h⟩ := zbind_ex h
    refine z_callVi F [.int x1, .int (1 : Int32), .int (0 : Int32), .int (v_1 (zrf x0 35) ((61 : Int32)).toNatClampNeg)] [] (kX10_voteOf x.2.1 G x0 t0 x1 (1 : Int32) (0 : Int32) (v_1 (zrf x0 35) ((61 : Int32)).toNatClampNeg) v_1 r_4 v_3 hq40) mI_X10_voteOf (c := 10) rfl t0 wM_X10_410 mi_X10_voteOf sl_X10_voteOf dX10_flip_40 rfl ⟨Nat.le_of_ble_eq_true rfl, Nat.le_of_ble_eq_true rfl⟩ rfl (Nat.le_of_ble_eq_true rfl) ⟨Nat.zero_le _, Nat.zero_le _⟩ ?_
    refine z_istore_n F [(2, .int r_4), (0, zr G x0), (1, .int x1)] dX10_flip_43 rfl (Nat.le_of_ble_eq_true rfl) rfl ?_
    refine z_iconst (y := (-1 : Int32)) F dX10_flip_44 rfl ?_
    refine z_istore_n F [(3, .int (-1 : Int32)), (2, .int r_4), (0, zr G x0), (1, .int x1)] dX10_flip_45 rfl (Nat.le_of_ble_eq_true rfl) rfl ?_
    refine z_iconst (y := (0 : Int32)) F dX10_flip_46 rfl ?_
    refine z_istore (n := 0) F [(4, .int (0 : Int32)), (3, .int (-1 : Int32)), (2, .int r_4), (0, zr G x0), (1, .int x1)] dX10_flip_47 (Nat.le_of_ble_eq_true rfl) rfl ?_
    refine z_ls [(0, zr G x0), (2, .int r_4), (3, .int (-1 : Int32)), (4, .int (0 : Int32))] [3, 2, 1, 0] rfl ?_
    exact jX10_flip_49 x G F hr hk r w   zFU x0 t0 r_4 (-1 : Int32) (0 : Int32) v_3 h
  · replace h := zif_f hc h
    refine z_iconst (y := (0 : Int32)) F dX10_flip_27 rfl ?_
    cases h
    exact z_reti F hr hk dX10_flip_28

def fX10_flip (x0 : Nat) (x1 : Int32) (v : zV) : Option (Int32 × zV) :=
  zlet (zup v x0 0 (0 : Int32)) fun v_1 =>
  zbind (fX10_isQuestion x0 x1 v_1) fun r_3 v_2 =>
  if r_3 = (0 : Int32) then
    fX10_flip_19  x0 x1 x0 (1 : Int32) v_2
  else
    fX10_flip_19  x0 x1 x0 (0 : Int32) v_2
set_option maxRecDepth 4000 in
theorem kX10_flip (l : Launch) (G : zG) (x0 : Nat) (t0 : zty G x0 1 10) (x1 : Int32) (v : zV) (r : Int32) (w : zV) (h : fX10_flip x0 x1 v = some (r, w)) : zMet l yX10_flip cX10_flip 7 (Option.some FieldType.int) 3 123 0 0 [zr G x0, .int x1] G v (some (.int r)) w := by
  refine zM_of (own := RX10) (by decide) rfl (Nat.le_of_ble_eq_true rfl) (fun x hl F hr hk hcs => ?_)
  subst hl
  refine z_ls [(0, zr G x0), (1, .int x1)] [0, 1] rfl ?_
  unfold fX10_flip at h
  refine z_aload_n F dX10_flip_0 rfl 0 rfl ?_
  refine z_iconst (y := (0 : Int32)) F dX10_flip_1 rfl ?_
  refine zp_10_0 F t0 wF_X10_134 dX10_flip_2 ?_
  obtain ⟨v_1, ev_1, h⟩ := zlet_ex h
  refine z_heap ev_1 ?_
  refine z_aload_n F dX10_flip_5 rfl 0 rfl ?_
  refine z_aload_n F dX10_flip_6 rfl 0 rfl ?_
  refine z_iload_n F dX10_flip_7 rfl 1 rfl ?_
  obtain ⟨r_3, v_2, hq8, h⟩ := zbind_ex h
  refine z_callVi F [.int x1] [zr G x0] (kX10_isQuestion x.2.1 G x0 t0 x1 v_1 r_3 v_2 hq8) mI_X10_isQuestion (c := 10) rfl t0 wM_X10_304 mi_X10_isQuestion sl_X10_isQuestion dX10_flip_8 rfl ⟨Nat.le_of_ble_eq_true rfl, Nat.le_of_ble_eq_true rfl⟩ rfl (Nat.le_of_ble_eq_true rfl) ⟨Nat.zero_le _, Nat.zero_le _⟩ ?_
  refine z_if_ne F 18 dX10_flip_11 rfl (fun hc => ?_) (fun hc => ?_)
  · replace h := zif_f hc h
    refine z_iconst (y := (0 : Int32)) F dX10_flip_18 rfl ?_
    refine z_ls [(0, zr G x0), (1, .int x1)] [0, 1] rfl ?_
    exact jX10_flip_19 x G F hr hk r w   x0 t0 x1 x0 t0 (0 : Int32) v_2 h
  · replace h := zif_t hc h
    refine z_iconst (y := (1 : Int32)) F dX10_flip_14 rfl ?_
    refine z_goto F 19 dX10_flip_15 rfl ?_
    refine z_ls [(0, zr G x0), (1, .int x1)] [0, 1] rfl ?_
    exact jX10_flip_19 x G F hr hk r w   x0 t0 x1 x0 t0 (1 : Int32) v_2 h

theorem dX10_quorum_0 : decode cX10_quorum 0 = .ok (.aload_n 0, 1) := by decide +kernel
theorem dX10_quorum_1 : decode cX10_quorum 1 = .ok (.iconst 0, 1) := by decide +kernel
theorem dX10_quorum_2 : decode cX10_quorum 2 = .ok (.putfield 134, 3) := by decide +kernel
theorem dX10_quorum_5 : decode cX10_quorum 5 = .ok (.aload_n 0, 1) := by decide +kernel
theorem dX10_quorum_6 : decode cX10_quorum 6 = .ok (.aload_n 0, 1) := by decide +kernel
theorem dX10_quorum_7 : decode cX10_quorum 7 = .ok (.iload_n 1, 1) := by decide +kernel
theorem dX10_quorum_8 : decode cX10_quorum 8 = .ok (.invokevirtual 304, 3) := by decide +kernel
theorem dX10_quorum_11 : decode cX10_quorum 11 = .ok (.ifCond .ne 7, 3) := by decide +kernel
theorem dX10_quorum_14 : decode cX10_quorum 14 = .ok (.iconst 1, 1) := by decide +kernel
theorem dX10_quorum_15 : decode cX10_quorum 15 = .ok (.goto 4, 3) := by decide +kernel
theorem dX10_quorum_18 : decode cX10_quorum 18 = .ok (.iconst 0, 1) := by decide +kernel
theorem dX10_quorum_19 : decode cX10_quorum 19 = .ok (.iconst 1, 1) := by decide +kernel
theorem dX10_quorum_20 : decode cX10_quorum 20 = .ok (.iconst 0, 1) := by decide +kernel
theorem dX10_quorum_21 : decode cX10_quorum 21 = .ok (.invokevirtual 220, 3) := by decide +kernel
theorem dX10_quorum_24 : decode cX10_quorum 24 = .ok (.ifCond .eq 5, 3) := by decide +kernel
theorem dX10_quorum_27 : decode cX10_quorum 27 = .ok (.iconst 0, 1) := by decide +kernel
theorem dX10_quorum_28 : decode cX10_quorum 28 = .ok (.ireturn, 1) := by decide +kernel
theorem dX10_quorum_29 : decode cX10_quorum 29 = .ok (.aload_n 0, 1) := by decide +kernel
theorem dX10_quorum_30 : decode cX10_quorum 30 = .ok (.getfield 85, 3) := by decide +kernel
theorem dX10_quorum_33 : decode cX10_quorum 33 = .ok (.bipush 61, 2) := by decide +kernel
theorem dX10_quorum_35 : decode cX10_quorum 35 = .ok (.iaload, 1) := by decide +kernel
theorem dX10_quorum_36 : decode cX10_quorum 36 = .ok (.istore_n 2, 1) := by decide +kernel
theorem dX10_quorum_37 : decode cX10_quorum 37 = .ok (.aload_n 0, 1) := by decide +kernel
theorem dX10_quorum_38 : decode cX10_quorum 38 = .ok (.iload_n 1, 1) := by decide +kernel
theorem dX10_quorum_39 : decode cX10_quorum 39 = .ok (.iconst 1, 1) := by decide +kernel
theorem dX10_quorum_40 : decode cX10_quorum 40 = .ok (.iconst 0, 1) := by decide +kernel
theorem dX10_quorum_41 : decode cX10_quorum 41 = .ok (.iload_n 2, 1) := by decide +kernel
theorem dX10_quorum_42 : decode cX10_quorum 42 = .ok (.invokevirtual 410, 3) := by decide +kernel
theorem dX10_quorum_45 : decode cX10_quorum 45 = .ok (.istore_n 3, 1) := by decide +kernel
theorem dX10_quorum_46 : decode cX10_quorum 46 = .ok (.iload_n 2, 1) := by decide +kernel
theorem dX10_quorum_47 : decode cX10_quorum 47 = .ok (.iconst 1, 1) := by decide +kernel
theorem dX10_quorum_48 : decode cX10_quorum 48 = .ok (.if_icmp .le 23, 3) := by decide +kernel
theorem dX10_quorum_51 : decode cX10_quorum 51 = .ok (.aload_n 0, 1) := by decide +kernel
theorem dX10_quorum_52 : decode cX10_quorum 52 = .ok (.iload_n 1, 1) := by decide +kernel
theorem dX10_quorum_53 : decode cX10_quorum 53 = .ok (.iconst 1, 1) := by decide +kernel
theorem dX10_quorum_54 : decode cX10_quorum 54 = .ok (.iconst 0, 1) := by decide +kernel
theorem dX10_quorum_55 : decode cX10_quorum 55 = .ok (.iload_n 2, 1) := by decide +kernel
theorem dX10_quorum_56 : decode cX10_quorum 56 = .ok (.iconst 1, 1) := by decide +kernel
theorem dX10_quorum_57 : decode cX10_quorum 57 = .ok (.isub, 1) := by decide +kernel
theorem dX10_quorum_58 : decode cX10_quorum 58 = .ok (.invokevirtual 410, 3) := by decide +kernel
theorem dX10_quorum_61 : decode cX10_quorum 61 = .ok (.iload_n 3, 1) := by decide +kernel
theorem dX10_quorum_62 : decode cX10_quorum 62 = .ok (.if_icmp .ne 9, 3) := by decide +kernel
theorem dX10_quorum_65 : decode cX10_quorum 65 = .ok (.iinc 2 (-1), 3) := by decide +kernel
theorem dX10_quorum_68 : decode cX10_quorum 68 = .ok (.goto (-22), 3) := by decide +kernel
theorem dX10_quorum_71 : decode cX10_quorum 71 = .ok (.iload_n 2, 1) := by decide +kernel
theorem dX10_quorum_72 : decode cX10_quorum 72 = .ok (.ireturn, 1) := by decide +kernel
def fX10_quorum_46  : Nat → Nat → Int32 → Int32 → Int32 → zV → Option (Int32 × zV)
  | 0 => fun _ _ _ _ _ => none
  | n + 1 => fun x0 x1 x2 x3 v =>
    if x2 ≤ (1 : Int32) then
      some (x2, v)
    else
      zbind (fX10_voteOf x0 x1 (1 : Int32) (0 : Int32) (x2 - (1 : Int32)) v) fun r_2 v_1 =>
      if r_2 = x3 then
        (fX10_quorum_46 n) x0 x1 (x2 + (-1 : Int32)) x3 v_1
      else
        some (x2, v_1)
set_option maxRecDepth 4000 in
theorem jX10_quorum_46 (x : zCx) (G : zG) (F : zF x G cX10_quorum 4 RX10 3 123) (hr : x.2.2.2.2.2.2.2.2.1.sig.returnType = (Option.some FieldType.int)) (hk : x.2.2.2.2.2.2.2.2.1.locks = false) (r : Int32) (w : zV)  : ∀ (n : Nat) (x0 : Nat) (t0 : zty G x0 1 10) (x1 : Int32) (x2 : Int32) (x3 : Int32) (v : zV), fX10_quorum_46 n x0 x1 x2 x3 v = some (r, w) → zJ x G 4 (zQ x G (some (.int r)) w 0 0) 0 0 46 [(0, zr G x0), (1, .int x1), (2, .int x2), (3, .int x3)] [] v := by
  intro n
  induction n with
  | zero => intro x0 t0 x1 x2 x3 v h; exact absurd h (by intro q; cases q)
  | succ n ih =>
    intro x0 t0 x1 x2 x3 v h
    rw [fX10_quorum_46] at h
    dsimp only at h
    refine z_iload_n F dX10_quorum_46 rfl 2 rfl ?_
    refine z_iconst (y := (1 : Int32)) F dX10_quorum_47 rfl ?_
    refine z_icmp_le F 71 dX10_quorum_48 rfl (fun hc => ?_) (fun hc => ?_)
    · replace h := zif_t hc h
      refine z_iload_n F dX10_quorum_71 rfl 2 rfl ?_
      cases h
      exact z_reti F hr hk dX10_quorum_72
    · replace h := zif_f hc h
      refine z_aload_n F dX10_quorum_51 rfl 0 rfl ?_
      refine z_iload_n F dX10_quorum_52 rfl 1 rfl ?_
      refine z_iconst (y := (1 : Int32)) F dX10_quorum_53 rfl ?_
      refine z_iconst (y := (0 : Int32)) F dX10_quorum_54 rfl ?_
      refine z_iload_n F dX10_quorum_55 rfl 2 rfl ?_
      refine z_iconst (y := (1 : Int32)) F dX10_quorum_56 rfl ?_
      refine z_isub F dX10_quorum_57 ?_
      obtain ⟨r_2, v_1, hq58, h⟩ := zbind_ex h
      refine z_callVi F [.int x1, .int (1 : Int32), .int (0 : Int32), .int (x2 - (1 : Int32))] [] (kX10_voteOf x.2.1 G x0 t0 x1 (1 : Int32) (0 : Int32) (x2 - (1 : Int32)) v r_2 v_1 hq58) mI_X10_voteOf (c := 10) rfl t0 wM_X10_410 mi_X10_voteOf sl_X10_voteOf dX10_quorum_58 rfl ⟨Nat.le_of_ble_eq_true rfl, Nat.le_of_ble_eq_true rfl⟩ rfl (Nat.le_of_ble_eq_true rfl) ⟨Nat.zero_le _, Nat.zero_le _⟩ ?_
      refine z_iload_n F dX10_quorum_61 rfl 3 rfl ?_
      refine z_icmp_ne F 71 dX10_quorum_62 rfl (fun hc => ?_) (fun hc => ?_)
      · replace h := zif_f hc h
        refine z_iload_n F dX10_quorum_71 rfl 2 rfl ?_
        cases h
        exact z_reti F hr hk dX10_quorum_72
      · replace h := zif_t hc h
        refine z_iinc F [(2, .int (x2 + (-1 : Int32))), (0, zr G x0), (1, .int x1), (3, .int x3)] dX10_quorum_65 2 rfl rfl (Nat.le_of_ble_eq_true rfl) rfl ?_
        refine z_goto F 46 dX10_quorum_68 rfl ?_
        refine z_ls [(0, zr G x0), (1, .int x1), (2, .int (x2 + (-1 : Int32))), (3, .int x3)] [1, 2, 0, 3] rfl ?_
        exact ih x0 t0 x1 (x2 + (-1 : Int32)) x3 v_1 h

def fX10_quorum_19  (x0 : Nat) (x1 : Int32) (s0 : Nat) (s1 : Int32) (v : zV) : Option (Int32 × zV) :=
  zbind (fX10_bad s0 s1 (1 : Int32) (0 : Int32) v) fun r_2 v_1 =>
  if r_2 = (0 : Int32) then
    zix (61 : Int32) (zlen (zrf x0 35)) <|
    zbind (fX10_voteOf x0 x1 (1 : Int32) (0 : Int32) (v_1 (zrf x0 35) ((61 : Int32)).toNatClampNeg) v_1) fun r_4 v_3 =>
    fX10_quorum_46  zFU x0 x1 (v_1 (zrf x0 35) ((61 : Int32)).toNatClampNeg) r_4 v_3
  else
    some ((0 : Int32), v_1)
set_option maxRecDepth 4000 in
theorem jX10_quorum_19 (x : zCx) (G : zG) (F : zF x G cX10_quorum 4 RX10 3 123) (hr : x.2.2.2.2.2.2.2.2.1.sig.returnType = (Option.some FieldType.int)) (hk : x.2.2.2.2.2.2.2.2.1.locks = false) (r : Int32) (w : zV)  : ∀ (x0 : Nat) (t0 : zty G x0 1 10) (x1 : Int32) (s0 : Nat) (ts0 : zty G s0 1 10) (s1 : Int32) (v : zV), fX10_quorum_19 x0 x1 s0 s1 v = some (r, w) → zJ x G 4 (zQ x G (some (.int r)) w 0 0) 0 0 19 [(0, zr G x0), (1, .int x1)] [.int s1, zr G s0] v := by
  intro x0 t0 x1 s0 ts0 s1 v h
  unfold fX10_quorum_19 at h
  refine z_iconst (y := (1 : Int32)) F dX10_quorum_19 rfl ?_
  refine z_iconst (y := (0 : Int32)) F dX10_quorum_20 rfl ?_
  obtain ⟨r_2, v_1, hq21, h⟩ := zbind_ex h
  refine z_callVi F [.int s1, .int (1 : Int32), .int (0 : Int32)] [] (kX10_bad x.2.1 G s0 ts0 s1 (1 : Int32) (0 : Int32) v r_2 v_1 hq21) mI_X10_bad (c := 10) rfl ts0 wM_X10_220 mi_X10_bad sl_X10_bad dX10_quorum_21 rfl ⟨Nat.le_of_ble_eq_true rfl, Nat.le_of_ble_eq_true rfl⟩ rfl (Nat.le_of_ble_eq_true rfl) ⟨Nat.zero_le _, Nat.zero_le _⟩ ?_
  refine z_if_eq F 29 dX10_quorum_24 rfl (fun hc => ?_) (fun hc => ?_)
  · replace h := zif_t hc h
    refine z_aload_n F dX10_quorum_29 rfl 0 rfl ?_
    refine zg_10_35 F t0 wF_X10_85 dX10_quorum_30 ?_
    refine z_bipush (y := (61 : Int32)) F dX10_quorum_33 rfl ?_
    obtain ⟨hi35, h⟩ := zix_ex h
    refine z_iald F (zt_f tc_10_35 t0) dX10_quorum_35 hi35 ?_
    refine z_istore_n F [(2, .int (v_1 (zrf x0 35) ((61 : Int32)).toNatClampNeg)), (0, zr G x0), (1, .int x1)] dX10_quorum_36 rfl (Nat.le_of_ble_eq_true rfl) rfl ?_
    refine z_aload_n F dX10_quorum_37 rfl 1 rfl ?_
    refine z_iload_n F dX10_quorum_38 rfl 2 rfl ?_
    refine z_iconst (y := (1 : Int32)) F dX10_quorum_39 rfl ?_
    refine z_iconst (y := (0 : Int32)) F dX10_quorum_40 rfl ?_
    refine z_iload_n F dX10_quorum_41 rfl 0 rfl ?_
    obtain ⟨r_4, v_3, hq42, h⟩ := zbind_ex h
    refine z_callVi F [.int x1, .int (1 : Int32), .int (0 : Int32), .int (v_1 (zrf x0 35) ((61 : Int32)).toNatClampNeg)] [] (kX10_voteOf x.2.1 G x0 t0 x1 (1 : Int32) (0 : Int32) (v_1 (zrf x0 35) ((61 : Int32)).toNatClampNeg) v_1 r_4 v_3 hq42) mI_X10_voteOf (c := 10) rfl t0 wM_X10_410 mi_X10_voteOf sl_X10_voteOf dX10_quorum_42 rfl ⟨Nat.le_of_ble_eq_true rfl, Nat.le_of_ble_eq_true rfl⟩ rfl (Nat.le_of_ble_eq_true rfl) ⟨Nat.zero_le _, Nat.zero_le _⟩ ?_
    refine z_istore_n F [(3, .int r_4), (2, .int (v_1 (zrf x0 35) ((61 : Int32)).toNatClampNeg)), (0, zr G x0), (1, .int x1)] dX10_quorum_45 rfl (Nat.le_of_ble_eq_true rfl) rfl ?_
    refine z_ls [(0, zr G x0), (1, .int x1), (2, .int (v_1 (zrf x0 35) ((61 : Int32)).toNatClampNeg)), (3, .int r_4)] [2, 3, 1, 0] rfl ?_
    exact jX10_quorum_46 x G F hr hk r w   zFU x0 t0 x1 (v_1 (zrf x0 35) ((61 : Int32)).toNatClampNeg) r_4 v_3 h
  · replace h := zif_f hc h
    refine z_iconst (y := (0 : Int32)) F dX10_quorum_27 rfl ?_
    cases h
    exact z_reti F hr hk dX10_quorum_28

def fX10_quorum (x0 : Nat) (x1 : Int32) (v : zV) : Option (Int32 × zV) :=
  zlet (zup v x0 0 (0 : Int32)) fun v_1 =>
  zbind (fX10_isQuestion x0 x1 v_1) fun r_3 v_2 =>
  if r_3 = (0 : Int32) then
    fX10_quorum_19  x0 x1 x0 (1 : Int32) v_2
  else
    fX10_quorum_19  x0 x1 x0 (0 : Int32) v_2
set_option maxRecDepth 4000 in
theorem kX10_quorum (l : Launch) (G : zG) (x0 : Nat) (t0 : zty G x0 1 10) (x1 : Int32) (v : zV) (r : Int32) (w : zV) (h : fX10_quorum x0 x1 v = some (r, w)) : zMet l yX10_quorum cX10_quorum 4 (Option.some FieldType.int) 3 123 0 0 [zr G x0, .int x1] G v (some (.int r)) w := by
  refine zM_of (own := RX10) (by decide) rfl (Nat.le_of_ble_eq_true rfl) (fun x hl F hr hk hcs => ?_)
  subst hl
  refine z_ls [(0, zr G x0), (1, .int x1)] [0, 1] rfl ?_
  unfold fX10_quorum at h
  refine z_aload_n F dX10_quorum_0 rfl 0 rfl ?_
  refine z_iconst (y := (0 : Int32)) F dX10_quorum_1 rfl ?_
  refine zp_10_0 F t0 wF_X10_134 dX10_quorum_2 ?_
  obtain ⟨v_1, ev_1, h⟩ := zlet_ex h
  refine z_heap ev_1 ?_
  refine z_aload_n F dX10_quorum_5 rfl 0 rfl ?_
  refine z_aload_n F dX10_quorum_6 rfl 0 rfl ?_
  refine z_iload_n F dX10_quorum_7 rfl 1 rfl ?_
  obtain ⟨r_3, v_2, hq8, h⟩ := zbind_ex h
  refine z_callVi F [.int x1] [zr G x0] (kX10_isQuestion x.2.1 G x0 t0 x1 v_1 r_3 v_2 hq8) mI_X10_isQuestion (c := 10) rfl t0 wM_X10_304 mi_X10_isQuestion sl_X10_isQuestion dX10_quorum_8 rfl ⟨Nat.le_of_ble_eq_true rfl, Nat.le_of_ble_eq_true rfl⟩ rfl (Nat.le_of_ble_eq_true rfl) ⟨Nat.zero_le _, Nat.zero_le _⟩ ?_
  refine z_if_ne F 18 dX10_quorum_11 rfl (fun hc => ?_) (fun hc => ?_)
  · replace h := zif_f hc h
    refine z_iconst (y := (0 : Int32)) F dX10_quorum_18 rfl ?_
    refine z_ls [(0, zr G x0), (1, .int x1)] [0, 1] rfl ?_
    exact jX10_quorum_19 x G F hr hk r w   x0 t0 x1 x0 t0 (0 : Int32) v_2 h
  · replace h := zif_t hc h
    refine z_iconst (y := (1 : Int32)) F dX10_quorum_14 rfl ?_
    refine z_goto F 19 dX10_quorum_15 rfl ?_
    refine z_ls [(0, zr G x0), (1, .int x1)] [0, 1] rfl ?_
    exact jX10_quorum_19 x G F hr hk r w   x0 t0 x1 x0 t0 (1 : Int32) v_2 h

theorem dX10_seams_0 : decode cX10_seams 0 = .ok (.aload_n 0, 1) := by decide +kernel
theorem dX10_seams_1 : decode cX10_seams 1 = .ok (.iconst 0, 1) := by decide +kernel
theorem dX10_seams_2 : decode cX10_seams 2 = .ok (.putfield 134, 3) := by decide +kernel
theorem dX10_seams_5 : decode cX10_seams 5 = .ok (.iconst 0, 1) := by decide +kernel
theorem dX10_seams_6 : decode cX10_seams 6 = .ok (.istore_n 1, 1) := by decide +kernel
theorem dX10_seams_7 : decode cX10_seams 7 = .ok (.iconst 1, 1) := by decide +kernel
theorem dX10_seams_8 : decode cX10_seams 8 = .ok (.istore_n 2, 1) := by decide +kernel
theorem dX10_seams_9 : decode cX10_seams 9 = .ok (.iload_n 2, 1) := by decide +kernel
theorem dX10_seams_10 : decode cX10_seams 10 = .ok (.aload_n 0, 1) := by decide +kernel
theorem dX10_seams_11 : decode cX10_seams 11 = .ok (.getfield 85, 3) := by decide +kernel
theorem dX10_seams_14 : decode cX10_seams 14 = .ok (.bipush 61, 2) := by decide +kernel
theorem dX10_seams_16 : decode cX10_seams 16 = .ok (.iaload, 1) := by decide +kernel
theorem dX10_seams_17 : decode cX10_seams 17 = .ok (.if_icmp .ge 46, 3) := by decide +kernel
theorem dX10_seams_20 : decode cX10_seams 20 = .ok (.iload_n 1, 1) := by decide +kernel
theorem dX10_seams_21 : decode cX10_seams 21 = .ok (.aload_n 0, 1) := by decide +kernel
theorem dX10_seams_22 : decode cX10_seams 22 = .ok (.aload_n 0, 1) := by decide +kernel
theorem dX10_seams_23 : decode cX10_seams 23 = .ok (.getfield 85, 3) := by decide +kernel
theorem dX10_seams_26 : decode cX10_seams 26 = .ok (.bipush 48, 2) := by decide +kernel
theorem dX10_seams_28 : decode cX10_seams 28 = .ok (.iload_n 2, 1) := by decide +kernel
theorem dX10_seams_29 : decode cX10_seams 29 = .ok (.iadd, 1) := by decide +kernel
theorem dX10_seams_30 : decode cX10_seams 30 = .ok (.iconst 1, 1) := by decide +kernel
theorem dX10_seams_31 : decode cX10_seams 31 = .ok (.isub, 1) := by decide +kernel
theorem dX10_seams_32 : decode cX10_seams 32 = .ok (.iaload, 1) := by decide +kernel
theorem dX10_seams_33 : decode cX10_seams 33 = .ok (.aload_n 0, 1) := by decide +kernel
theorem dX10_seams_34 : decode cX10_seams 34 = .ok (.getfield 85, 3) := by decide +kernel
theorem dX10_seams_37 : decode cX10_seams 37 = .ok (.bipush 48, 2) := by decide +kernel
theorem dX10_seams_39 : decode cX10_seams 39 = .ok (.iload_n 2, 1) := by decide +kernel
theorem dX10_seams_40 : decode cX10_seams 40 = .ok (.iadd, 1) := by decide +kernel
theorem dX10_seams_41 : decode cX10_seams 41 = .ok (.iaload, 1) := by decide +kernel
theorem dX10_seams_42 : decode cX10_seams 42 = .ok (.invokevirtual 307, 3) := by decide +kernel
theorem dX10_seams_45 : decode cX10_seams 45 = .ok (.ifCond .ne 9, 3) := by decide +kernel
theorem dX10_seams_48 : decode cX10_seams 48 = .ok (.iconst 1, 1) := by decide +kernel
theorem dX10_seams_49 : decode cX10_seams 49 = .ok (.iload_n 2, 1) := by decide +kernel
theorem dX10_seams_50 : decode cX10_seams 50 = .ok (.ishl, 1) := by decide +kernel
theorem dX10_seams_51 : decode cX10_seams 51 = .ok (.goto 4, 3) := by decide +kernel
theorem dX10_seams_54 : decode cX10_seams 54 = .ok (.iconst 0, 1) := by decide +kernel
theorem dX10_seams_55 : decode cX10_seams 55 = .ok (.ior, 1) := by decide +kernel
theorem dX10_seams_56 : decode cX10_seams 56 = .ok (.istore_n 1, 1) := by decide +kernel
theorem dX10_seams_57 : decode cX10_seams 57 = .ok (.iinc 2 1, 3) := by decide +kernel
theorem dX10_seams_60 : decode cX10_seams 60 = .ok (.goto (-51), 3) := by decide +kernel
theorem dX10_seams_63 : decode cX10_seams 63 = .ok (.iload_n 1, 1) := by decide +kernel
theorem dX10_seams_64 : decode cX10_seams 64 = .ok (.ireturn, 1) := by decide +kernel
def fX10_seams_9  : Nat → Nat → Int32 → Int32 → zV → Option (Int32 × zV)
  | 0 => fun _ _ _ _ => none
  | n + 1 => fun x0 x1 x2 v =>
    zix (61 : Int32) (zlen (zrf x0 35)) <|
    if (v (zrf x0 35) ((61 : Int32)).toNatClampNeg) ≤ x2 then
      some (x1, v)
    else
      zix (((48 : Int32) + x2) - (1 : Int32)) (zlen (zrf x0 35)) <|
      zix ((48 : Int32) + x2) (zlen (zrf x0 35)) <|
      zbind (fX10_differsOf x0 (v (zrf x0 35) (((48 : Int32) + x2) - (1 : Int32)).toNatClampNeg) (v (zrf x0 35) ((48 : Int32) + x2).toNatClampNeg) v) fun r_2 v_1 =>
      if r_2 = (0 : Int32) then
        (fX10_seams_9 n) x0 (x1 ||| ((1 : Int32) <<< (x2 &&& 31))) (x2 + (1 : Int32)) v_1
      else
        (fX10_seams_9 n) x0 (x1 ||| (0 : Int32)) (x2 + (1 : Int32)) v_1
set_option maxRecDepth 4000 in
theorem jX10_seams_9 (x : zCx) (G : zG) (F : zF x G cX10_seams 3 RX10 2 104) (hr : x.2.2.2.2.2.2.2.2.1.sig.returnType = (Option.some FieldType.int)) (hk : x.2.2.2.2.2.2.2.2.1.locks = false) (r : Int32) (w : zV)  : ∀ (n : Nat) (x0 : Nat) (t0 : zty G x0 1 10) (x1 : Int32) (x2 : Int32) (v : zV), fX10_seams_9 n x0 x1 x2 v = some (r, w) → zJ x G 3 (zQ x G (some (.int r)) w 0 0) 0 0 9 [(0, zr G x0), (1, .int x1), (2, .int x2)] [] v := by
  intro n
  induction n with
  | zero => intro x0 t0 x1 x2 v h; exact absurd h (by intro q; cases q)
  | succ n ih =>
    intro x0 t0 x1 x2 v h
    rw [fX10_seams_9] at h
    dsimp only at h
    refine z_iload_n F dX10_seams_9 rfl 2 rfl ?_
    refine z_aload_n F dX10_seams_10 rfl 0 rfl ?_
    refine zg_10_35 F t0 wF_X10_85 dX10_seams_11 ?_
    refine z_bipush (y := (61 : Int32)) F dX10_seams_14 rfl ?_
    obtain ⟨hi16, h⟩ := zix_ex h
    refine z_iald F (zt_f tc_10_35 t0) dX10_seams_16 hi16 ?_
    refine z_icmp_ge F 63 dX10_seams_17 rfl (fun hc => ?_) (fun hc => ?_)
    · replace h := zif_t hc h
      refine z_iload_n F dX10_seams_63 rfl 1 rfl ?_
      cases h
      exact z_reti F hr hk dX10_seams_64
    · replace h := zif_f hc h
      refine z_iload_n F dX10_seams_20 rfl 1 rfl ?_
      refine z_aload_n F dX10_seams_21 rfl 0 rfl ?_
      refine z_aload_n F dX10_seams_22 rfl 0 rfl ?_
      refine zg_10_35 F t0 wF_X10_85 dX10_seams_23 ?_
      refine z_bipush (y := (48 : Int32)) F dX10_seams_26 rfl ?_
      refine z_iload_n F dX10_seams_28 rfl 2 rfl ?_
      refine z_iadd F dX10_seams_29 ?_
      refine z_iconst (y := (1 : Int32)) F dX10_seams_30 rfl ?_
      refine z_isub F dX10_seams_31 ?_
      obtain ⟨hi32, h⟩ := zix_ex h
      refine z_iald F (zt_f tc_10_35 t0) dX10_seams_32 hi32 ?_
      refine z_aload_n F dX10_seams_33 rfl 0 rfl ?_
      refine zg_10_35 F t0 wF_X10_85 dX10_seams_34 ?_
      refine z_bipush (y := (48 : Int32)) F dX10_seams_37 rfl ?_
      refine z_iload_n F dX10_seams_39 rfl 2 rfl ?_
      refine z_iadd F dX10_seams_40 ?_
      obtain ⟨hi41, h⟩ := zix_ex h
      refine z_iald F (zt_f tc_10_35 t0) dX10_seams_41 hi41 ?_
      obtain ⟨r_2, v_1, hq42, h⟩ := zbind_ex h
      refine z_callVi F [.int (v (zrf x0 35) (((48 : Int32) + x2) - (1 : Int32)).toNatClampNeg), .int (v (zrf x0 35) ((48 : Int32) + x2).toNatClampNeg)] [.int x1] (kX10_differsOf x.2.1 G x0 t0 (v (zrf x0 35) (((48 : Int32) + x2) - (1 : Int32)).toNatClampNeg) (v (zrf x0 35) ((48 : Int32) + x2).toNatClampNeg) v r_2 v_1 hq42) mI_X10_differsOf (c := 10) rfl t0 wM_X10_307 mi_X10_differsOf sl_X10_differsOf dX10_seams_42 rfl ⟨Nat.le_of_ble_eq_true rfl, Nat.le_of_ble_eq_true rfl⟩ rfl (Nat.le_of_ble_eq_true rfl) ⟨Nat.zero_le _, Nat.zero_le _⟩ ?_
      refine z_if_ne F 54 dX10_seams_45 rfl (fun hc => ?_) (fun hc => ?_)
      · replace h := zif_f hc h
        refine z_iconst (y := (0 : Int32)) F dX10_seams_54 rfl ?_
        refine z_ior F dX10_seams_55 ?_
        refine z_istore_n F [(1, .int (x1 ||| (0 : Int32))), (0, zr G x0), (2, .int x2)] dX10_seams_56 rfl (Nat.le_of_ble_eq_true rfl) rfl ?_
        refine z_iinc F [(2, .int (x2 + (1 : Int32))), (1, .int (x1 ||| (0 : Int32))), (0, zr G x0)] dX10_seams_57 2 rfl rfl (Nat.le_of_ble_eq_true rfl) rfl ?_
        refine z_goto F 9 dX10_seams_60 rfl ?_
        refine z_ls [(0, zr G x0), (1, .int (x1 ||| (0 : Int32))), (2, .int (x2 + (1 : Int32)))] [2, 1, 0] rfl ?_
        exact ih x0 t0 (x1 ||| (0 : Int32)) (x2 + (1 : Int32)) v_1 h
      · replace h := zif_t hc h
        refine z_iconst (y := (1 : Int32)) F dX10_seams_48 rfl ?_
        refine z_iload_n F dX10_seams_49 rfl 2 rfl ?_
        refine z_ishl F dX10_seams_50 ?_
        refine z_goto F 55 dX10_seams_51 rfl ?_
        refine z_ior F dX10_seams_55 ?_
        refine z_istore_n F [(1, .int (x1 ||| ((1 : Int32) <<< (x2 &&& 31)))), (0, zr G x0), (2, .int x2)] dX10_seams_56 rfl (Nat.le_of_ble_eq_true rfl) rfl ?_
        refine z_iinc F [(2, .int (x2 + (1 : Int32))), (1, .int (x1 ||| ((1 : Int32) <<< (x2 &&& 31)))), (0, zr G x0)] dX10_seams_57 2 rfl rfl (Nat.le_of_ble_eq_true rfl) rfl ?_
        refine z_goto F 9 dX10_seams_60 rfl ?_
        refine z_ls [(0, zr G x0), (1, .int (x1 ||| ((1 : Int32) <<< (x2 &&& 31)))), (2, .int (x2 + (1 : Int32)))] [2, 1, 0] rfl ?_
        exact ih x0 t0 (x1 ||| ((1 : Int32) <<< (x2 &&& 31))) (x2 + (1 : Int32)) v_1 h

def fX10_seams (x0 : Nat) (v : zV) : Option (Int32 × zV) :=
  zlet (zup v x0 0 (0 : Int32)) fun v_1 =>
  fX10_seams_9  zFU x0 (0 : Int32) (1 : Int32) v_1
set_option maxRecDepth 4000 in
theorem kX10_seams (l : Launch) (G : zG) (x0 : Nat) (t0 : zty G x0 1 10) (v : zV) (r : Int32) (w : zV) (h : fX10_seams x0 v = some (r, w)) : zMet l yX10_seams cX10_seams 3 (Option.some FieldType.int) 2 104 0 0 [zr G x0] G v (some (.int r)) w := by
  refine zM_of (own := RX10) (by decide) rfl (Nat.le_of_ble_eq_true rfl) (fun x hl F hr hk hcs => ?_)
  subst hl
  refine z_ls [(0, zr G x0)] [0] rfl ?_
  unfold fX10_seams at h
  refine z_aload_n F dX10_seams_0 rfl 0 rfl ?_
  refine z_iconst (y := (0 : Int32)) F dX10_seams_1 rfl ?_
  refine zp_10_0 F t0 wF_X10_134 dX10_seams_2 ?_
  obtain ⟨v_1, ev_1, h⟩ := zlet_ex h
  refine z_heap ev_1 ?_
  refine z_iconst (y := (0 : Int32)) F dX10_seams_5 rfl ?_
  refine z_istore_n F [(1, .int (0 : Int32)), (0, zr G x0)] dX10_seams_6 rfl (Nat.le_of_ble_eq_true rfl) rfl ?_
  refine z_iconst (y := (1 : Int32)) F dX10_seams_7 rfl ?_
  refine z_istore_n F [(2, .int (1 : Int32)), (1, .int (0 : Int32)), (0, zr G x0)] dX10_seams_8 rfl (Nat.le_of_ble_eq_true rfl) rfl ?_
  refine z_ls [(0, zr G x0), (1, .int (0 : Int32)), (2, .int (1 : Int32))] [2, 1, 0] rfl ?_
  exact jX10_seams_9 x G F hr hk r w   zFU x0 t0 (0 : Int32) (1 : Int32) v_1 h

theorem dX10_kin_0 : decode cX10_kin 0 = .ok (.aload_n 0, 1) := by decide +kernel
theorem dX10_kin_1 : decode cX10_kin 1 = .ok (.iconst 0, 1) := by decide +kernel
theorem dX10_kin_2 : decode cX10_kin 2 = .ok (.putfield 134, 3) := by decide +kernel
theorem dX10_kin_5 : decode cX10_kin 5 = .ok (.iconst 0, 1) := by decide +kernel
theorem dX10_kin_6 : decode cX10_kin 6 = .ok (.istore_n 1, 1) := by decide +kernel
theorem dX10_kin_7 : decode cX10_kin 7 = .ok (.iconst 0, 1) := by decide +kernel
theorem dX10_kin_8 : decode cX10_kin 8 = .ok (.istore_n 2, 1) := by decide +kernel
theorem dX10_kin_9 : decode cX10_kin 9 = .ok (.iload_n 2, 1) := by decide +kernel
theorem dX10_kin_10 : decode cX10_kin 10 = .ok (.aload_n 0, 1) := by decide +kernel
theorem dX10_kin_11 : decode cX10_kin 11 = .ok (.getfield 85, 3) := by decide +kernel
theorem dX10_kin_14 : decode cX10_kin 14 = .ok (.bipush 61, 2) := by decide +kernel
theorem dX10_kin_16 : decode cX10_kin 16 = .ok (.iaload, 1) := by decide +kernel
theorem dX10_kin_17 : decode cX10_kin 17 = .ok (.if_icmp .ge 74, 3) := by decide +kernel
theorem dX10_kin_20 : decode cX10_kin 20 = .ok (.iconst 1, 1) := by decide +kernel
theorem dX10_kin_21 : decode cX10_kin 21 = .ok (.istore_n 3, 1) := by decide +kernel
theorem dX10_kin_22 : decode cX10_kin 22 = .ok (.iconst 0, 1) := by decide +kernel
theorem dX10_kin_23 : decode cX10_kin 23 = .ok (.istore 4, 2) := by decide +kernel
theorem dX10_kin_25 : decode cX10_kin 25 = .ok (.iload 4, 2) := by decide +kernel
theorem dX10_kin_27 : decode cX10_kin 27 = .ok (.iload_n 2, 1) := by decide +kernel
theorem dX10_kin_28 : decode cX10_kin 28 = .ok (.if_icmp .ge 45, 3) := by decide +kernel
theorem dX10_kin_31 : decode cX10_kin 31 = .ok (.iload_n 3, 1) := by decide +kernel
theorem dX10_kin_32 : decode cX10_kin 32 = .ok (.ifCond .eq 33, 3) := by decide +kernel
theorem dX10_kin_35 : decode cX10_kin 35 = .ok (.aload_n 0, 1) := by decide +kernel
theorem dX10_kin_36 : decode cX10_kin 36 = .ok (.aload_n 0, 1) := by decide +kernel
theorem dX10_kin_37 : decode cX10_kin 37 = .ok (.getfield 85, 3) := by decide +kernel
theorem dX10_kin_40 : decode cX10_kin 40 = .ok (.bipush 48, 2) := by decide +kernel
theorem dX10_kin_42 : decode cX10_kin 42 = .ok (.iload_n 2, 1) := by decide +kernel
theorem dX10_kin_43 : decode cX10_kin 43 = .ok (.iadd, 1) := by decide +kernel
theorem dX10_kin_44 : decode cX10_kin 44 = .ok (.iaload, 1) := by decide +kernel
theorem dX10_kin_45 : decode cX10_kin 45 = .ok (.aload_n 0, 1) := by decide +kernel
theorem dX10_kin_46 : decode cX10_kin 46 = .ok (.getfield 85, 3) := by decide +kernel
theorem dX10_kin_49 : decode cX10_kin 49 = .ok (.bipush 48, 2) := by decide +kernel
theorem dX10_kin_51 : decode cX10_kin 51 = .ok (.iload 4, 2) := by decide +kernel
theorem dX10_kin_53 : decode cX10_kin 53 = .ok (.iadd, 1) := by decide +kernel
theorem dX10_kin_54 : decode cX10_kin 54 = .ok (.iaload, 1) := by decide +kernel
theorem dX10_kin_55 : decode cX10_kin 55 = .ok (.invokevirtual 307, 3) := by decide +kernel
theorem dX10_kin_58 : decode cX10_kin 58 = .ok (.ifCond .le 7, 3) := by decide +kernel
theorem dX10_kin_61 : decode cX10_kin 61 = .ok (.iconst 1, 1) := by decide +kernel
theorem dX10_kin_62 : decode cX10_kin 62 = .ok (.goto 4, 3) := by decide +kernel
theorem dX10_kin_65 : decode cX10_kin 65 = .ok (.iconst 0, 1) := by decide +kernel
theorem dX10_kin_66 : decode cX10_kin 66 = .ok (.istore_n 3, 1) := by decide +kernel
theorem dX10_kin_67 : decode cX10_kin 67 = .ok (.iinc 4 1, 3) := by decide +kernel
theorem dX10_kin_70 : decode cX10_kin 70 = .ok (.goto (-45), 3) := by decide +kernel
theorem dX10_kin_73 : decode cX10_kin 73 = .ok (.iload_n 1, 1) := by decide +kernel
theorem dX10_kin_74 : decode cX10_kin 74 = .ok (.iload_n 3, 1) := by decide +kernel
theorem dX10_kin_75 : decode cX10_kin 75 = .ok (.ifCond .eq 7, 3) := by decide +kernel
theorem dX10_kin_78 : decode cX10_kin 78 = .ok (.iconst 1, 1) := by decide +kernel
theorem dX10_kin_79 : decode cX10_kin 79 = .ok (.goto 4, 3) := by decide +kernel
theorem dX10_kin_82 : decode cX10_kin 82 = .ok (.iconst 0, 1) := by decide +kernel
theorem dX10_kin_83 : decode cX10_kin 83 = .ok (.iadd, 1) := by decide +kernel
theorem dX10_kin_84 : decode cX10_kin 84 = .ok (.istore_n 1, 1) := by decide +kernel
theorem dX10_kin_85 : decode cX10_kin 85 = .ok (.iinc 2 1, 3) := by decide +kernel
theorem dX10_kin_88 : decode cX10_kin 88 = .ok (.goto (-79), 3) := by decide +kernel
theorem dX10_kin_91 : decode cX10_kin 91 = .ok (.iload_n 1, 1) := by decide +kernel
theorem dX10_kin_92 : decode cX10_kin 92 = .ok (.ireturn, 1) := by decide +kernel
def fX10_kin_25 (K9 : Nat → Int32 → Int32 → zV → Option (Int32 × zV)) : Nat → Nat → Int32 → Int32 → Int32 → Int32 → zV → Option (Int32 × zV)
  | 0 => fun _ _ _ _ _ _ => none
  | n + 1 => fun x0 x1 x2 x3 x4 v =>
    if x2 ≤ x4 then
      if x3 = (0 : Int32) then
        K9 x0 (x1 + (0 : Int32)) (x2 + (1 : Int32)) v
      else
        K9 x0 (x1 + (1 : Int32)) (x2 + (1 : Int32)) v
    else
      if x3 = (0 : Int32) then
        (fX10_kin_25 K9 n) x0 x1 x2 (0 : Int32) (x4 + (1 : Int32)) v
      else
        zix ((48 : Int32) + x2) (zlen (zrf x0 35)) <|
        zix ((48 : Int32) + x4) (zlen (zrf x0 35)) <|
        zbind (fX10_differsOf x0 (v (zrf x0 35) ((48 : Int32) + x2).toNatClampNeg) (v (zrf x0 35) ((48 : Int32) + x4).toNatClampNeg) v) fun r_2 v_1 =>
        if r_2 ≤ (0 : Int32) then
          (fX10_kin_25 K9 n) x0 x1 x2 (0 : Int32) (x4 + (1 : Int32)) v_1
        else
          (fX10_kin_25 K9 n) x0 x1 x2 (1 : Int32) (x4 + (1 : Int32)) v_1
set_option maxRecDepth 4000 in
theorem jX10_kin_25 (x : zCx) (G : zG) (F : zF x G cX10_kin 5 RX10 2 104) (hr : x.2.2.2.2.2.2.2.2.1.sig.returnType = (Option.some FieldType.int)) (hk : x.2.2.2.2.2.2.2.2.1.locks = false) (r : Int32) (w : zV) (K9 : Nat → Int32 → Int32 → zV → Option (Int32 × zV)) (hK9 : ∀ (x0 : Nat) (t0 : zty G x0 1 10) (x1 : Int32) (x2 : Int32) (v : zV), K9 x0 x1 x2 v = some (r, w) → zJ x G 5 (zQ x G (some (.int r)) w 0 0) 0 0 9 [(0, zr G x0), (1, .int x1), (2, .int x2)] [] v) : ∀ (n : Nat) (x0 : Nat) (t0 : zty G x0 1 10) (x1 : Int32) (x2 : Int32) (x3 : Int32) (x4 : Int32) (v : zV), fX10_kin_25 K9 n x0 x1 x2 x3 x4 v = some (r, w) → zJ x G 5 (zQ x G (some (.int r)) w 0 0) 0 0 25 [(0, zr G x0), (1, .int x1), (2, .int x2), (3, .int x3), (4, .int x4)] [] v := by
  intro n
  induction n with
  | zero => intro x0 t0 x1 x2 x3 x4 v h; exact absurd h (by intro q; cases q)
  | succ n ih =>
    intro x0 t0 x1 x2 x3 x4 v h
    rw [fX10_kin_25] at h
    dsimp only at h
    refine z_iload F dX10_kin_25 4 rfl ?_
    refine z_iload_n F dX10_kin_27 rfl 2 rfl ?_
    refine z_icmp_ge F 73 dX10_kin_28 rfl (fun hc => ?_) (fun hc => ?_)
    · replace h := zif_t hc h
      refine z_iload_n F dX10_kin_73 rfl 1 rfl ?_
      refine z_iload_n F dX10_kin_74 rfl 3 rfl ?_
      refine z_if_eq F 82 dX10_kin_75 rfl (fun hc => ?_) (fun hc => ?_)
      · replace h := zif_t hc h
        refine z_iconst (y := (0 : Int32)) F dX10_kin_82 rfl ?_
        refine z_iadd F dX10_kin_83 ?_
        refine z_istore_n F [(1, .int (x1 + (0 : Int32))), (0, zr G x0), (2, .int x2), (3, .int x3), (4, .int x4)] dX10_kin_84 rfl (Nat.le_of_ble_eq_true rfl) rfl ?_
        refine z_iinc F [(2, .int (x2 + (1 : Int32))), (1, .int (x1 + (0 : Int32))), (0, zr G x0), (3, .int x3), (4, .int x4)] dX10_kin_85 2 rfl rfl (Nat.le_of_ble_eq_true rfl) rfl ?_
        refine z_goto F 9 dX10_kin_88 rfl ?_
        refine z_ls [(0, zr G x0), (1, .int (x1 + (0 : Int32))), (2, .int (x2 + (1 : Int32)))] [2, 1, 0] rfl ?_
        exact hK9 x0 t0 (x1 + (0 : Int32)) (x2 + (1 : Int32)) v h
      · replace h := zif_f hc h
        refine z_iconst (y := (1 : Int32)) F dX10_kin_78 rfl ?_
        refine z_goto F 83 dX10_kin_79 rfl ?_
        refine z_iadd F dX10_kin_83 ?_
        refine z_istore_n F [(1, .int (x1 + (1 : Int32))), (0, zr G x0), (2, .int x2), (3, .int x3), (4, .int x4)] dX10_kin_84 rfl (Nat.le_of_ble_eq_true rfl) rfl ?_
        refine z_iinc F [(2, .int (x2 + (1 : Int32))), (1, .int (x1 + (1 : Int32))), (0, zr G x0), (3, .int x3), (4, .int x4)] dX10_kin_85 2 rfl rfl (Nat.le_of_ble_eq_true rfl) rfl ?_
        refine z_goto F 9 dX10_kin_88 rfl ?_
        refine z_ls [(0, zr G x0), (1, .int (x1 + (1 : Int32))), (2, .int (x2 + (1 : Int32)))] [2, 1, 0] rfl ?_
        exact hK9 x0 t0 (x1 + (1 : Int32)) (x2 + (1 : Int32)) v h
    · replace h := zif_f hc h
      refine z_iload_n F dX10_kin_31 rfl 3 rfl ?_
      refine z_if_eq F 65 dX10_kin_32 rfl (fun hc => ?_) (fun hc => ?_)
      · replace h := zif_t hc h
        refine z_iconst (y := (0 : Int32)) F dX10_kin_65 rfl ?_
        refine z_istore_n F [(3, .int (0 : Int32)), (0, zr G x0), (1, .int x1), (2, .int x2), (4, .int x4)] dX10_kin_66 rfl (Nat.le_of_ble_eq_true rfl) rfl ?_
        refine z_iinc F [(4, .int (x4 + (1 : Int32))), (3, .int (0 : Int32)), (0, zr G x0), (1, .int x1), (2, .int x2)] dX10_kin_67 4 rfl rfl (Nat.le_of_ble_eq_true rfl) rfl ?_
        refine z_goto F 25 dX10_kin_70 rfl ?_
        refine z_ls [(0, zr G x0), (1, .int x1), (2, .int x2), (3, .int (0 : Int32)), (4, .int (x4 + (1 : Int32)))] [2, 3, 4, 1, 0] rfl ?_
        exact ih x0 t0 x1 x2 (0 : Int32) (x4 + (1 : Int32)) v h
      · replace h := zif_f hc h
        refine z_aload_n F dX10_kin_35 rfl 0 rfl ?_
        refine z_aload_n F dX10_kin_36 rfl 0 rfl ?_
        refine zg_10_35 F t0 wF_X10_85 dX10_kin_37 ?_
        refine z_bipush (y := (48 : Int32)) F dX10_kin_40 rfl ?_
        refine z_iload_n F dX10_kin_42 rfl 2 rfl ?_
        refine z_iadd F dX10_kin_43 ?_
        obtain ⟨hi44, h⟩ := zix_ex h
        refine z_iald F (zt_f tc_10_35 t0) dX10_kin_44 hi44 ?_
        refine z_aload_n F dX10_kin_45 rfl 0 rfl ?_
        refine zg_10_35 F t0 wF_X10_85 dX10_kin_46 ?_
        refine z_bipush (y := (48 : Int32)) F dX10_kin_49 rfl ?_
        refine z_iload F dX10_kin_51 4 rfl ?_
        refine z_iadd F dX10_kin_53 ?_
        obtain ⟨hi54, h⟩ := zix_ex h
        refine z_iald F (zt_f tc_10_35 t0) dX10_kin_54 hi54 ?_
        obtain ⟨r_2, v_1, hq55, h⟩ := zbind_ex h
        refine z_callVi F [.int (v (zrf x0 35) ((48 : Int32) + x2).toNatClampNeg), .int (v (zrf x0 35) ((48 : Int32) + x4).toNatClampNeg)] [] (kX10_differsOf x.2.1 G x0 t0 (v (zrf x0 35) ((48 : Int32) + x2).toNatClampNeg) (v (zrf x0 35) ((48 : Int32) + x4).toNatClampNeg) v r_2 v_1 hq55) mI_X10_differsOf (c := 10) rfl t0 wM_X10_307 mi_X10_differsOf sl_X10_differsOf dX10_kin_55 rfl ⟨Nat.le_of_ble_eq_true rfl, Nat.le_of_ble_eq_true rfl⟩ rfl (Nat.le_of_ble_eq_true rfl) ⟨Nat.zero_le _, Nat.zero_le _⟩ ?_
        refine z_if_le F 65 dX10_kin_58 rfl (fun hc => ?_) (fun hc => ?_)
        · replace h := zif_t hc h
          refine z_iconst (y := (0 : Int32)) F dX10_kin_65 rfl ?_
          refine z_istore_n F [(3, .int (0 : Int32)), (0, zr G x0), (1, .int x1), (2, .int x2), (4, .int x4)] dX10_kin_66 rfl (Nat.le_of_ble_eq_true rfl) rfl ?_
          refine z_iinc F [(4, .int (x4 + (1 : Int32))), (3, .int (0 : Int32)), (0, zr G x0), (1, .int x1), (2, .int x2)] dX10_kin_67 4 rfl rfl (Nat.le_of_ble_eq_true rfl) rfl ?_
          refine z_goto F 25 dX10_kin_70 rfl ?_
          refine z_ls [(0, zr G x0), (1, .int x1), (2, .int x2), (3, .int (0 : Int32)), (4, .int (x4 + (1 : Int32)))] [2, 3, 4, 1, 0] rfl ?_
          exact ih x0 t0 x1 x2 (0 : Int32) (x4 + (1 : Int32)) v_1 h
        · replace h := zif_f hc h
          refine z_iconst (y := (1 : Int32)) F dX10_kin_61 rfl ?_
          refine z_goto F 66 dX10_kin_62 rfl ?_
          refine z_istore_n F [(3, .int (1 : Int32)), (0, zr G x0), (1, .int x1), (2, .int x2), (4, .int x4)] dX10_kin_66 rfl (Nat.le_of_ble_eq_true rfl) rfl ?_
          refine z_iinc F [(4, .int (x4 + (1 : Int32))), (3, .int (1 : Int32)), (0, zr G x0), (1, .int x1), (2, .int x2)] dX10_kin_67 4 rfl rfl (Nat.le_of_ble_eq_true rfl) rfl ?_
          refine z_goto F 25 dX10_kin_70 rfl ?_
          refine z_ls [(0, zr G x0), (1, .int x1), (2, .int x2), (3, .int (1 : Int32)), (4, .int (x4 + (1 : Int32)))] [2, 3, 4, 1, 0] rfl ?_
          exact ih x0 t0 x1 x2 (1 : Int32) (x4 + (1 : Int32)) v_1 h

def fX10_kin_9  : Nat → Nat → Int32 → Int32 → zV → Option (Int32 × zV)
  | 0 => fun _ _ _ _ => none
  | n + 1 => fun x0 x1 x2 v =>
    zix (61 : Int32) (zlen (zrf x0 35)) <|
    if (v (zrf x0 35) ((61 : Int32)).toNatClampNeg) ≤ x2 then
      some (x1, v)
    else
      fX10_kin_25 (fX10_kin_9 n) zFU x0 x1 x2 (1 : Int32) (0 : Int32) v
set_option maxRecDepth 4000 in
theorem jX10_kin_9 (x : zCx) (G : zG) (F : zF x G cX10_kin 5 RX10 2 104) (hr : x.2.2.2.2.2.2.2.2.1.sig.returnType = (Option.some FieldType.int)) (hk : x.2.2.2.2.2.2.2.2.1.locks = false) (r : Int32) (w : zV)  : ∀ (n : Nat) (x0 : Nat) (t0 : zty G x0 1 10) (x1 : Int32) (x2 : Int32) (v : zV), fX10_kin_9 n x0 x1 x2 v = some (r, w) → zJ x G 5 (zQ x G (some (.int r)) w 0 0) 0 0 9 [(0, zr G x0), (1, .int x1), (2, .int x2)] [] v := by
  intro n
  induction n with
  | zero => intro x0 t0 x1 x2 v h; exact absurd h (by intro q; cases q)
  | succ n ih =>
    intro x0 t0 x1 x2 v h
    rw [fX10_kin_9] at h
    dsimp only at h
    refine z_iload_n F dX10_kin_9 rfl 2 rfl ?_
    refine z_aload_n F dX10_kin_10 rfl 0 rfl ?_
    refine zg_10_35 F t0 wF_X10_85 dX10_kin_11 ?_
    refine z_bipush (y := (61 : Int32)) F dX10_kin_14 rfl ?_
    obtain ⟨hi16, h⟩ := zix_ex h
    refine z_iald F (zt_f tc_10_35 t0) dX10_kin_16 hi16 ?_
    refine z_icmp_ge F 91 dX10_kin_17 rfl (fun hc => ?_) (fun hc => ?_)
    · replace h := zif_t hc h
      refine z_iload_n F dX10_kin_91 rfl 1 rfl ?_
      cases h
      exact z_reti F hr hk dX10_kin_92
    · replace h := zif_f hc h
      refine z_iconst (y := (1 : Int32)) F dX10_kin_20 rfl ?_
      refine z_istore_n F [(3, .int (1 : Int32)), (0, zr G x0), (1, .int x1), (2, .int x2)] dX10_kin_21 rfl (Nat.le_of_ble_eq_true rfl) rfl ?_
      refine z_iconst (y := (0 : Int32)) F dX10_kin_22 rfl ?_
      refine z_istore (n := 0) F [(4, .int (0 : Int32)), (3, .int (1 : Int32)), (0, zr G x0), (1, .int x1), (2, .int x2)] dX10_kin_23 (Nat.le_of_ble_eq_true rfl) rfl ?_
      refine z_ls [(0, zr G x0), (1, .int x1), (2, .int x2), (3, .int (1 : Int32)), (4, .int (0 : Int32))] [2, 3, 4, 1, 0] rfl ?_
      exact jX10_kin_25 x G F hr hk r w (fX10_kin_9 n) ih zFU x0 t0 x1 x2 (1 : Int32) (0 : Int32) v h

def fX10_kin (x0 : Nat) (v : zV) : Option (Int32 × zV) :=
  zlet (zup v x0 0 (0 : Int32)) fun v_1 =>
  fX10_kin_9  zFU x0 (0 : Int32) (0 : Int32) v_1
set_option maxRecDepth 4000 in
theorem kX10_kin (l : Launch) (G : zG) (x0 : Nat) (t0 : zty G x0 1 10) (v : zV) (r : Int32) (w : zV) (h : fX10_kin x0 v = some (r, w)) : zMet l yX10_kin cX10_kin 5 (Option.some FieldType.int) 2 104 0 0 [zr G x0] G v (some (.int r)) w := by
  refine zM_of (own := RX10) (by decide) rfl (Nat.le_of_ble_eq_true rfl) (fun x hl F hr hk hcs => ?_)
  subst hl
  refine z_ls [(0, zr G x0)] [0] rfl ?_
  unfold fX10_kin at h
  refine z_aload_n F dX10_kin_0 rfl 0 rfl ?_
  refine z_iconst (y := (0 : Int32)) F dX10_kin_1 rfl ?_
  refine zp_10_0 F t0 wF_X10_134 dX10_kin_2 ?_
  obtain ⟨v_1, ev_1, h⟩ := zlet_ex h
  refine z_heap ev_1 ?_
  refine z_iconst (y := (0 : Int32)) F dX10_kin_5 rfl ?_
  refine z_istore_n F [(1, .int (0 : Int32)), (0, zr G x0)] dX10_kin_6 rfl (Nat.le_of_ble_eq_true rfl) rfl ?_
  refine z_iconst (y := (0 : Int32)) F dX10_kin_7 rfl ?_
  refine z_istore_n F [(2, .int (0 : Int32)), (1, .int (0 : Int32)), (0, zr G x0)] dX10_kin_8 rfl (Nat.le_of_ble_eq_true rfl) rfl ?_
  refine z_ls [(0, zr G x0), (1, .int (0 : Int32)), (2, .int (0 : Int32))] [2, 1, 0] rfl ?_
  exact jX10_kin_9 x G F hr hk r w   zFU x0 t0 (0 : Int32) (0 : Int32) v_1 h

theorem dX10_fatesBy_0 : decode cX10_fatesBy 0 = .ok (.aload_n 0, 1) := by decide +kernel
theorem dX10_fatesBy_1 : decode cX10_fatesBy 1 = .ok (.getfield 85, 3) := by decide +kernel
theorem dX10_fatesBy_4 : decode cX10_fatesBy 4 = .ok (.aload_n 0, 1) := by decide +kernel
theorem dX10_fatesBy_5 : decode cX10_fatesBy 5 = .ok (.getfield 94, 3) := by decide +kernel
theorem dX10_fatesBy_8 : decode cX10_fatesBy 8 = .ok (.invokestatic 237, 3) := by decide +kernel
theorem dX10_fatesBy_11 : decode cX10_fatesBy 11 = .ok (.aload_n 0, 1) := by decide +kernel
theorem dX10_fatesBy_12 : decode cX10_fatesBy 12 = .ok (.iload_n 1, 1) := by decide +kernel
theorem dX10_fatesBy_13 : decode cX10_fatesBy 13 = .ok (.putfield 339, 3) := by decide +kernel
theorem dX10_fatesBy_16 : decode cX10_fatesBy 16 = .ok (.aload_n 0, 1) := by decide +kernel
theorem dX10_fatesBy_17 : decode cX10_fatesBy 17 = .ok (.iload_n 2, 1) := by decide +kernel
theorem dX10_fatesBy_18 : decode cX10_fatesBy 18 = .ok (.putfield 343, 3) := by decide +kernel
theorem dX10_fatesBy_21 : decode cX10_fatesBy 21 = .ok (.iconst 0, 1) := by decide +kernel
theorem dX10_fatesBy_22 : decode cX10_fatesBy 22 = .ok (.istore 4, 2) := by decide +kernel
theorem dX10_fatesBy_24 : decode cX10_fatesBy 24 = .ok (.iload 4, 2) := by decide +kernel
theorem dX10_fatesBy_26 : decode cX10_fatesBy 26 = .ok (.iload_n 3, 1) := by decide +kernel
theorem dX10_fatesBy_27 : decode cX10_fatesBy 27 = .ok (.if_icmp .ge 17, 3) := by decide +kernel
theorem dX10_fatesBy_30 : decode cX10_fatesBy 30 = .ok (.aload_n 0, 1) := by decide +kernel
theorem dX10_fatesBy_31 : decode cX10_fatesBy 31 = .ok (.aload_n 0, 1) := by decide +kernel
theorem dX10_fatesBy_32 : decode cX10_fatesBy 32 = .ok (.getfield 94, 3) := by decide +kernel
theorem dX10_fatesBy_35 : decode cX10_fatesBy 35 = .ok (.invokevirtual 359, 3) := by decide +kernel
theorem dX10_fatesBy_38 : decode cX10_fatesBy 38 = .ok (.iinc 4 1, 3) := by decide +kernel
theorem dX10_fatesBy_41 : decode cX10_fatesBy 41 = .ok (.goto (-17), 3) := by decide +kernel
theorem dX10_fatesBy_44 : decode cX10_fatesBy 44 = .ok (.aload_n 0, 1) := by decide +kernel
theorem dX10_fatesBy_45 : decode cX10_fatesBy 45 = .ok (.iconst 0, 1) := by decide +kernel
theorem dX10_fatesBy_46 : decode cX10_fatesBy 46 = .ok (.putfield 343, 3) := by decide +kernel
theorem dX10_fatesBy_49 : decode cX10_fatesBy 49 = .ok (.return_, 1) := by decide +kernel
def fX10_fatesBy_24  : Nat → Nat → Int32 → Int32 → zV → Option zV
  | 0 => fun _ _ _ _ => none
  | n + 1 => fun x0 x3 x4 v =>
    if x3 ≤ x4 then
      zlet (zup v x0 47 (0 : Int32)) fun v_1 =>
      some v_1
    else
      zbindv (fX10_goes x0 (zrf x0 38) v) fun v_2 =>
      (fX10_fatesBy_24 n) x0 x3 (x4 + (1 : Int32)) v_2
set_option maxRecDepth 4000 in
theorem jX10_fatesBy_24 (x : zCx) (G : zG) (F : zF x G cX10_fatesBy 5 RX10 7 215) (hr : x.2.2.2.2.2.2.2.2.1.sig.returnType = (Option.none : Option FieldType)) (hk : x.2.2.2.2.2.2.2.2.1.locks = false) (w : zV)  : ∀ (n : Nat) (x0 : Nat) (t0 : zty G x0 1 10) (x3 : Int32) (x4 : Int32) (v : zV), fX10_fatesBy_24 n x0 x3 x4 v = some w → zJ x G 5 (zQ x G none w 0 0) 0 0 24 [(0, zr G x0), (3, .int x3), (4, .int x4)] [] v := by
  intro n
  induction n with
  | zero => intro x0 t0 x3 x4 v h; exact absurd h (by intro q; cases q)
  | succ n ih =>
    intro x0 t0 x3 x4 v h
    rw [fX10_fatesBy_24] at h
    dsimp only at h
    refine z_iload F dX10_fatesBy_24 2 rfl ?_
    refine z_iload_n F dX10_fatesBy_26 rfl 1 rfl ?_
    refine z_icmp_ge F 44 dX10_fatesBy_27 rfl (fun hc => ?_) (fun hc => ?_)
    · replace h := zif_t hc h
      refine z_aload_n F dX10_fatesBy_44 rfl 0 rfl ?_
      refine z_iconst (y := (0 : Int32)) F dX10_fatesBy_45 rfl ?_
      refine zp_10_47 F t0 wF_X10_343 dX10_fatesBy_46 ?_
      obtain ⟨v_1, ev_1, h⟩ := zlet_ex h
      refine z_heap ev_1 ?_
      cases h
      exact z_retv F hr hk dX10_fatesBy_49
    · replace h := zif_f hc h
      refine z_aload_n F dX10_fatesBy_30 rfl 0 rfl ?_
      refine z_aload_n F dX10_fatesBy_31 rfl 0 rfl ?_
      refine zg_10_38 F t0 wF_X10_94 dX10_fatesBy_32 ?_
      obtain ⟨v_2, hq35, h⟩ := zbindv_ex h
      refine z_callVv F [zr G (zrf x0 38)] [] (kX10_goes x.2.1 G x0 t0 (zrf x0 38) (zt_f tc_10_38 t0) v v_2 hq35) mI_X10_goes (c := 10) rfl t0 wM_X10_359 mi_X10_goes sl_X10_goes dX10_fatesBy_35 rfl ⟨Nat.le_of_ble_eq_true rfl, Nat.le_of_ble_eq_true rfl⟩ rfl (Nat.le_of_ble_eq_true rfl) ⟨Nat.zero_le _, Nat.zero_le _⟩ ?_
      refine z_iinc F [(4, .int (x4 + (1 : Int32))), (0, zr G x0), (3, .int x3)] dX10_fatesBy_38 2 rfl rfl (Nat.le_of_ble_eq_true rfl) rfl ?_
      refine z_goto F 24 dX10_fatesBy_41 rfl ?_
      refine z_ls [(0, zr G x0), (3, .int x3), (4, .int (x4 + (1 : Int32)))] [1, 2, 0] rfl ?_
      exact ih x0 t0 x3 (x4 + (1 : Int32)) v_2 h

def fX10_fatesBy (x0 : Nat) (x1 : Int32) (x2 : Int32) (x3 : Int32) (v : zV) : Option zV :=
  zbindv (fX10_copies (zrf x0 35) (zrf x0 38) v) fun v_1 =>
  zlet (zup v_1 x0 48 x1) fun v_2 =>
  zlet (zup v_2 x0 47 x2) fun v_3 =>
  fX10_fatesBy_24  zFU x0 x3 (0 : Int32) v_3
set_option maxRecDepth 4000 in
theorem kX10_fatesBy (l : Launch) (G : zG) (x0 : Nat) (t0 : zty G x0 1 10) (x1 : Int32) (x2 : Int32) (x3 : Int32) (v : zV) (w : zV) (h : fX10_fatesBy x0 x1 x2 x3 v = some w) : zMet l yX10_fatesBy cX10_fatesBy 5 (Option.none : Option FieldType) 7 215 0 0 [zr G x0, .int x1, .int x2, .int x3] G v none w := by
  refine zM_of (own := RX10) (by decide) rfl (Nat.le_of_ble_eq_true rfl) (fun x hl F hr hk hcs => ?_)
  subst hl
  refine z_ls [(0, zr G x0), (1, .int x1), (2, .int x2), (3, .int x3)] [0, 1, 2, 3] rfl ?_
  unfold fX10_fatesBy at h
  refine z_aload_n F dX10_fatesBy_0 rfl 0 rfl ?_
  refine zg_10_35 F t0 wF_X10_85 dX10_fatesBy_1 ?_
  refine z_aload_n F dX10_fatesBy_4 rfl 0 rfl ?_
  refine zg_10_38 F t0 wF_X10_94 dX10_fatesBy_5 ?_
  obtain ⟨v_1, hq8, h⟩ := zbindv_ex h
  refine z_callSv F [zr G (zrf x0 35), zr G (zrf x0 38)] [] (kX10_copies x.2.1 G (zrf x0 35) (zt_f tc_10_35 t0) (zrf x0 38) (zt_f tc_10_38 t0) v v_1 hq8) mI_X10_copies wM_X10_237 ms_X10_copies dX10_fatesBy_8 rfl ⟨Nat.le_of_ble_eq_true rfl, Nat.le_of_ble_eq_true rfl⟩ rfl (Nat.le_of_ble_eq_true rfl) ⟨Nat.zero_le _, Nat.zero_le _⟩ ?_
  refine z_aload_n F dX10_fatesBy_11 rfl 0 rfl ?_
  refine z_iload_n F dX10_fatesBy_12 rfl 1 rfl ?_
  refine zp_10_48 F t0 wF_X10_339 dX10_fatesBy_13 ?_
  obtain ⟨v_2, ev_2, h⟩ := zlet_ex h
  refine z_heap ev_2 ?_
  refine z_aload_n F dX10_fatesBy_16 rfl 0 rfl ?_
  refine z_iload_n F dX10_fatesBy_17 rfl 2 rfl ?_
  refine zp_10_47 F t0 wF_X10_343 dX10_fatesBy_18 ?_
  obtain ⟨v_3, ev_3, h⟩ := zlet_ex h
  refine z_heap ev_3 ?_
  refine z_iconst (y := (0 : Int32)) F dX10_fatesBy_21 rfl ?_
  refine z_istore (n := 0) F [(4, .int (0 : Int32)), (0, zr G x0), (1, .int x1), (2, .int x2), (3, .int x3)] dX10_fatesBy_22 (Nat.le_of_ble_eq_true rfl) rfl ?_
  refine z_ls [(0, zr G x0), (3, .int x3), (4, .int (0 : Int32))] [1, 4, 0] rfl ?_
  exact jX10_fatesBy_24 x G F hr hk w   zFU x0 t0 x3 (0 : Int32) v_3 h

theorem dX10_fates_0 : decode cX10_fates 0 = .ok (.aload_n 0, 1) := by decide +kernel
theorem dX10_fates_1 : decode cX10_fates 1 = .ok (.iconst 0, 1) := by decide +kernel
theorem dX10_fates_2 : decode cX10_fates 2 = .ok (.putfield 134, 3) := by decide +kernel
theorem dX10_fates_5 : decode cX10_fates 5 = .ok (.aload_n 0, 1) := by decide +kernel
theorem dX10_fates_6 : decode cX10_fates 6 = .ok (.iload_n 2, 1) := by decide +kernel
theorem dX10_fates_7 : decode cX10_fates 7 = .ok (.iconst 0, 1) := by decide +kernel
theorem dX10_fates_8 : decode cX10_fates 8 = .ok (.bipush 16, 2) := by decide +kernel
theorem dX10_fates_10 : decode cX10_fates 10 = .ok (.invokestatic 168, 3) := by decide +kernel
theorem dX10_fates_13 : decode cX10_fates 13 = .ok (.ifCond .eq 23, 3) := by decide +kernel
theorem dX10_fates_16 : decode cX10_fates 16 = .ok (.iload_n 3, 1) := by decide +kernel
theorem dX10_fates_17 : decode cX10_fates 17 = .ok (.iconst 1, 1) := by decide +kernel
theorem dX10_fates_18 : decode cX10_fates 18 = .ok (.bipush 40, 2) := by decide +kernel
theorem dX10_fates_20 : decode cX10_fates 20 = .ok (.invokestatic 168, 3) := by decide +kernel
theorem dX10_fates_23 : decode cX10_fates 23 = .ok (.ifCond .eq 13, 3) := by decide +kernel
theorem dX10_fates_26 : decode cX10_fates 26 = .ok (.iload 4, 2) := by decide +kernel
theorem dX10_fates_28 : decode cX10_fates 28 = .ok (.iconst 0, 1) := by decide +kernel
theorem dX10_fates_29 : decode cX10_fates 29 = .ok (.iconst 3, 1) := by decide +kernel
theorem dX10_fates_30 : decode cX10_fates 30 = .ok (.invokestatic 168, 3) := by decide +kernel
theorem dX10_fates_33 : decode cX10_fates 33 = .ok (.ifCond .ne 7, 3) := by decide +kernel
theorem dX10_fates_36 : decode cX10_fates 36 = .ok (.iconst 1, 1) := by decide +kernel
theorem dX10_fates_37 : decode cX10_fates 37 = .ok (.goto 4, 3) := by decide +kernel
theorem dX10_fates_40 : decode cX10_fates 40 = .ok (.iconst 0, 1) := by decide +kernel
theorem dX10_fates_41 : decode cX10_fates 41 = .ok (.iconst 1, 1) := by decide +kernel
theorem dX10_fates_42 : decode cX10_fates 42 = .ok (.iconst 1, 1) := by decide +kernel
theorem dX10_fates_43 : decode cX10_fates 43 = .ok (.invokevirtual 220, 3) := by decide +kernel
theorem dX10_fates_46 : decode cX10_fates 46 = .ok (.ifCond .eq 5, 3) := by decide +kernel
theorem dX10_fates_49 : decode cX10_fates 49 = .ok (.iconst 0, 1) := by decide +kernel
theorem dX10_fates_50 : decode cX10_fates 50 = .ok (.ireturn, 1) := by decide +kernel
theorem dX10_fates_51 : decode cX10_fates 51 = .ok (.aload_n 0, 1) := by decide +kernel
theorem dX10_fates_52 : decode cX10_fates 52 = .ok (.iload_n 1, 1) := by decide +kernel
theorem dX10_fates_53 : decode cX10_fates 53 = .ok (.iload_n 2, 1) := by decide +kernel
theorem dX10_fates_54 : decode cX10_fates 54 = .ok (.iload_n 3, 1) := by decide +kernel
theorem dX10_fates_55 : decode cX10_fates 55 = .ok (.invokevirtual 414, 3) := by decide +kernel
theorem dX10_fates_58 : decode cX10_fates 58 = .ok (.iload 4, 2) := by decide +kernel
theorem dX10_fates_60 : decode cX10_fates 60 = .ok (.ifCond .ne 13, 3) := by decide +kernel
theorem dX10_fates_63 : decode cX10_fates 63 = .ok (.aload_n 0, 1) := by decide +kernel
theorem dX10_fates_64 : decode cX10_fates 64 = .ok (.getfield 94, 3) := by decide +kernel
theorem dX10_fates_67 : decode cX10_fates 67 = .ok (.bipush 61, 2) := by decide +kernel
theorem dX10_fates_69 : decode cX10_fates 69 = .ok (.iaload, 1) := by decide +kernel
theorem dX10_fates_70 : decode cX10_fates 70 = .ok (.goto 58, 3) := by decide +kernel
theorem dX10_fates_73 : decode cX10_fates 73 = .ok (.iload 4, 2) := by decide +kernel
theorem dX10_fates_75 : decode cX10_fates 75 = .ok (.iconst 1, 1) := by decide +kernel
theorem dX10_fates_76 : decode cX10_fates 76 = .ok (.if_icmp .ne 21, 3) := by decide +kernel
theorem dX10_fates_79 : decode cX10_fates 79 = .ok (.aload_n 0, 1) := by decide +kernel
theorem dX10_fates_80 : decode cX10_fates 80 = .ok (.getfield 94, 3) := by decide +kernel
theorem dX10_fates_83 : decode cX10_fates 83 = .ok (.bipush 100, 2) := by decide +kernel
theorem dX10_fates_85 : decode cX10_fates 85 = .ok (.iaload, 1) := by decide +kernel
theorem dX10_fates_86 : decode cX10_fates 86 = .ok (.aload_n 0, 1) := by decide +kernel
theorem dX10_fates_87 : decode cX10_fates 87 = .ok (.getfield 85, 3) := by decide +kernel
theorem dX10_fates_90 : decode cX10_fates 90 = .ok (.bipush 100, 2) := by decide +kernel
theorem dX10_fates_92 : decode cX10_fates 92 = .ok (.iaload, 1) := by decide +kernel
theorem dX10_fates_93 : decode cX10_fates 93 = .ok (.isub, 1) := by decide +kernel
theorem dX10_fates_94 : decode cX10_fates 94 = .ok (.goto 34, 3) := by decide +kernel
theorem dX10_fates_97 : decode cX10_fates 97 = .ok (.iload 4, 2) := by decide +kernel
theorem dX10_fates_99 : decode cX10_fates 99 = .ok (.iconst 2, 1) := by decide +kernel
theorem dX10_fates_100 : decode cX10_fates 100 = .ok (.if_icmp .ne 21, 3) := by decide +kernel
theorem dX10_fates_103 : decode cX10_fates 103 = .ok (.aload_n 0, 1) := by decide +kernel
theorem dX10_fates_104 : decode cX10_fates 104 = .ok (.getfield 94, 3) := by decide +kernel
theorem dX10_fates_107 : decode cX10_fates 107 = .ok (.bipush 103, 2) := by decide +kernel
theorem dX10_fates_109 : decode cX10_fates 109 = .ok (.iaload, 1) := by decide +kernel
theorem dX10_fates_110 : decode cX10_fates 110 = .ok (.aload_n 0, 1) := by decide +kernel
theorem dX10_fates_111 : decode cX10_fates 111 = .ok (.getfield 85, 3) := by decide +kernel
theorem dX10_fates_114 : decode cX10_fates 114 = .ok (.bipush 103, 2) := by decide +kernel
theorem dX10_fates_116 : decode cX10_fates 116 = .ok (.iaload, 1) := by decide +kernel
theorem dX10_fates_117 : decode cX10_fates 117 = .ok (.isub, 1) := by decide +kernel
theorem dX10_fates_118 : decode cX10_fates 118 = .ok (.goto 10, 3) := by decide +kernel
theorem dX10_fates_121 : decode cX10_fates 121 = .ok (.aload_n 0, 1) := by decide +kernel
theorem dX10_fates_122 : decode cX10_fates 122 = .ok (.getfield 94, 3) := by decide +kernel
theorem dX10_fates_125 : decode cX10_fates 125 = .ok (.invokestatic 313, 3) := by decide +kernel
theorem dX10_fates_128 : decode cX10_fates 128 = .ok (.ireturn, 1) := by decide +kernel
def fX10_fates_41  (x0 : Nat) (x1 : Int32) (x2 : Int32) (x3 : Int32) (x4 : Int32) (s0 : Nat) (s1 : Int32) (v : zV) : Option (Int32 × zV) :=
  zbind (fX10_bad s0 s1 (1 : Int32) (1 : Int32) v) fun r_2 v_1 =>
  if r_2 = (0 : Int32) then
    zbindv (fX10_fatesBy x0 x1 x2 x3 v_1) fun v_3 =>
    if x4 = (0 : Int32) then
      zix (61 : Int32) (zlen (zrf x0 38)) <|
      some (v_3 (zrf x0 38) ((61 : Int32)).toNatClampNeg, v_3)
    else
      if x4 = (1 : Int32) then
        zix (100 : Int32) (zlen (zrf x0 38)) <|
        zix (100 : Int32) (zlen (zrf x0 35)) <|
        some ((v_3 (zrf x0 38) ((100 : Int32)).toNatClampNeg) - (v_3 (zrf x0 35) ((100 : Int32)).toNatClampNeg), v_3)
      else
        if x4 = (2 : Int32) then
          zix (103 : Int32) (zlen (zrf x0 38)) <|
          zix (103 : Int32) (zlen (zrf x0 35)) <|
          some ((v_3 (zrf x0 38) ((103 : Int32)).toNatClampNeg) - (v_3 (zrf x0 35) ((103 : Int32)).toNatClampNeg), v_3)
        else
          zbind (fX10_lastOf (zrf x0 38) v_3) fun r_5 v_4 =>
          some (r_5, v_4)
  else
    some ((0 : Int32), v_1)
set_option maxRecDepth 4000 in
theorem jX10_fates_41 (x : zCx) (G : zG) (F : zF x G cX10_fates 5 RX10 8 239) (hr : x.2.2.2.2.2.2.2.2.1.sig.returnType = (Option.some FieldType.int)) (hk : x.2.2.2.2.2.2.2.2.1.locks = false) (r : Int32) (w : zV)  : ∀ (x0 : Nat) (t0 : zty G x0 1 10) (x1 : Int32) (x2 : Int32) (x3 : Int32) (x4 : Int32) (s0 : Nat) (ts0 : zty G s0 1 10) (s1 : Int32) (v : zV), fX10_fates_41 x0 x1 x2 x3 x4 s0 s1 v = some (r, w) → zJ x G 5 (zQ x G (some (.int r)) w 0 0) 0 0 41 [(0, zr G x0), (1, .int x1), (2, .int x2), (3, .int x3), (4, .int x4)] [.int s1, zr G s0] v := by
  intro x0 t0 x1 x2 x3 x4 s0 ts0 s1 v h
  unfold fX10_fates_41 at h
  refine z_iconst (y := (1 : Int32)) F dX10_fates_41 rfl ?_
  refine z_iconst (y := (1 : Int32)) F dX10_fates_42 rfl ?_
  obtain ⟨r_2, v_1, hq43, h⟩ := zbind_ex h
  refine z_callVi F [.int s1, .int (1 : Int32), .int (1 : Int32)] [] (kX10_bad x.2.1 G s0 ts0 s1 (1 : Int32) (1 : Int32) v r_2 v_1 hq43) mI_X10_bad (c := 10) rfl ts0 wM_X10_220 mi_X10_bad sl_X10_bad dX10_fates_43 rfl ⟨Nat.le_of_ble_eq_true rfl, Nat.le_of_ble_eq_true rfl⟩ rfl (Nat.le_of_ble_eq_true rfl) ⟨Nat.zero_le _, Nat.zero_le _⟩ ?_
  refine z_if_eq F 51 dX10_fates_46 rfl (fun hc => ?_) (fun hc => ?_)
  · replace h := zif_t hc h
    refine z_aload_n F dX10_fates_51 rfl 0 rfl ?_
    refine z_iload_n F dX10_fates_52 rfl 1 rfl ?_
    refine z_iload_n F dX10_fates_53 rfl 2 rfl ?_
    refine z_iload_n F dX10_fates_54 rfl 3 rfl ?_
    obtain ⟨v_3, hq55, h⟩ := zbindv_ex h
    refine z_callVv F [.int x1, .int x2, .int x3] [] (kX10_fatesBy x.2.1 G x0 t0 x1 x2 x3 v_1 v_3 hq55) mI_X10_fatesBy (c := 10) rfl t0 wM_X10_414 mi_X10_fatesBy sl_X10_fatesBy dX10_fates_55 rfl ⟨Nat.le_of_ble_eq_true rfl, Nat.le_of_ble_eq_true rfl⟩ rfl (Nat.le_of_ble_eq_true rfl) ⟨Nat.zero_le _, Nat.zero_le _⟩ ?_
    refine z_iload F dX10_fates_58 4 rfl ?_
    refine z_if_ne F 73 dX10_fates_60 rfl (fun hc => ?_) (fun hc => ?_)
    · replace h := zif_f hc h
      refine z_iload F dX10_fates_73 4 rfl ?_
      refine z_iconst (y := (1 : Int32)) F dX10_fates_75 rfl ?_
      refine z_icmp_ne F 97 dX10_fates_76 rfl (fun hc => ?_) (fun hc => ?_)
      · replace h := zif_f hc h
        refine z_iload F dX10_fates_97 4 rfl ?_
        refine z_iconst (y := (2 : Int32)) F dX10_fates_99 rfl ?_
        refine z_icmp_ne F 121 dX10_fates_100 rfl (fun hc => ?_) (fun hc => ?_)
        · replace h := zif_f hc h
          refine z_aload_n F dX10_fates_121 rfl 0 rfl ?_
          refine zg_10_38 F t0 wF_X10_94 dX10_fates_122 ?_
          obtain ⟨r_5, v_4, hq125, h⟩ := zbind_ex h
          refine z_callSi F [zr G (zrf x0 38)] [] (kX10_lastOf x.2.1 G (zrf x0 38) (zt_f tc_10_38 t0) v_3 r_5 v_4 hq125) mI_X10_lastOf wM_X10_313 ms_X10_lastOf dX10_fates_125 rfl ⟨Nat.le_of_ble_eq_true rfl, Nat.le_of_ble_eq_true rfl⟩ rfl (Nat.le_of_ble_eq_true rfl) ⟨Nat.zero_le _, Nat.zero_le _⟩ ?_
          cases h
          exact z_reti F hr hk dX10_fates_128
        · replace h := zif_t hc h
          refine z_aload_n F dX10_fates_103 rfl 0 rfl ?_
          refine zg_10_38 F t0 wF_X10_94 dX10_fates_104 ?_
          refine z_bipush (y := (103 : Int32)) F dX10_fates_107 rfl ?_
          obtain ⟨hi109, h⟩ := zix_ex h
          refine z_iald F (zt_f tc_10_38 t0) dX10_fates_109 hi109 ?_
          refine z_aload_n F dX10_fates_110 rfl 0 rfl ?_
          refine zg_10_35 F t0 wF_X10_85 dX10_fates_111 ?_
          refine z_bipush (y := (103 : Int32)) F dX10_fates_114 rfl ?_
          obtain ⟨hi116, h⟩ := zix_ex h
          refine z_iald F (zt_f tc_10_35 t0) dX10_fates_116 hi116 ?_
          refine z_isub F dX10_fates_117 ?_
          refine z_goto F 128 dX10_fates_118 rfl ?_
          cases h
          exact z_reti F hr hk dX10_fates_128
      · replace h := zif_t hc h
        refine z_aload_n F dX10_fates_79 rfl 0 rfl ?_
        refine zg_10_38 F t0 wF_X10_94 dX10_fates_80 ?_
        refine z_bipush (y := (100 : Int32)) F dX10_fates_83 rfl ?_
        obtain ⟨hi85, h⟩ := zix_ex h
        refine z_iald F (zt_f tc_10_38 t0) dX10_fates_85 hi85 ?_
        refine z_aload_n F dX10_fates_86 rfl 0 rfl ?_
        refine zg_10_35 F t0 wF_X10_85 dX10_fates_87 ?_
        refine z_bipush (y := (100 : Int32)) F dX10_fates_90 rfl ?_
        obtain ⟨hi92, h⟩ := zix_ex h
        refine z_iald F (zt_f tc_10_35 t0) dX10_fates_92 hi92 ?_
        refine z_isub F dX10_fates_93 ?_
        refine z_goto F 128 dX10_fates_94 rfl ?_
        cases h
        exact z_reti F hr hk dX10_fates_128
    · replace h := zif_t hc h
      refine z_aload_n F dX10_fates_63 rfl 0 rfl ?_
      refine zg_10_38 F t0 wF_X10_94 dX10_fates_64 ?_
      refine z_bipush (y := (61 : Int32)) F dX10_fates_67 rfl ?_
      obtain ⟨hi69, h⟩ := zix_ex h
      refine z_iald F (zt_f tc_10_38 t0) dX10_fates_69 hi69 ?_
      refine z_goto F 128 dX10_fates_70 rfl ?_
      cases h
      exact z_reti F hr hk dX10_fates_128
  · replace h := zif_f hc h
    refine z_iconst (y := (0 : Int32)) F dX10_fates_49 rfl ?_
    cases h
    exact z_reti F hr hk dX10_fates_50

def fX10_fates (x0 : Nat) (x1 : Int32) (x2 : Int32) (x3 : Int32) (x4 : Int32) (v : zV) : Option (Int32 × zV) :=
  zlet (zup v x0 0 (0 : Int32)) fun v_1 =>
  zbind (fX10_in x2 (0 : Int32) (16 : Int32) v_1) fun r_3 v_2 =>
  if r_3 = (0 : Int32) then
    fX10_fates_41  x0 x1 x2 x3 x4 x0 (1 : Int32) v_2
  else
    zbind (fX10_in x3 (1 : Int32) (40 : Int32) v_2) fun r_5 v_4 =>
    if r_5 = (0 : Int32) then
      fX10_fates_41  x0 x1 x2 x3 x4 x0 (1 : Int32) v_4
    else
      zbind (fX10_in x4 (0 : Int32) (3 : Int32) v_4) fun r_7 v_6 =>
      if r_7 = (0 : Int32) then
        fX10_fates_41  x0 x1 x2 x3 x4 x0 (1 : Int32) v_6
      else
        fX10_fates_41  x0 x1 x2 x3 x4 x0 (0 : Int32) v_6
set_option maxRecDepth 4000 in
theorem kX10_fates (l : Launch) (G : zG) (x0 : Nat) (t0 : zty G x0 1 10) (x1 : Int32) (x2 : Int32) (x3 : Int32) (x4 : Int32) (v : zV) (r : Int32) (w : zV) (h : fX10_fates x0 x1 x2 x3 x4 v = some (r, w)) : zMet l yX10_fates cX10_fates 5 (Option.some FieldType.int) 8 239 0 0 [zr G x0, .int x1, .int x2, .int x3, .int x4] G v (some (.int r)) w := by
  refine zM_of (own := RX10) (by decide) rfl (Nat.le_of_ble_eq_true rfl) (fun x hl F hr hk hcs => ?_)
  subst hl
  refine z_ls [(0, zr G x0), (1, .int x1), (2, .int x2), (3, .int x3), (4, .int x4)] [0, 1, 2, 3, 4] rfl ?_
  unfold fX10_fates at h
  refine z_aload_n F dX10_fates_0 rfl 0 rfl ?_
  refine z_iconst (y := (0 : Int32)) F dX10_fates_1 rfl ?_
  refine zp_10_0 F t0 wF_X10_134 dX10_fates_2 ?_
  obtain ⟨v_1, ev_1, h⟩ := zlet_ex h
  refine z_heap ev_1 ?_
  refine z_aload_n F dX10_fates_5 rfl 0 rfl ?_
  refine z_iload_n F dX10_fates_6 rfl 2 rfl ?_
  refine z_iconst (y := (0 : Int32)) F dX10_fates_7 rfl ?_
  refine z_bipush (y := (16 : Int32)) F dX10_fates_8 rfl ?_
  obtain ⟨r_3, v_2, hq10, h⟩ := zbind_ex h
  refine z_callSi F [.int x2, .int (0 : Int32), .int (16 : Int32)] [zr G x0] (kX10_in x.2.1 G x2 (0 : Int32) (16 : Int32) v_1 r_3 v_2 hq10) mI_X10_in wM_X10_168 ms_X10_in dX10_fates_10 rfl ⟨Nat.le_of_ble_eq_true rfl, Nat.le_of_ble_eq_true rfl⟩ rfl (Nat.le_of_ble_eq_true rfl) ⟨Nat.zero_le _, Nat.zero_le _⟩ ?_
  refine z_if_eq F 36 dX10_fates_13 rfl (fun hc => ?_) (fun hc => ?_)
  · replace h := zif_t hc h
    refine z_iconst (y := (1 : Int32)) F dX10_fates_36 rfl ?_
    refine z_goto F 41 dX10_fates_37 rfl ?_
    refine z_ls [(0, zr G x0), (1, .int x1), (2, .int x2), (3, .int x3), (4, .int x4)] [0, 1, 2, 3, 4] rfl ?_
    exact jX10_fates_41 x G F hr hk r w   x0 t0 x1 x2 x3 x4 x0 t0 (1 : Int32) v_2 h
  · replace h := zif_f hc h
    refine z_iload_n F dX10_fates_16 rfl 3 rfl ?_
    refine z_iconst (y := (1 : Int32)) F dX10_fates_17 rfl ?_
    refine z_bipush (y := (40 : Int32)) F dX10_fates_18 rfl ?_
    obtain ⟨r_5, v_4, hq20, h⟩ := zbind_ex h
    refine z_callSi F [.int x3, .int (1 : Int32), .int (40 : Int32)] [zr G x0] (kX10_in x.2.1 G x3 (1 : Int32) (40 : Int32) v_2 r_5 v_4 hq20) mI_X10_in wM_X10_168 ms_X10_in dX10_fates_20 rfl ⟨Nat.le_of_ble_eq_true rfl, Nat.le_of_ble_eq_true rfl⟩ rfl (Nat.le_of_ble_eq_true rfl) ⟨Nat.zero_le _, Nat.zero_le _⟩ ?_
    refine z_if_eq F 36 dX10_fates_23 rfl (fun hc => ?_) (fun hc => ?_)
    · replace h := zif_t hc h
      refine z_iconst (y := (1 : Int32)) F dX10_fates_36 rfl ?_
      refine z_goto F 41 dX10_fates_37 rfl ?_
      refine z_ls [(0, zr G x0), (1, .int x1), (2, .int x2), (3, .int x3), (4, .int x4)] [0, 1, 2, 3, 4] rfl ?_
      exact jX10_fates_41 x G F hr hk r w   x0 t0 x1 x2 x3 x4 x0 t0 (1 : Int32) v_4 h
    · replace h := zif_f hc h
      refine z_iload F dX10_fates_26 4 rfl ?_
      refine z_iconst (y := (0 : Int32)) F dX10_fates_28 rfl ?_
      refine z_iconst (y := (3 : Int32)) F dX10_fates_29 rfl ?_
      obtain ⟨r_7, v_6, hq30, h⟩ := zbind_ex h
      refine z_callSi F [.int x4, .int (0 : Int32), .int (3 : Int32)] [zr G x0] (kX10_in x.2.1 G x4 (0 : Int32) (3 : Int32) v_4 r_7 v_6 hq30) mI_X10_in wM_X10_168 ms_X10_in dX10_fates_30 rfl ⟨Nat.le_of_ble_eq_true rfl, Nat.le_of_ble_eq_true rfl⟩ rfl (Nat.le_of_ble_eq_true rfl) ⟨Nat.zero_le _, Nat.zero_le _⟩ ?_
      refine z_if_ne F 40 dX10_fates_33 rfl (fun hc => ?_) (fun hc => ?_)
      · replace h := zif_f hc h
        refine z_iconst (y := (0 : Int32)) F dX10_fates_40 rfl ?_
        refine z_ls [(0, zr G x0), (1, .int x1), (2, .int x2), (3, .int x3), (4, .int x4)] [0, 1, 2, 3, 4] rfl ?_
        exact jX10_fates_41 x G F hr hk r w   x0 t0 x1 x2 x3 x4 x0 t0 (0 : Int32) v_6 h
      · replace h := zif_t hc h
        refine z_iconst (y := (1 : Int32)) F dX10_fates_36 rfl ?_
        refine z_goto F 41 dX10_fates_37 rfl ?_
        refine z_ls [(0, zr G x0), (1, .int x1), (2, .int x2), (3, .int x3), (4, .int x4)] [0, 1, 2, 3, 4] rfl ?_
        exact jX10_fates_41 x G F hr hk r w   x0 t0 x1 x2 x3 x4 x0 t0 (1 : Int32) v_6 h

theorem dX10_span_0 : decode cX10_span 0 = .ok (.aload_n 0, 1) := by decide +kernel
theorem dX10_span_1 : decode cX10_span 1 = .ok (.iconst 0, 1) := by decide +kernel
theorem dX10_span_2 : decode cX10_span 2 = .ok (.putfield 134, 3) := by decide +kernel
theorem dX10_span_5 : decode cX10_span 5 = .ok (.aload_n 0, 1) := by decide +kernel
theorem dX10_span_6 : decode cX10_span 6 = .ok (.iload_n 2, 1) := by decide +kernel
theorem dX10_span_7 : decode cX10_span 7 = .ok (.iconst 1, 1) := by decide +kernel
theorem dX10_span_8 : decode cX10_span 8 = .ok (.bipush 20, 2) := by decide +kernel
theorem dX10_span_10 : decode cX10_span 10 = .ok (.invokestatic 168, 3) := by decide +kernel
theorem dX10_span_13 : decode cX10_span 13 = .ok (.ifCond .eq 43, 3) := by decide +kernel
theorem dX10_span_16 : decode cX10_span 16 = .ok (.iload_n 3, 1) := by decide +kernel
theorem dX10_span_17 : decode cX10_span 17 = .ok (.iconst 0, 1) := by decide +kernel
theorem dX10_span_18 : decode cX10_span 18 = .ok (.bipush 16, 2) := by decide +kernel
theorem dX10_span_20 : decode cX10_span 20 = .ok (.invokestatic 168, 3) := by decide +kernel
theorem dX10_span_23 : decode cX10_span 23 = .ok (.ifCond .eq 33, 3) := by decide +kernel
theorem dX10_span_26 : decode cX10_span 26 = .ok (.iload 4, 2) := by decide +kernel
theorem dX10_span_28 : decode cX10_span 28 = .ok (.iconst 1, 1) := by decide +kernel
theorem dX10_span_29 : decode cX10_span 29 = .ok (.bipush 40, 2) := by decide +kernel
theorem dX10_span_31 : decode cX10_span 31 = .ok (.invokestatic 168, 3) := by decide +kernel
theorem dX10_span_34 : decode cX10_span 34 = .ok (.ifCond .eq 22, 3) := by decide +kernel
theorem dX10_span_37 : decode cX10_span 37 = .ok (.iload 5, 2) := by decide +kernel
theorem dX10_span_39 : decode cX10_span 39 = .ok (.iconst 0, 1) := by decide +kernel
theorem dX10_span_40 : decode cX10_span 40 = .ok (.iconst 2, 1) := by decide +kernel
theorem dX10_span_41 : decode cX10_span 41 = .ok (.invokestatic 168, 3) := by decide +kernel
theorem dX10_span_44 : decode cX10_span 44 = .ok (.ifCond .eq 12, 3) := by decide +kernel
theorem dX10_span_47 : decode cX10_span 47 = .ok (.aload_n 0, 1) := by decide +kernel
theorem dX10_span_48 : decode cX10_span 48 = .ok (.iload 6, 2) := by decide +kernel
theorem dX10_span_50 : decode cX10_span 50 = .ok (.invokevirtual 298, 3) := by decide +kernel
theorem dX10_span_53 : decode cX10_span 53 = .ok (.ifCond .ne 7, 3) := by decide +kernel
theorem dX10_span_56 : decode cX10_span 56 = .ok (.iconst 1, 1) := by decide +kernel
theorem dX10_span_57 : decode cX10_span 57 = .ok (.goto 4, 3) := by decide +kernel
theorem dX10_span_60 : decode cX10_span 60 = .ok (.iconst 0, 1) := by decide +kernel
theorem dX10_span_61 : decode cX10_span 61 = .ok (.iconst 1, 1) := by decide +kernel
theorem dX10_span_62 : decode cX10_span 62 = .ok (.iconst 1, 1) := by decide +kernel
theorem dX10_span_63 : decode cX10_span 63 = .ok (.invokevirtual 220, 3) := by decide +kernel
theorem dX10_span_66 : decode cX10_span 66 = .ok (.ifCond .eq 5, 3) := by decide +kernel
theorem dX10_span_69 : decode cX10_span 69 = .ok (.iconst 0, 1) := by decide +kernel
theorem dX10_span_70 : decode cX10_span 70 = .ok (.ireturn, 1) := by decide +kernel
theorem dX10_span_71 : decode cX10_span 71 = .ok (.iconst (-1), 1) := by decide +kernel
theorem dX10_span_72 : decode cX10_span 72 = .ok (.istore 7, 2) := by decide +kernel
theorem dX10_span_74 : decode cX10_span 74 = .ok (.iconst 0, 1) := by decide +kernel
theorem dX10_span_75 : decode cX10_span 75 = .ok (.istore 8, 2) := by decide +kernel
theorem dX10_span_77 : decode cX10_span 77 = .ok (.iconst 0, 1) := by decide +kernel
theorem dX10_span_78 : decode cX10_span 78 = .ok (.istore 9, 2) := by decide +kernel
theorem dX10_span_80 : decode cX10_span 80 = .ok (.iconst 0, 1) := by decide +kernel
theorem dX10_span_81 : decode cX10_span 81 = .ok (.istore 10, 2) := by decide +kernel
theorem dX10_span_83 : decode cX10_span 83 = .ok (.iload 10, 2) := by decide +kernel
theorem dX10_span_85 : decode cX10_span 85 = .ok (.iload_n 2, 1) := by decide +kernel
theorem dX10_span_86 : decode cX10_span 86 = .ok (.if_icmp .ge 87, 3) := by decide +kernel
theorem dX10_span_89 : decode cX10_span 89 = .ok (.aload_n 0, 1) := by decide +kernel
theorem dX10_span_90 : decode cX10_span 90 = .ok (.iload_n 1, 1) := by decide +kernel
theorem dX10_span_91 : decode cX10_span 91 = .ok (.iload 10, 2) := by decide +kernel
theorem dX10_span_93 : decode cX10_span 93 = .ok (.iadd, 1) := by decide +kernel
theorem dX10_span_94 : decode cX10_span 94 = .ok (.iload_n 3, 1) := by decide +kernel
theorem dX10_span_95 : decode cX10_span 95 = .ok (.iload 4, 2) := by decide +kernel
theorem dX10_span_97 : decode cX10_span 97 = .ok (.invokevirtual 414, 3) := by decide +kernel
theorem dX10_span_100 : decode cX10_span 100 = .ok (.iload 7, 2) := by decide +kernel
theorem dX10_span_102 : decode cX10_span 102 = .ok (.iconst (-1), 1) := by decide +kernel
theorem dX10_span_103 : decode cX10_span 103 = .ok (.if_icmp .ne 13, 3) := by decide +kernel
theorem dX10_span_106 : decode cX10_span 106 = .ok (.aload_n 0, 1) := by decide +kernel
theorem dX10_span_107 : decode cX10_span 107 = .ok (.getfield 94, 3) := by decide +kernel
theorem dX10_span_110 : decode cX10_span 110 = .ok (.bipush 61, 2) := by decide +kernel
theorem dX10_span_112 : decode cX10_span 112 = .ok (.iaload, 1) := by decide +kernel
theorem dX10_span_113 : decode cX10_span 113 = .ok (.goto 15, 3) := by decide +kernel
theorem dX10_span_116 : decode cX10_span 116 = .ok (.iload 7, 2) := by decide +kernel
theorem dX10_span_118 : decode cX10_span 118 = .ok (.aload_n 0, 1) := by decide +kernel
theorem dX10_span_119 : decode cX10_span 119 = .ok (.getfield 94, 3) := by decide +kernel
theorem dX10_span_122 : decode cX10_span 122 = .ok (.bipush 61, 2) := by decide +kernel
theorem dX10_span_124 : decode cX10_span 124 = .ok (.iaload, 1) := by decide +kernel
theorem dX10_span_125 : decode cX10_span 125 = .ok (.invokestatic 284, 3) := by decide +kernel
theorem dX10_span_128 : decode cX10_span 128 = .ok (.istore 7, 2) := by decide +kernel
theorem dX10_span_130 : decode cX10_span 130 = .ok (.iload 8, 2) := by decide +kernel
theorem dX10_span_132 : decode cX10_span 132 = .ok (.aload_n 0, 1) := by decide +kernel
theorem dX10_span_133 : decode cX10_span 133 = .ok (.getfield 94, 3) := by decide +kernel
theorem dX10_span_136 : decode cX10_span 136 = .ok (.bipush 61, 2) := by decide +kernel
theorem dX10_span_138 : decode cX10_span 138 = .ok (.iaload, 1) := by decide +kernel
theorem dX10_span_139 : decode cX10_span 139 = .ok (.invokestatic 287, 3) := by decide +kernel
theorem dX10_span_142 : decode cX10_span 142 = .ok (.istore 8, 2) := by decide +kernel
theorem dX10_span_144 : decode cX10_span 144 = .ok (.iload 9, 2) := by decide +kernel
theorem dX10_span_146 : decode cX10_span 146 = .ok (.aload_n 0, 1) := by decide +kernel
theorem dX10_span_147 : decode cX10_span 147 = .ok (.getfield 94, 3) := by decide +kernel
theorem dX10_span_150 : decode cX10_span 150 = .ok (.iconst 0, 1) := by decide +kernel
theorem dX10_span_151 : decode cX10_span 151 = .ok (.iload 6, 2) := by decide +kernel
theorem dX10_span_153 : decode cX10_span 153 = .ok (.iadd, 1) := by decide +kernel
theorem dX10_span_154 : decode cX10_span 154 = .ok (.iaload, 1) := by decide +kernel
theorem dX10_span_155 : decode cX10_span 155 = .ok (.iconst 1, 1) := by decide +kernel
theorem dX10_span_156 : decode cX10_span 156 = .ok (.if_icmp .ne 7, 3) := by decide +kernel
theorem dX10_span_159 : decode cX10_span 159 = .ok (.iconst 1, 1) := by decide +kernel
theorem dX10_span_160 : decode cX10_span 160 = .ok (.goto 4, 3) := by decide +kernel
theorem dX10_span_163 : decode cX10_span 163 = .ok (.iconst 0, 1) := by decide +kernel
theorem dX10_span_164 : decode cX10_span 164 = .ok (.iadd, 1) := by decide +kernel
theorem dX10_span_165 : decode cX10_span 165 = .ok (.istore 9, 2) := by decide +kernel
theorem dX10_span_167 : decode cX10_span 167 = .ok (.iinc 10 1, 3) := by decide +kernel
theorem dX10_span_170 : decode cX10_span 170 = .ok (.goto (-87), 3) := by decide +kernel
theorem dX10_span_173 : decode cX10_span 173 = .ok (.iload 5, 2) := by decide +kernel
theorem dX10_span_175 : decode cX10_span 175 = .ok (.ifCond .ne 8, 3) := by decide +kernel
theorem dX10_span_178 : decode cX10_span 178 = .ok (.iload 7, 2) := by decide +kernel
theorem dX10_span_180 : decode cX10_span 180 = .ok (.goto 16, 3) := by decide +kernel
theorem dX10_span_183 : decode cX10_span 183 = .ok (.iload 5, 2) := by decide +kernel
theorem dX10_span_185 : decode cX10_span 185 = .ok (.iconst 1, 1) := by decide +kernel
theorem dX10_span_186 : decode cX10_span 186 = .ok (.if_icmp .ne 8, 3) := by decide +kernel
theorem dX10_span_189 : decode cX10_span 189 = .ok (.iload 8, 2) := by decide +kernel
theorem dX10_span_191 : decode cX10_span 191 = .ok (.goto 5, 3) := by decide +kernel
theorem dX10_span_194 : decode cX10_span 194 = .ok (.iload 9, 2) := by decide +kernel
theorem dX10_span_196 : decode cX10_span 196 = .ok (.ireturn, 1) := by decide +kernel
def fX10_span_128 (K83 : Nat → Int32 → Int32 → Int32 → Int32 → Int32 → Int32 → Int32 → Int32 → Int32 → Int32 → zV → Option (Int32 × zV)) (x0 : Nat) (x1 : Int32) (x2 : Int32) (x3 : Int32) (x4 : Int32) (x5 : Int32) (x6 : Int32) (x8 : Int32) (x9 : Int32) (x10 : Int32) (s0 : Int32) (v : zV) : Option (Int32 × zV) :=
  zix (61 : Int32) (zlen (zrf x0 38)) <|
  zbind (fX10_more x8 (v (zrf x0 38) ((61 : Int32)).toNatClampNeg) v) fun r_2 v_1 =>
  zix ((0 : Int32) + x6) (zlen (zrf x0 38)) <|
  if (v_1 (zrf x0 38) ((0 : Int32) + x6).toNatClampNeg) = (1 : Int32) then
    K83 x0 x1 x2 x3 x4 x5 x6 s0 r_2 (x9 + (1 : Int32)) (x10 + (1 : Int32)) v_1
  else
    K83 x0 x1 x2 x3 x4 x5 x6 s0 r_2 (x9 + (0 : Int32)) (x10 + (1 : Int32)) v_1
set_option maxRecDepth 4000 in
theorem jX10_span_128 (x : zCx) (G : zG) (F : zF x G cX10_span 11 RX10 8 239) (hr : x.2.2.2.2.2.2.2.2.1.sig.returnType = (Option.some FieldType.int)) (hk : x.2.2.2.2.2.2.2.2.1.locks = false) (r : Int32) (w : zV) (K83 : Nat → Int32 → Int32 → Int32 → Int32 → Int32 → Int32 → Int32 → Int32 → Int32 → Int32 → zV → Option (Int32 × zV)) (hK83 : ∀ (x0 : Nat) (t0 : zty G x0 1 10) (x1 : Int32) (x2 : Int32) (x3 : Int32) (x4 : Int32) (x5 : Int32) (x6 : Int32) (x7 : Int32) (x8 : Int32) (x9 : Int32) (x10 : Int32) (v : zV), K83 x0 x1 x2 x3 x4 x5 x6 x7 x8 x9 x10 v = some (r, w) → zJ x G 11 (zQ x G (some (.int r)) w 0 0) 0 0 83 [(0, zr G x0), (1, .int x1), (2, .int x2), (3, .int x3), (4, .int x4), (5, .int x5), (6, .int x6), (7, .int x7), (8, .int x8), (9, .int x9), (10, .int x10)] [] v) : ∀ (x0 : Nat) (t0 : zty G x0 1 10) (x1 : Int32) (x2 : Int32) (x3 : Int32) (x4 : Int32) (x5 : Int32) (x6 : Int32) (x8 : Int32) (x9 : Int32) (x10 : Int32) (s0 : Int32) (v : zV), fX10_span_128 K83 x0 x1 x2 x3 x4 x5 x6 x8 x9 x10 s0 v = some (r, w) → zJ x G 11 (zQ x G (some (.int r)) w 0 0) 0 0 128 [(0, zr G x0), (1, .int x1), (2, .int x2), (3, .int x3), (4, .int x4), (5, .int x5), (6, .int x6), (8, .int x8), (9, .int x9), (10, .int x10)] [.int s0] v := by
  intro x0 t0 x1 x2 x3 x4 x5 x6 x8 x9 x10 s0 v h
  unfold fX10_span_128 at h
  refine z_istore (n := 0) F [(7, .int s0), (0, zr G x0), (1, .int x1), (2, .int x2), (3, .int x3), (4, .int x4), (5, .int x5), (6, .int x6), (8, .int x8), (9, .int x9), (10, .int x10)] dX10_span_128 (Nat.le_of_ble_eq_true rfl) rfl ?_
  refine z_iload F dX10_span_130 8 rfl ?_
  refine z_aload_n F dX10_span_132 rfl 1 rfl ?_
  refine zg_10_38 F t0 wF_X10_94 dX10_span_133 ?_
  refine z_bipush (y := (61 : Int32)) F dX10_span_136 rfl ?_
  obtain ⟨hi138, h⟩ := zix_ex h
  refine z_iald F (zt_f tc_10_38 t0) dX10_span_138 hi138 ?_
  obtain ⟨r_2, v_1, hq139, h⟩ := zbind_ex h
  refine z_callSi F [.int x8, .int (v (zrf x0 38) ((61 : Int32)).toNatClampNeg)] [] (kX10_more x.2.1 G x8 (v (zrf x0 38) ((61 : Int32)).toNatClampNeg) v r_2 v_1 hq139) mI_X10_more wM_X10_287 ms_X10_more dX10_span_139 rfl ⟨Nat.le_of_ble_eq_true rfl, Nat.le_of_ble_eq_true rfl⟩ rfl (Nat.le_of_ble_eq_true rfl) ⟨Nat.zero_le _, Nat.zero_le _⟩ ?_
  refine z_istore (n := 0) F [(8, .int r_2), (7, .int s0), (0, zr G x0), (1, .int x1), (2, .int x2), (3, .int x3), (4, .int x4), (5, .int x5), (6, .int x6), (9, .int x9), (10, .int x10)] dX10_span_142 (Nat.le_of_ble_eq_true rfl) rfl ?_
  refine z_iload F dX10_span_144 9 rfl ?_
  refine z_aload_n F dX10_span_146 rfl 2 rfl ?_
  refine zg_10_38 F t0 wF_X10_94 dX10_span_147 ?_
  refine z_iconst (y := (0 : Int32)) F dX10_span_150 rfl ?_
  refine z_iload F dX10_span_151 8 rfl ?_
  refine z_iadd F dX10_span_153 ?_
  obtain ⟨hi154, h⟩ := zix_ex h
  refine z_iald F (zt_f tc_10_38 t0) dX10_span_154 hi154 ?_
  refine z_iconst (y := (1 : Int32)) F dX10_span_155 rfl ?_
  refine z_icmp_ne F 163 dX10_span_156 rfl (fun hc => ?_) (fun hc => ?_)
  · replace h := zif_f hc h
    refine z_iconst (y := (0 : Int32)) F dX10_span_163 rfl ?_
    refine z_iadd F dX10_span_164 ?_
    refine z_istore (n := 0) F [(9, .int (x9 + (0 : Int32))), (8, .int r_2), (7, .int s0), (0, zr G x0), (1, .int x1), (2, .int x2), (3, .int x3), (4, .int x4), (5, .int x5), (6, .int x6), (10, .int x10)] dX10_span_165 (Nat.le_of_ble_eq_true rfl) rfl ?_
    refine z_iinc F [(10, .int (x10 + (1 : Int32))), (9, .int (x9 + (0 : Int32))), (8, .int r_2), (7, .int s0), (0, zr G x0), (1, .int x1), (2, .int x2), (3, .int x3), (4, .int x4), (5, .int x5), (6, .int x6)] dX10_span_167 10 rfl rfl (Nat.le_of_ble_eq_true rfl) rfl ?_
    refine z_goto F 83 dX10_span_170 rfl ?_
    refine z_ls [(0, zr G x0), (1, .int x1), (2, .int x2), (3, .int x3), (4, .int x4), (5, .int x5), (6, .int x6), (7, .int s0), (8, .int r_2), (9, .int (x9 + (0 : Int32))), (10, .int (x10 + (1 : Int32)))] [4, 5, 6, 7, 8, 9, 10, 3, 2, 1, 0] rfl ?_
    exact hK83 x0 t0 x1 x2 x3 x4 x5 x6 s0 r_2 (x9 + (0 : Int32)) (x10 + (1 : Int32)) v_1 h
  · replace h := zif_t hc h
    refine z_iconst (y := (1 : Int32)) F dX10_span_159 rfl ?_
    refine z_goto F 164 dX10_span_160 rfl ?_
    refine z_iadd F dX10_span_164 ?_
    refine z_istore (n := 0) F [(9, .int (x9 + (1 : Int32))), (8, .int r_2), (7, .int s0), (0, zr G x0), (1, .int x1), (2, .int x2), (3, .int x3), (4, .int x4), (5, .int x5), (6, .int x6), (10, .int x10)] dX10_span_165 (Nat.le_of_ble_eq_true rfl) rfl ?_
    refine z_iinc F [(10, .int (x10 + (1 : Int32))), (9, .int (x9 + (1 : Int32))), (8, .int r_2), (7, .int s0), (0, zr G x0), (1, .int x1), (2, .int x2), (3, .int x3), (4, .int x4), (5, .int x5), (6, .int x6)] dX10_span_167 10 rfl rfl (Nat.le_of_ble_eq_true rfl) rfl ?_
    refine z_goto F 83 dX10_span_170 rfl ?_
    refine z_ls [(0, zr G x0), (1, .int x1), (2, .int x2), (3, .int x3), (4, .int x4), (5, .int x5), (6, .int x6), (7, .int s0), (8, .int r_2), (9, .int (x9 + (1 : Int32))), (10, .int (x10 + (1 : Int32)))] [4, 5, 6, 7, 8, 9, 10, 3, 2, 1, 0] rfl ?_
    exact hK83 x0 t0 x1 x2 x3 x4 x5 x6 s0 r_2 (x9 + (1 : Int32)) (x10 + (1 : Int32)) v_1 h

def fX10_span_83  : Nat → Nat → Int32 → Int32 → Int32 → Int32 → Int32 → Int32 → Int32 → Int32 → Int32 → Int32 → zV → Option (Int32 × zV)
  | 0 => fun _ _ _ _ _ _ _ _ _ _ _ _ => none
  | n + 1 => fun x0 x1 x2 x3 x4 x5 x6 x7 x8 x9 x10 v =>
    if x2 ≤ x10 then
      if x5 = (0 : Int32) then
        some (x7, v)
      else
        if x5 = (1 : Int32) then
          some (x8, v)
        else
          some (x9, v)
    else
      zbindv (fX10_fatesBy x0 (x1 + x10) x3 x4 v) fun v_1 =>
      if x7 = (-1 : Int32) then
        zix (61 : Int32) (zlen (zrf x0 38)) <|
        fX10_span_128 (fX10_span_83 n) x0 x1 x2 x3 x4 x5 x6 x8 x9 x10 (v_1 (zrf x0 38) ((61 : Int32)).toNatClampNeg) v_1
      else
        zix (61 : Int32) (zlen (zrf x0 38)) <|
        zbind (fX10_less x7 (v_1 (zrf x0 38) ((61 : Int32)).toNatClampNeg) v_1) fun r_3 v_2 =>
        fX10_span_128 (fX10_span_83 n) x0 x1 x2 x3 x4 x5 x6 x8 x9 x10 r_3 v_2
set_option maxRecDepth 4000 in
theorem jX10_span_83 (x : zCx) (G : zG) (F : zF x G cX10_span 11 RX10 8 239) (hr : x.2.2.2.2.2.2.2.2.1.sig.returnType = (Option.some FieldType.int)) (hk : x.2.2.2.2.2.2.2.2.1.locks = false) (r : Int32) (w : zV)  : ∀ (n : Nat) (x0 : Nat) (t0 : zty G x0 1 10) (x1 : Int32) (x2 : Int32) (x3 : Int32) (x4 : Int32) (x5 : Int32) (x6 : Int32) (x7 : Int32) (x8 : Int32) (x9 : Int32) (x10 : Int32) (v : zV), fX10_span_83 n x0 x1 x2 x3 x4 x5 x6 x7 x8 x9 x10 v = some (r, w) → zJ x G 11 (zQ x G (some (.int r)) w 0 0) 0 0 83 [(0, zr G x0), (1, .int x1), (2, .int x2), (3, .int x3), (4, .int x4), (5, .int x5), (6, .int x6), (7, .int x7), (8, .int x8), (9, .int x9), (10, .int x10)] [] v := by
  intro n
  induction n with
  | zero => intro x0 t0 x1 x2 x3 x4 x5 x6 x7 x8 x9 x10 v h; exact absurd h (by intro q; cases q)
  | succ n ih =>
    intro x0 t0 x1 x2 x3 x4 x5 x6 x7 x8 x9 x10 v h
    rw [fX10_span_83] at h
    dsimp only at h
    refine z_iload F dX10_span_83 10 rfl ?_
    refine z_iload_n F dX10_span_85 rfl 2 rfl ?_
    refine z_icmp_ge F 173 dX10_span_86 rfl (fun hc => ?_) (fun hc => ?_)
    · replace h := zif_t hc h
      refine z_iload F dX10_span_173 5 rfl ?_
      refine z_if_ne F 183 dX10_span_175 rfl (fun hc => ?_) (fun hc => ?_)
      · replace h := zif_f hc h
        refine z_iload F dX10_span_183 5 rfl ?_
        refine z_iconst (y := (1 : Int32)) F dX10_span_185 rfl ?_
        refine z_icmp_ne F 194 dX10_span_186 rfl (fun hc => ?_) (fun hc => ?_)
        · replace h := zif_f hc h
          refine z_iload F dX10_span_194 9 rfl ?_
          cases h
          exact z_reti F hr hk dX10_span_196
        · replace h := zif_t hc h
          refine z_iload F dX10_span_189 8 rfl ?_
          refine z_goto F 196 dX10_span_191 rfl ?_
          cases h
          exact z_reti F hr hk dX10_span_196
      · replace h := zif_t hc h
        refine z_iload F dX10_span_178 7 rfl ?_
        refine z_goto F 196 dX10_span_180 rfl ?_
        cases h
        exact z_reti F hr hk dX10_span_196
    · replace h := zif_f hc h
      refine z_aload_n F dX10_span_89 rfl 0 rfl ?_
      refine z_iload_n F dX10_span_90 rfl 1 rfl ?_
      refine z_iload F dX10_span_91 10 rfl ?_
      refine z_iadd F dX10_span_93 ?_
      refine z_iload_n F dX10_span_94 rfl 3 rfl ?_
      refine z_iload F dX10_span_95 4 rfl ?_
      obtain ⟨v_1, hq97, h⟩ := zbindv_ex h
      refine z_callVv F [.int (x1 + x10), .int x3, .int x4] [] (kX10_fatesBy x.2.1 G x0 t0 (x1 + x10) x3 x4 v v_1 hq97) mI_X10_fatesBy (c := 10) rfl t0 wM_X10_414 mi_X10_fatesBy sl_X10_fatesBy dX10_span_97 rfl ⟨Nat.le_of_ble_eq_true rfl, Nat.le_of_ble_eq_true rfl⟩ rfl (Nat.le_of_ble_eq_true rfl) ⟨Nat.zero_le _, Nat.zero_le _⟩ ?_
      refine z_iload F dX10_span_100 7 rfl ?_
      refine z_iconst (y := (-1 : Int32)) F dX10_span_102 rfl ?_
      refine z_icmp_ne F 116 dX10_span_103 rfl (fun hc => ?_) (fun hc => ?_)
      · replace h := zif_f hc h
        refine z_iload F dX10_span_116 7 rfl ?_
        refine z_aload_n F dX10_span_118 rfl 0 rfl ?_
        refine zg_10_38 F t0 wF_X10_94 dX10_span_119 ?_
        refine z_bipush (y := (61 : Int32)) F dX10_span_122 rfl ?_
        obtain ⟨hi124, h⟩ := zix_ex h
        refine z_iald F (zt_f tc_10_38 t0) dX10_span_124 hi124 ?_
        obtain ⟨r_3, v_2, hq125, h⟩ := zbind_ex h
        refine z_callSi F [.int x7, .int (v_1 (zrf x0 38) ((61 : Int32)).toNatClampNeg)] [] (kX10_less x.2.1 G x7 (v_1 (zrf x0 38) ((61 : Int32)).toNatClampNeg) v_1 r_3 v_2 hq125) mI_X10_less wM_X10_284 ms_X10_less dX10_span_125 rfl ⟨Nat.le_of_ble_eq_true rfl, Nat.le_of_ble_eq_true rfl⟩ rfl (Nat.le_of_ble_eq_true rfl) ⟨Nat.zero_le _, Nat.zero_le _⟩ ?_
        refine z_ls [(0, zr G x0), (1, .int x1), (2, .int x2), (3, .int x3), (4, .int x4), (5, .int x5), (6, .int x6), (8, .int x8), (9, .int x9), (10, .int x10)] [0, 1, 2, 3, 4, 5, 6, 8, 9, 10] rfl ?_
        exact jX10_span_128 x G F hr hk r w (fX10_span_83 n) ih x0 t0 x1 x2 x3 x4 x5 x6 x8 x9 x10 r_3 v_2 h
      · replace h := zif_t hc h
        refine z_aload_n F dX10_span_106 rfl 0 rfl ?_
        refine zg_10_38 F t0 wF_X10_94 dX10_span_107 ?_
        refine z_bipush (y := (61 : Int32)) F dX10_span_110 rfl ?_
        obtain ⟨hi112, h⟩ := zix_ex h
        refine z_iald F (zt_f tc_10_38 t0) dX10_span_112 hi112 ?_
        refine z_goto F 128 dX10_span_113 rfl ?_
        refine z_ls [(0, zr G x0), (1, .int x1), (2, .int x2), (3, .int x3), (4, .int x4), (5, .int x5), (6, .int x6), (8, .int x8), (9, .int x9), (10, .int x10)] [0, 1, 2, 3, 4, 5, 6, 8, 9, 10] rfl ?_
        exact jX10_span_128 x G F hr hk r w (fX10_span_83 n) ih x0 t0 x1 x2 x3 x4 x5 x6 x8 x9 x10 (v_1 (zrf x0 38) ((61 : Int32)).toNatClampNeg) v_1 h

def fX10_span_61  (x0 : Nat) (x1 : Int32) (x2 : Int32) (x3 : Int32) (x4 : Int32) (x5 : Int32) (x6 : Int32) (s0 : Nat) (s1 : Int32) (v : zV) : Option (Int32 × zV) :=
  zbind (fX10_bad s0 s1 (1 : Int32) (1 : Int32) v) fun r_2 v_1 =>
  if r_2 = (0 : Int32) then
    fX10_span_83  zFU x0 x1 x2 x3 x4 x5 x6 (-1 : Int32) (0 : Int32) (0 : Int32) (0 : Int32) v_1
  else
    some ((0 : Int32), v_1)
set_option maxRecDepth 4000 in
theorem jX10_span_61 (x : zCx) (G : zG) (F : zF x G cX10_span 11 RX10 8 239) (hr : x.2.2.2.2.2.2.2.2.1.sig.returnType = (Option.some FieldType.int)) (hk : x.2.2.2.2.2.2.2.2.1.locks = false) (r : Int32) (w : zV)  : ∀ (x0 : Nat) (t0 : zty G x0 1 10) (x1 : Int32) (x2 : Int32) (x3 : Int32) (x4 : Int32) (x5 : Int32) (x6 : Int32) (s0 : Nat) (ts0 : zty G s0 1 10) (s1 : Int32) (v : zV), fX10_span_61 x0 x1 x2 x3 x4 x5 x6 s0 s1 v = some (r, w) → zJ x G 11 (zQ x G (some (.int r)) w 0 0) 0 0 61 [(0, zr G x0), (1, .int x1), (2, .int x2), (3, .int x3), (4, .int x4), (5, .int x5), (6, .int x6)] [.int s1, zr G s0] v := by
  intro x0 t0 x1 x2 x3 x4 x5 x6 s0 ts0 s1 v h
  unfold fX10_span_61 at h
  refine z_iconst (y := (1 : Int32)) F dX10_span_61 rfl ?_
  refine z_iconst (y := (1 : Int32)) F dX10_span_62 rfl ?_
  obtain ⟨r_2, v_1, hq63, h⟩ := zbind_ex h
  refine z_callVi F [.int s1, .int (1 : Int32), .int (1 : Int32)] [] (kX10_bad x.2.1 G s0 ts0 s1 (1 : Int32) (1 : Int32) v r_2 v_1 hq63) mI_X10_bad (c := 10) rfl ts0 wM_X10_220 mi_X10_bad sl_X10_bad dX10_span_63 rfl ⟨Nat.le_of_ble_eq_true rfl, Nat.le_of_ble_eq_true rfl⟩ rfl (Nat.le_of_ble_eq_true rfl) ⟨Nat.zero_le _, Nat.zero_le _⟩ ?_
  refine z_if_eq F 71 dX10_span_66 rfl (fun hc => ?_) (fun hc => ?_)
  · replace h := zif_t hc h
    refine z_iconst (y := (-1 : Int32)) F dX10_span_71 rfl ?_
    refine z_istore (n := 0) F [(7, .int (-1 : Int32)), (0, zr G x0), (1, .int x1), (2, .int x2), (3, .int x3), (4, .int x4), (5, .int x5), (6, .int x6)] dX10_span_72 (Nat.le_of_ble_eq_true rfl) rfl ?_
    refine z_iconst (y := (0 : Int32)) F dX10_span_74 rfl ?_
    refine z_istore (n := 0) F [(8, .int (0 : Int32)), (7, .int (-1 : Int32)), (0, zr G x0), (1, .int x1), (2, .int x2), (3, .int x3), (4, .int x4), (5, .int x5), (6, .int x6)] dX10_span_75 (Nat.le_of_ble_eq_true rfl) rfl ?_
    refine z_iconst (y := (0 : Int32)) F dX10_span_77 rfl ?_
    refine z_istore (n := 0) F [(9, .int (0 : Int32)), (8, .int (0 : Int32)), (7, .int (-1 : Int32)), (0, zr G x0), (1, .int x1), (2, .int x2), (3, .int x3), (4, .int x4), (5, .int x5), (6, .int x6)] dX10_span_78 (Nat.le_of_ble_eq_true rfl) rfl ?_
    refine z_iconst (y := (0 : Int32)) F dX10_span_80 rfl ?_
    refine z_istore (n := 0) F [(10, .int (0 : Int32)), (9, .int (0 : Int32)), (8, .int (0 : Int32)), (7, .int (-1 : Int32)), (0, zr G x0), (1, .int x1), (2, .int x2), (3, .int x3), (4, .int x4), (5, .int x5), (6, .int x6)] dX10_span_81 (Nat.le_of_ble_eq_true rfl) rfl ?_
    refine z_ls [(0, zr G x0), (1, .int x1), (2, .int x2), (3, .int x3), (4, .int x4), (5, .int x5), (6, .int x6), (7, .int (-1 : Int32)), (8, .int (0 : Int32)), (9, .int (0 : Int32)), (10, .int (0 : Int32))] [4, 5, 6, 7, 8, 9, 10, 3, 2, 1, 0] rfl ?_
    exact jX10_span_83 x G F hr hk r w   zFU x0 t0 x1 x2 x3 x4 x5 x6 (-1 : Int32) (0 : Int32) (0 : Int32) (0 : Int32) v_1 h
  · replace h := zif_f hc h
    refine z_iconst (y := (0 : Int32)) F dX10_span_69 rfl ?_
    cases h
    exact z_reti F hr hk dX10_span_70

def fX10_span (x0 : Nat) (x1 : Int32) (x2 : Int32) (x3 : Int32) (x4 : Int32) (x5 : Int32) (x6 : Int32) (v : zV) : Option (Int32 × zV) :=
  zlet (zup v x0 0 (0 : Int32)) fun v_1 =>
  zbind (fX10_in x2 (1 : Int32) (20 : Int32) v_1) fun r_3 v_2 =>
  if r_3 = (0 : Int32) then
    fX10_span_61  x0 x1 x2 x3 x4 x5 x6 x0 (1 : Int32) v_2
  else
    zbind (fX10_in x3 (0 : Int32) (16 : Int32) v_2) fun r_5 v_4 =>
    if r_5 = (0 : Int32) then
      fX10_span_61  x0 x1 x2 x3 x4 x5 x6 x0 (1 : Int32) v_4
    else
      zbind (fX10_in x4 (1 : Int32) (40 : Int32) v_4) fun r_7 v_6 =>
      if r_7 = (0 : Int32) then
        fX10_span_61  x0 x1 x2 x3 x4 x5 x6 x0 (1 : Int32) v_6
      else
        zbind (fX10_in x5 (0 : Int32) (2 : Int32) v_6) fun r_9 v_8 =>
        if r_9 = (0 : Int32) then
          fX10_span_61  x0 x1 x2 x3 x4 x5 x6 x0 (1 : Int32) v_8
        else
          zbind (fX10_isMan x0 x6 v_8) fun r_11 v_10 =>
          if r_11 = (0 : Int32) then
            fX10_span_61  x0 x1 x2 x3 x4 x5 x6 x0 (1 : Int32) v_10
          else
            fX10_span_61  x0 x1 x2 x3 x4 x5 x6 x0 (0 : Int32) v_10
set_option maxRecDepth 4000 in
theorem kX10_span (l : Launch) (G : zG) (x0 : Nat) (t0 : zty G x0 1 10) (x1 : Int32) (x2 : Int32) (x3 : Int32) (x4 : Int32) (x5 : Int32) (x6 : Int32) (v : zV) (r : Int32) (w : zV) (h : fX10_span x0 x1 x2 x3 x4 x5 x6 v = some (r, w)) : zMet l yX10_span cX10_span 11 (Option.some FieldType.int) 8 239 0 0 [zr G x0, .int x1, .int x2, .int x3, .int x4, .int x5, .int x6] G v (some (.int r)) w := by
  refine zM_of (own := RX10) (by decide) rfl (Nat.le_of_ble_eq_true rfl) (fun x hl F hr hk hcs => ?_)
  subst hl
  refine z_ls [(0, zr G x0), (1, .int x1), (2, .int x2), (3, .int x3), (4, .int x4), (5, .int x5), (6, .int x6)] [0, 1, 2, 3, 4, 5, 6] rfl ?_
  unfold fX10_span at h
  refine z_aload_n F dX10_span_0 rfl 0 rfl ?_
  refine z_iconst (y := (0 : Int32)) F dX10_span_1 rfl ?_
  refine zp_10_0 F t0 wF_X10_134 dX10_span_2 ?_
  obtain ⟨v_1, ev_1, h⟩ := zlet_ex h
  refine z_heap ev_1 ?_
  refine z_aload_n F dX10_span_5 rfl 0 rfl ?_
  refine z_iload_n F dX10_span_6 rfl 2 rfl ?_
  refine z_iconst (y := (1 : Int32)) F dX10_span_7 rfl ?_
  refine z_bipush (y := (20 : Int32)) F dX10_span_8 rfl ?_
  obtain ⟨r_3, v_2, hq10, h⟩ := zbind_ex h
  refine z_callSi F [.int x2, .int (1 : Int32), .int (20 : Int32)] [zr G x0] (kX10_in x.2.1 G x2 (1 : Int32) (20 : Int32) v_1 r_3 v_2 hq10) mI_X10_in wM_X10_168 ms_X10_in dX10_span_10 rfl ⟨Nat.le_of_ble_eq_true rfl, Nat.le_of_ble_eq_true rfl⟩ rfl (Nat.le_of_ble_eq_true rfl) ⟨Nat.zero_le _, Nat.zero_le _⟩ ?_
  refine z_if_eq F 56 dX10_span_13 rfl (fun hc => ?_) (fun hc => ?_)
  · replace h := zif_t hc h
    refine z_iconst (y := (1 : Int32)) F dX10_span_56 rfl ?_
    refine z_goto F 61 dX10_span_57 rfl ?_
    refine z_ls [(0, zr G x0), (1, .int x1), (2, .int x2), (3, .int x3), (4, .int x4), (5, .int x5), (6, .int x6)] [0, 1, 2, 3, 4, 5, 6] rfl ?_
    exact jX10_span_61 x G F hr hk r w   x0 t0 x1 x2 x3 x4 x5 x6 x0 t0 (1 : Int32) v_2 h
  · replace h := zif_f hc h
    refine z_iload_n F dX10_span_16 rfl 3 rfl ?_
    refine z_iconst (y := (0 : Int32)) F dX10_span_17 rfl ?_
    refine z_bipush (y := (16 : Int32)) F dX10_span_18 rfl ?_
    obtain ⟨r_5, v_4, hq20, h⟩ := zbind_ex h
    refine z_callSi F [.int x3, .int (0 : Int32), .int (16 : Int32)] [zr G x0] (kX10_in x.2.1 G x3 (0 : Int32) (16 : Int32) v_2 r_5 v_4 hq20) mI_X10_in wM_X10_168 ms_X10_in dX10_span_20 rfl ⟨Nat.le_of_ble_eq_true rfl, Nat.le_of_ble_eq_true rfl⟩ rfl (Nat.le_of_ble_eq_true rfl) ⟨Nat.zero_le _, Nat.zero_le _⟩ ?_
    refine z_if_eq F 56 dX10_span_23 rfl (fun hc => ?_) (fun hc => ?_)
    · replace h := zif_t hc h
      refine z_iconst (y := (1 : Int32)) F dX10_span_56 rfl ?_
      refine z_goto F 61 dX10_span_57 rfl ?_
      refine z_ls [(0, zr G x0), (1, .int x1), (2, .int x2), (3, .int x3), (4, .int x4), (5, .int x5), (6, .int x6)] [0, 1, 2, 3, 4, 5, 6] rfl ?_
      exact jX10_span_61 x G F hr hk r w   x0 t0 x1 x2 x3 x4 x5 x6 x0 t0 (1 : Int32) v_4 h
    · replace h := zif_f hc h
      refine z_iload F dX10_span_26 4 rfl ?_
      refine z_iconst (y := (1 : Int32)) F dX10_span_28 rfl ?_
      refine z_bipush (y := (40 : Int32)) F dX10_span_29 rfl ?_
      obtain ⟨r_7, v_6, hq31, h⟩ := zbind_ex h
      refine z_callSi F [.int x4, .int (1 : Int32), .int (40 : Int32)] [zr G x0] (kX10_in x.2.1 G x4 (1 : Int32) (40 : Int32) v_4 r_7 v_6 hq31) mI_X10_in wM_X10_168 ms_X10_in dX10_span_31 rfl ⟨Nat.le_of_ble_eq_true rfl, Nat.le_of_ble_eq_true rfl⟩ rfl (Nat.le_of_ble_eq_true rfl) ⟨Nat.zero_le _, Nat.zero_le _⟩ ?_
      refine z_if_eq F 56 dX10_span_34 rfl (fun hc => ?_) (fun hc => ?_)
      · replace h := zif_t hc h
        refine z_iconst (y := (1 : Int32)) F dX10_span_56 rfl ?_
        refine z_goto F 61 dX10_span_57 rfl ?_
        refine z_ls [(0, zr G x0), (1, .int x1), (2, .int x2), (3, .int x3), (4, .int x4), (5, .int x5), (6, .int x6)] [0, 1, 2, 3, 4, 5, 6] rfl ?_
        exact jX10_span_61 x G F hr hk r w   x0 t0 x1 x2 x3 x4 x5 x6 x0 t0 (1 : Int32) v_6 h
      · replace h := zif_f hc h
        refine z_iload F dX10_span_37 5 rfl ?_
        refine z_iconst (y := (0 : Int32)) F dX10_span_39 rfl ?_
        refine z_iconst (y := (2 : Int32)) F dX10_span_40 rfl ?_
        obtain ⟨r_9, v_8, hq41, h⟩ := zbind_ex h
        refine z_callSi F [.int x5, .int (0 : Int32), .int (2 : Int32)] [zr G x0] (kX10_in x.2.1 G x5 (0 : Int32) (2 : Int32) v_6 r_9 v_8 hq41) mI_X10_in wM_X10_168 ms_X10_in dX10_span_41 rfl ⟨Nat.le_of_ble_eq_true rfl, Nat.le_of_ble_eq_true rfl⟩ rfl (Nat.le_of_ble_eq_true rfl) ⟨Nat.zero_le _, Nat.zero_le _⟩ ?_
        refine z_if_eq F 56 dX10_span_44 rfl (fun hc => ?_) (fun hc => ?_)
        · replace h := zif_t hc h
          refine z_iconst (y := (1 : Int32)) F dX10_span_56 rfl ?_
          refine z_goto F 61 dX10_span_57 rfl ?_
          refine z_ls [(0, zr G x0), (1, .int x1), (2, .int x2), (3, .int x3), (4, .int x4), (5, .int x5), (6, .int x6)] [0, 1, 2, 3, 4, 5, 6] rfl ?_
          exact jX10_span_61 x G F hr hk r w   x0 t0 x1 x2 x3 x4 x5 x6 x0 t0 (1 : Int32) v_8 h
        · replace h := zif_f hc h
          refine z_aload_n F dX10_span_47 rfl 0 rfl ?_
          refine z_iload F dX10_span_48 6 rfl ?_
          obtain ⟨r_11, v_10, hq50, h⟩ := zbind_ex h
          refine z_callVi F [.int x6] [zr G x0] (kX10_isMan x.2.1 G x0 t0 x6 v_8 r_11 v_10 hq50) mI_X10_isMan (c := 10) rfl t0 wM_X10_298 mi_X10_isMan sl_X10_isMan dX10_span_50 rfl ⟨Nat.le_of_ble_eq_true rfl, Nat.le_of_ble_eq_true rfl⟩ rfl (Nat.le_of_ble_eq_true rfl) ⟨Nat.zero_le _, Nat.zero_le _⟩ ?_
          refine z_if_ne F 60 dX10_span_53 rfl (fun hc => ?_) (fun hc => ?_)
          · replace h := zif_f hc h
            refine z_iconst (y := (0 : Int32)) F dX10_span_60 rfl ?_
            refine z_ls [(0, zr G x0), (1, .int x1), (2, .int x2), (3, .int x3), (4, .int x4), (5, .int x5), (6, .int x6)] [0, 1, 2, 3, 4, 5, 6] rfl ?_
            exact jX10_span_61 x G F hr hk r w   x0 t0 x1 x2 x3 x4 x5 x6 x0 t0 (0 : Int32) v_10 h
          · replace h := zif_t hc h
            refine z_iconst (y := (1 : Int32)) F dX10_span_56 rfl ?_
            refine z_goto F 61 dX10_span_57 rfl ?_
            refine z_ls [(0, zr G x0), (1, .int x1), (2, .int x2), (3, .int x3), (4, .int x4), (5, .int x5), (6, .int x6)] [0, 1, 2, 3, 4, 5, 6] rfl ?_
            exact jX10_span_61 x G F hr hk r w   x0 t0 x1 x2 x3 x4 x5 x6 x0 t0 (1 : Int32) v_10 h

theorem dX10_image_0 : decode cX10_image 0 = .ok (.aload_n 0, 1) := by decide +kernel
theorem dX10_image_1 : decode cX10_image 1 = .ok (.iconst 0, 1) := by decide +kernel
theorem dX10_image_2 : decode cX10_image 2 = .ok (.putfield 134, 3) := by decide +kernel
theorem dX10_image_5 : decode cX10_image 5 = .ok (.aload_n 0, 1) := by decide +kernel
theorem dX10_image_6 : decode cX10_image 6 = .ok (.getfield 247, 3) := by decide +kernel
theorem dX10_image_9 : decode cX10_image 9 = .ok (.iconst 3, 1) := by decide +kernel
theorem dX10_image_10 : decode cX10_image 10 = .ok (.if_icmp .ne 5, 3) := by decide +kernel
theorem dX10_image_13 : decode cX10_image 13 = .ok (.iconst (-1), 1) := by decide +kernel
theorem dX10_image_14 : decode cX10_image 14 = .ok (.ireturn, 1) := by decide +kernel
theorem dX10_image_15 : decode cX10_image 15 = .ok (.aload_n 0, 1) := by decide +kernel
theorem dX10_image_16 : decode cX10_image 16 = .ok (.getfield 85, 3) := by decide +kernel
theorem dX10_image_19 : decode cX10_image 19 = .ok (.aload_n 0, 1) := by decide +kernel
theorem dX10_image_20 : decode cX10_image 20 = .ok (.getfield 76, 3) := by decide +kernel
theorem dX10_image_23 : decode cX10_image 23 = .ok (.aload_n 0, 1) := by decide +kernel
theorem dX10_image_24 : decode cX10_image 24 = .ok (.getfield 247, 3) := by decide +kernel
theorem dX10_image_27 : decode cX10_image 27 = .ok (.aaload, 1) := by decide +kernel
theorem dX10_image_28 : decode cX10_image 28 = .ok (.invokestatic 237, 3) := by decide +kernel
theorem dX10_image_31 : decode cX10_image 31 = .ok (.aload_n 0, 1) := by decide +kernel
theorem dX10_image_32 : decode cX10_image 32 = .ok (.dup, 1) := by decide +kernel
theorem dX10_image_33 : decode cX10_image 33 = .ok (.getfield 247, 3) := by decide +kernel
theorem dX10_image_36 : decode cX10_image 36 = .ok (.iconst 1, 1) := by decide +kernel
theorem dX10_image_37 : decode cX10_image 37 = .ok (.iadd, 1) := by decide +kernel
theorem dX10_image_38 : decode cX10_image 38 = .ok (.putfield 247, 3) := by decide +kernel
theorem dX10_image_41 : decode cX10_image 41 = .ok (.aload_n 0, 1) := by decide +kernel
theorem dX10_image_42 : decode cX10_image 42 = .ok (.getfield 247, 3) := by decide +kernel
theorem dX10_image_45 : decode cX10_image 45 = .ok (.ireturn, 1) := by decide +kernel
def fX10_image (x0 : Nat) (v : zV) : Option (Int32 × zV) :=
  zlet (zup v x0 0 (0 : Int32)) fun v_1 =>
  if (v_1 x0 42) = (3 : Int32) then
    some ((-1 : Int32), v_1)
  else
    zix (v_1 x0 42) (zlen (zrf x0 32)) <|
    zbindv (fX10_copies (zrf x0 35) (zrf (zrf x0 32) (v_1 x0 42).toNatClampNeg) v_1) fun v_2 =>
    zlet (zup v_2 x0 42 ((v_2 x0 42) + (1 : Int32))) fun v_3 =>
    some (v_3 x0 42, v_3)
set_option maxRecDepth 4000 in
theorem kX10_image (l : Launch) (G : zG) (x0 : Nat) (t0 : zty G x0 1 10) (v : zV) (r : Int32) (w : zV) (h : fX10_image x0 v = some (r, w)) : zMet l yX10_image cX10_image 1 (Option.some FieldType.int) 2 102 0 0 [zr G x0] G v (some (.int r)) w := by
  refine zM_of (own := RX10) (by decide) rfl (Nat.le_of_ble_eq_true rfl) (fun x hl F hr hk hcs => ?_)
  subst hl
  refine z_ls [(0, zr G x0)] [0] rfl ?_
  unfold fX10_image at h
  refine z_aload_n F dX10_image_0 rfl 0 rfl ?_
  refine z_iconst (y := (0 : Int32)) F dX10_image_1 rfl ?_
  refine zp_10_0 F t0 wF_X10_134 dX10_image_2 ?_
  obtain ⟨v_1, ev_1, h⟩ := zlet_ex h
  refine z_heap ev_1 ?_
  refine z_aload_n F dX10_image_5 rfl 0 rfl ?_
  refine zg_10_42 F t0 wF_X10_247 dX10_image_6 ?_
  refine z_iconst (y := (3 : Int32)) F dX10_image_9 rfl ?_
  refine z_icmp_ne F 15 dX10_image_10 rfl (fun hc => ?_) (fun hc => ?_)
  · replace h := zif_f hc h
    refine z_aload_n F dX10_image_15 rfl 0 rfl ?_
    refine zg_10_35 F t0 wF_X10_85 dX10_image_16 ?_
    refine z_aload_n F dX10_image_19 rfl 0 rfl ?_
    refine zg_10_32 F t0 wF_X10_76 dX10_image_20 ?_
    refine z_aload_n F dX10_image_23 rfl 0 rfl ?_
    refine zg_10_42 F t0 wF_X10_247 dX10_image_24 ?_
    obtain ⟨hi27, h⟩ := zix_ex h
    refine z_aald3 F (zt_f tc_10_32 t0) dX10_image_27 hi27 ?_
    obtain ⟨v_2, hq28, h⟩ := zbindv_ex h
    refine z_callSv F [zr G (zrf x0 35), zr G (zrf (zrf x0 32) (v_1 x0 42).toNatClampNeg)] [] (kX10_copies x.2.1 G (zrf x0 35) (zt_f tc_10_35 t0) (zrf (zrf x0 32) (v_1 x0 42).toNatClampNeg) (zt_a tcA_3 (zt_f tc_10_32 t0) (zin_lt hi27)) v_1 v_2 hq28) mI_X10_copies wM_X10_237 ms_X10_copies dX10_image_28 rfl ⟨Nat.le_of_ble_eq_true rfl, Nat.le_of_ble_eq_true rfl⟩ rfl (Nat.le_of_ble_eq_true rfl) ⟨Nat.zero_le _, Nat.zero_le _⟩ ?_
    refine z_aload_n F dX10_image_31 rfl 0 rfl ?_
    refine z_dup F dX10_image_32 rfl ?_
    refine zg_10_42 F t0 wF_X10_247 dX10_image_33 ?_
    refine z_iconst (y := (1 : Int32)) F dX10_image_36 rfl ?_
    refine z_iadd F dX10_image_37 ?_
    refine zp_10_42 F t0 wF_X10_247 dX10_image_38 ?_
    obtain ⟨v_3, ev_3, h⟩ := zlet_ex h
    refine z_heap ev_3 ?_
    refine z_aload_n F dX10_image_41 rfl 0 rfl ?_
    refine zg_10_42 F t0 wF_X10_247 dX10_image_42 ?_
    cases h
    exact z_reti F hr hk dX10_image_45
  · replace h := zif_t hc h
    refine z_iconst (y := (-1 : Int32)) F dX10_image_13 rfl ?_
    cases h
    exact z_reti F hr hk dX10_image_14

theorem dX10_restore_0 : decode cX10_restore 0 = .ok (.aload_n 0, 1) := by decide +kernel
theorem dX10_restore_1 : decode cX10_restore 1 = .ok (.iconst 0, 1) := by decide +kernel
theorem dX10_restore_2 : decode cX10_restore 2 = .ok (.putfield 134, 3) := by decide +kernel
theorem dX10_restore_5 : decode cX10_restore 5 = .ok (.aload_n 0, 1) := by decide +kernel
theorem dX10_restore_6 : decode cX10_restore 6 = .ok (.getfield 247, 3) := by decide +kernel
theorem dX10_restore_9 : decode cX10_restore 9 = .ok (.ifCond .ne 5, 3) := by decide +kernel
theorem dX10_restore_12 : decode cX10_restore 12 = .ok (.iconst (-1), 1) := by decide +kernel
theorem dX10_restore_13 : decode cX10_restore 13 = .ok (.ireturn, 1) := by decide +kernel
theorem dX10_restore_14 : decode cX10_restore 14 = .ok (.aload_n 0, 1) := by decide +kernel
theorem dX10_restore_15 : decode cX10_restore 15 = .ok (.dup, 1) := by decide +kernel
theorem dX10_restore_16 : decode cX10_restore 16 = .ok (.getfield 247, 3) := by decide +kernel
theorem dX10_restore_19 : decode cX10_restore 19 = .ok (.iconst 1, 1) := by decide +kernel
theorem dX10_restore_20 : decode cX10_restore 20 = .ok (.isub, 1) := by decide +kernel
theorem dX10_restore_21 : decode cX10_restore 21 = .ok (.putfield 247, 3) := by decide +kernel
theorem dX10_restore_24 : decode cX10_restore 24 = .ok (.aload_n 0, 1) := by decide +kernel
theorem dX10_restore_25 : decode cX10_restore 25 = .ok (.getfield 76, 3) := by decide +kernel
theorem dX10_restore_28 : decode cX10_restore 28 = .ok (.aload_n 0, 1) := by decide +kernel
theorem dX10_restore_29 : decode cX10_restore 29 = .ok (.getfield 247, 3) := by decide +kernel
theorem dX10_restore_32 : decode cX10_restore 32 = .ok (.aaload, 1) := by decide +kernel
theorem dX10_restore_33 : decode cX10_restore 33 = .ok (.aload_n 0, 1) := by decide +kernel
theorem dX10_restore_34 : decode cX10_restore 34 = .ok (.getfield 85, 3) := by decide +kernel
theorem dX10_restore_37 : decode cX10_restore 37 = .ok (.invokestatic 237, 3) := by decide +kernel
theorem dX10_restore_40 : decode cX10_restore 40 = .ok (.aload_n 0, 1) := by decide +kernel
theorem dX10_restore_41 : decode cX10_restore 41 = .ok (.invokevirtual 250, 3) := by decide +kernel
theorem dX10_restore_44 : decode cX10_restore 44 = .ok (.aload_n 0, 1) := by decide +kernel
theorem dX10_restore_45 : decode cX10_restore 45 = .ok (.getfield 247, 3) := by decide +kernel
theorem dX10_restore_48 : decode cX10_restore 48 = .ok (.ireturn, 1) := by decide +kernel
def fX10_restore (x0 : Nat) (v : zV) : Option (Int32 × zV) :=
  zlet (zup v x0 0 (0 : Int32)) fun v_1 =>
  if (v_1 x0 42) = (0 : Int32) then
    some ((-1 : Int32), v_1)
  else
    zlet (zup v_1 x0 42 ((v_1 x0 42) - (1 : Int32))) fun v_2 =>
    zix (v_2 x0 42) (zlen (zrf x0 32)) <|
    zbindv (fX10_copies (zrf (zrf x0 32) (v_2 x0 42).toNatClampNeg) (zrf x0 35) v_2) fun v_3 =>
    zbindv (fX10_settles x0 v_3) fun v_4 =>
    some (v_4 x0 42, v_4)
set_option maxRecDepth 4000 in
theorem kX10_restore (l : Launch) (G : zG) (x0 : Nat) (t0 : zty G x0 1 10) (v : zV) (r : Int32) (w : zV) (h : fX10_restore x0 v = some (r, w)) : zMet l yX10_restore cX10_restore 1 (Option.some FieldType.int) 3 122 0 0 [zr G x0] G v (some (.int r)) w := by
  refine zM_of (own := RX10) (by decide) rfl (Nat.le_of_ble_eq_true rfl) (fun x hl F hr hk hcs => ?_)
  subst hl
  refine z_ls [(0, zr G x0)] [0] rfl ?_
  unfold fX10_restore at h
  refine z_aload_n F dX10_restore_0 rfl 0 rfl ?_
  refine z_iconst (y := (0 : Int32)) F dX10_restore_1 rfl ?_
  refine zp_10_0 F t0 wF_X10_134 dX10_restore_2 ?_
  obtain ⟨v_1, ev_1, h⟩ := zlet_ex h
  refine z_heap ev_1 ?_
  refine z_aload_n F dX10_restore_5 rfl 0 rfl ?_
  refine zg_10_42 F t0 wF_X10_247 dX10_restore_6 ?_
  refine z_if_ne F 14 dX10_restore_9 rfl (fun hc => ?_) (fun hc => ?_)
  · replace h := zif_f hc h
    refine z_aload_n F dX10_restore_14 rfl 0 rfl ?_
    refine z_dup F dX10_restore_15 rfl ?_
    refine zg_10_42 F t0 wF_X10_247 dX10_restore_16 ?_
    refine z_iconst (y := (1 : Int32)) F dX10_restore_19 rfl ?_
    refine z_isub F dX10_restore_20 ?_
    refine zp_10_42 F t0 wF_X10_247 dX10_restore_21 ?_
    obtain ⟨v_2, ev_2, h⟩ := zlet_ex h
    refine z_heap ev_2 ?_
    refine z_aload_n F dX10_restore_24 rfl 0 rfl ?_
    refine zg_10_32 F t0 wF_X10_76 dX10_restore_25 ?_
    refine z_aload_n F dX10_restore_28 rfl 0 rfl ?_
    refine zg_10_42 F t0 wF_X10_247 dX10_restore_29 ?_
    obtain ⟨hi32, h⟩ := zix_ex h
    refine z_aald3 F (zt_f tc_10_32 t0) dX10_restore_32 hi32 ?_
    refine z_aload_n F dX10_restore_33 rfl 0 rfl ?_
    refine zg_10_35 F t0 wF_X10_85 dX10_restore_34 ?_
    obtain ⟨v_3, hq37, h⟩ := zbindv_ex h
    refine z_callSv F [zr G (zrf (zrf x0 32) (v_2 x0 42).toNatClampNeg), zr G (zrf x0 35)] [] (kX10_copies x.2.1 G (zrf (zrf x0 32) (v_2 x0 42).toNatClampNeg) (zt_a tcA_3 (zt_f tc_10_32 t0) (zin_lt hi32)) (zrf x0 35) (zt_f tc_10_35 t0) v_2 v_3 hq37) mI_X10_copies wM_X10_237 ms_X10_copies dX10_restore_37 rfl ⟨Nat.le_of_ble_eq_true rfl, Nat.le_of_ble_eq_true rfl⟩ rfl (Nat.le_of_ble_eq_true rfl) ⟨Nat.zero_le _, Nat.zero_le _⟩ ?_
    refine z_aload_n F dX10_restore_40 rfl 0 rfl ?_
    obtain ⟨v_4, hq41, h⟩ := zbindv_ex h
    refine z_callVv F [] [] (kX10_settles x.2.1 G x0 t0 v_3 v_4 hq41) mI_X10_settles (c := 10) rfl t0 wM_X10_250 mi_X10_settles sl_X10_settles dX10_restore_41 rfl ⟨Nat.le_of_ble_eq_true rfl, Nat.le_of_ble_eq_true rfl⟩ rfl (Nat.le_of_ble_eq_true rfl) ⟨Nat.zero_le _, Nat.zero_le _⟩ ?_
    refine z_aload_n F dX10_restore_44 rfl 0 rfl ?_
    refine zg_10_42 F t0 wF_X10_247 dX10_restore_45 ?_
    cases h
    exact z_reti F hr hk dX10_restore_48
  · replace h := zif_t hc h
    refine z_iconst (y := (-1 : Int32)) F dX10_restore_12 rfl ?_
    cases h
    exact z_reti F hr hk dX10_restore_13

theorem dX10_status_0 : decode cX10_status 0 = .ok (.aload_n 0, 1) := by decide +kernel
theorem dX10_status_1 : decode cX10_status 1 = .ok (.iconst 0, 1) := by decide +kernel
theorem dX10_status_2 : decode cX10_status 2 = .ok (.putfield 134, 3) := by decide +kernel
theorem dX10_status_5 : decode cX10_status 5 = .ok (.iload_n 1, 1) := by decide +kernel
theorem dX10_status_6 : decode cX10_status 6 = .ok (.iconst 0, 1) := by decide +kernel
theorem dX10_status_7 : decode cX10_status 7 = .ok (.iconst 1, 1) := by decide +kernel
theorem dX10_status_8 : decode cX10_status 8 = .ok (.invokestatic 168, 3) := by decide +kernel
theorem dX10_status_11 : decode cX10_status 11 = .ok (.ifCond .eq 12, 3) := by decide +kernel
theorem dX10_status_14 : decode cX10_status 14 = .ok (.aload_n 0, 1) := by decide +kernel
theorem dX10_status_15 : decode cX10_status 15 = .ok (.getfield 17, 3) := by decide +kernel
theorem dX10_status_18 : decode cX10_status 18 = .ok (.iload_n 1, 1) := by decide +kernel
theorem dX10_status_19 : decode cX10_status 19 = .ok (.iaload, 1) := by decide +kernel
theorem dX10_status_20 : decode cX10_status 20 = .ok (.goto 4, 3) := by decide +kernel
theorem dX10_status_23 : decode cX10_status 23 = .ok (.iconst (-1), 1) := by decide +kernel
theorem dX10_status_24 : decode cX10_status 24 = .ok (.ireturn, 1) := by decide +kernel
def fX10_status (x0 : Nat) (x1 : Int32) (v : zV) : Option (Int32 × zV) :=
  zlet (zup v x0 0 (0 : Int32)) fun v_1 =>
  zbind (fX10_in x1 (0 : Int32) (1 : Int32) v_1) fun r_3 v_2 =>
  if r_3 = (0 : Int32) then
    some ((-1 : Int32), v_2)
  else
    zix x1 (zlen (zrf x0 10)) <|
    some (v_2 (zrf x0 10) (x1).toNatClampNeg, v_2)
set_option maxRecDepth 4000 in
theorem kX10_status (l : Launch) (G : zG) (x0 : Nat) (t0 : zty G x0 1 10) (x1 : Int32) (v : zV) (r : Int32) (w : zV) (h : fX10_status x0 x1 v = some (r, w)) : zMet l yX10_status cX10_status 2 (Option.some FieldType.int) 2 102 0 0 [zr G x0, .int x1] G v (some (.int r)) w := by
  refine zM_of (own := RX10) (by decide) rfl (Nat.le_of_ble_eq_true rfl) (fun x hl F hr hk hcs => ?_)
  subst hl
  refine z_ls [(0, zr G x0), (1, .int x1)] [0, 1] rfl ?_
  unfold fX10_status at h
  refine z_aload_n F dX10_status_0 rfl 0 rfl ?_
  refine z_iconst (y := (0 : Int32)) F dX10_status_1 rfl ?_
  refine zp_10_0 F t0 wF_X10_134 dX10_status_2 ?_
  obtain ⟨v_1, ev_1, h⟩ := zlet_ex h
  refine z_heap ev_1 ?_
  refine z_iload_n F dX10_status_5 rfl 1 rfl ?_
  refine z_iconst (y := (0 : Int32)) F dX10_status_6 rfl ?_
  refine z_iconst (y := (1 : Int32)) F dX10_status_7 rfl ?_
  obtain ⟨r_3, v_2, hq8, h⟩ := zbind_ex h
  refine z_callSi F [.int x1, .int (0 : Int32), .int (1 : Int32)] [] (kX10_in x.2.1 G x1 (0 : Int32) (1 : Int32) v_1 r_3 v_2 hq8) mI_X10_in wM_X10_168 ms_X10_in dX10_status_8 rfl ⟨Nat.le_of_ble_eq_true rfl, Nat.le_of_ble_eq_true rfl⟩ rfl (Nat.le_of_ble_eq_true rfl) ⟨Nat.zero_le _, Nat.zero_le _⟩ ?_
  refine z_if_eq F 23 dX10_status_11 rfl (fun hc => ?_) (fun hc => ?_)
  · replace h := zif_t hc h
    refine z_iconst (y := (-1 : Int32)) F dX10_status_23 rfl ?_
    cases h
    exact z_reti F hr hk dX10_status_24
  · replace h := zif_f hc h
    refine z_aload_n F dX10_status_14 rfl 0 rfl ?_
    refine zg_10_10 F t0 wF_X10_17 dX10_status_15 ?_
    refine z_iload_n F dX10_status_18 rfl 1 rfl ?_
    obtain ⟨hi19, h⟩ := zix_ex h
    refine z_iald F (zt_f tc_10_10 t0) dX10_status_19 hi19 ?_
    refine z_goto F 24 dX10_status_20 rfl ?_
    cases h
    exact z_reti F hr hk dX10_status_24

theorem dX10_count_0 : decode cX10_count 0 = .ok (.aload_n 0, 1) := by decide +kernel
theorem dX10_count_1 : decode cX10_count 1 = .ok (.iconst 0, 1) := by decide +kernel
theorem dX10_count_2 : decode cX10_count 2 = .ok (.putfield 134, 3) := by decide +kernel
theorem dX10_count_5 : decode cX10_count 5 = .ok (.iload_n 1, 1) := by decide +kernel
theorem dX10_count_6 : decode cX10_count 6 = .ok (.ifCond .ne 10, 3) := by decide +kernel
theorem dX10_count_9 : decode cX10_count 9 = .ok (.aload_n 0, 1) := by decide +kernel
theorem dX10_count_10 : decode cX10_count 10 = .ok (.getfield 247, 3) := by decide +kernel
theorem dX10_count_13 : decode cX10_count 13 = .ok (.goto 28, 3) := by decide +kernel
theorem dX10_count_16 : decode cX10_count 16 = .ok (.iload_n 1, 1) := by decide +kernel
theorem dX10_count_17 : decode cX10_count 17 = .ok (.iconst 1, 1) := by decide +kernel
theorem dX10_count_18 : decode cX10_count 18 = .ok (.if_icmp .ne 10, 3) := by decide +kernel
theorem dX10_count_21 : decode cX10_count 21 = .ok (.aload_n 0, 1) := by decide +kernel
theorem dX10_count_22 : decode cX10_count 22 = .ok (.getfield 137, 3) := by decide +kernel
theorem dX10_count_25 : decode cX10_count 25 = .ok (.goto 16, 3) := by decide +kernel
theorem dX10_count_28 : decode cX10_count 28 = .ok (.iload_n 1, 1) := by decide +kernel
theorem dX10_count_29 : decode cX10_count 29 = .ok (.iconst 2, 1) := by decide +kernel
theorem dX10_count_30 : decode cX10_count 30 = .ok (.if_icmp .ne 10, 3) := by decide +kernel
theorem dX10_count_33 : decode cX10_count 33 = .ok (.aload_n 0, 1) := by decide +kernel
theorem dX10_count_34 : decode cX10_count 34 = .ok (.getfield 253, 3) := by decide +kernel
theorem dX10_count_37 : decode cX10_count 37 = .ok (.goto 4, 3) := by decide +kernel
theorem dX10_count_40 : decode cX10_count 40 = .ok (.iconst (-1), 1) := by decide +kernel
theorem dX10_count_41 : decode cX10_count 41 = .ok (.ireturn, 1) := by decide +kernel
def fX10_count (x0 : Nat) (x1 : Int32) (v : zV) : Option (Int32 × zV) :=
  zlet (zup v x0 0 (0 : Int32)) fun v_1 =>
  if x1 = (0 : Int32) then
    some (v_1 x0 42, v_1)
  else
    if x1 = (1 : Int32) then
      some (v_1 x0 1, v_1)
    else
      if x1 = (2 : Int32) then
        some (v_1 x0 41, v_1)
      else
        some ((-1 : Int32), v_1)
set_option maxRecDepth 4000 in
theorem kX10_count (l : Launch) (G : zG) (x0 : Nat) (t0 : zty G x0 1 10) (x1 : Int32) (v : zV) (r : Int32) (w : zV) (h : fX10_count x0 x1 v = some (r, w)) : zMet l yX10_count cX10_count 2 (Option.some FieldType.int) 1 80 0 0 [zr G x0, .int x1] G v (some (.int r)) w := by
  refine zM_of (own := RX10) (by decide) rfl (Nat.le_of_ble_eq_true rfl) (fun x hl F hr hk hcs => ?_)
  subst hl
  refine z_ls [(0, zr G x0), (1, .int x1)] [0, 1] rfl ?_
  unfold fX10_count at h
  refine z_aload_n F dX10_count_0 rfl 0 rfl ?_
  refine z_iconst (y := (0 : Int32)) F dX10_count_1 rfl ?_
  refine zp_10_0 F t0 wF_X10_134 dX10_count_2 ?_
  obtain ⟨v_1, ev_1, h⟩ := zlet_ex h
  refine z_heap ev_1 ?_
  refine z_iload_n F dX10_count_5 rfl 1 rfl ?_
  refine z_if_ne F 16 dX10_count_6 rfl (fun hc => ?_) (fun hc => ?_)
  · replace h := zif_f hc h
    refine z_iload_n F dX10_count_16 rfl 1 rfl ?_
    refine z_iconst (y := (1 : Int32)) F dX10_count_17 rfl ?_
    refine z_icmp_ne F 28 dX10_count_18 rfl (fun hc => ?_) (fun hc => ?_)
    · replace h := zif_f hc h
      refine z_iload_n F dX10_count_28 rfl 1 rfl ?_
      refine z_iconst (y := (2 : Int32)) F dX10_count_29 rfl ?_
      refine z_icmp_ne F 40 dX10_count_30 rfl (fun hc => ?_) (fun hc => ?_)
      · replace h := zif_f hc h
        refine z_iconst (y := (-1 : Int32)) F dX10_count_40 rfl ?_
        cases h
        exact z_reti F hr hk dX10_count_41
      · replace h := zif_t hc h
        refine z_aload_n F dX10_count_33 rfl 0 rfl ?_
        refine zg_10_41 F t0 wF_X10_253 dX10_count_34 ?_
        refine z_goto F 41 dX10_count_37 rfl ?_
        cases h
        exact z_reti F hr hk dX10_count_41
    · replace h := zif_t hc h
      refine z_aload_n F dX10_count_21 rfl 0 rfl ?_
      refine zg_10_1 F t0 wF_X10_137 dX10_count_22 ?_
      refine z_goto F 41 dX10_count_25 rfl ?_
      cases h
      exact z_reti F hr hk dX10_count_41
  · replace h := zif_t hc h
    refine z_aload_n F dX10_count_9 rfl 0 rfl ?_
    refine zg_10_42 F t0 wF_X10_247 dX10_count_10 ?_
    refine z_goto F 41 dX10_count_13 rfl ?_
    cases h
    exact z_reti F hr hk dX10_count_41

