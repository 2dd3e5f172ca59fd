/-! THE CONSTRUCTOR of the reference -/
section
theorem zol_X10_1 : Cond.methodLink RX10 1 objectInit ∈ zTbl := zTbl_of (zin_7 (List.mem_of_getElem? (i := 46) (by decide +kernel))) rfl
theorem dX10_init_0 : decode cX10_init 0 = .ok (.aload_n 0, 1) := by decide +kernel
theorem dX10_init_1 : decode cX10_init 1 = .ok (.invokespecial 1, 3) := by decide +kernel
theorem dX10_init_4 : decode cX10_init 4 = .ok (.aload_n 0, 1) := by decide +kernel
theorem dX10_init_5 : decode cX10_init 5 = .ok (.iconst (-1), 1) := by decide +kernel
theorem dX10_init_6 : decode cX10_init 6 = .ok (.putfield 9, 3) := by decide +kernel
theorem dX10_init_9 : decode cX10_init 9 = .ok (.aload_n 0, 1) := by decide +kernel
theorem dX10_init_10 : decode cX10_init 10 = .ok (.sipush 600, 3) := by decide +kernel
theorem dX10_init_13 : decode cX10_init 13 = .ok (.newarray .int, 2) := by decide +kernel
theorem dX10_init_15 : decode cX10_init 15 = .ok (.putfield 13, 3) := by decide +kernel
theorem dX10_init_18 : decode cX10_init 18 = .ok (.aload_n 0, 1) := by decide +kernel
theorem dX10_init_19 : decode cX10_init 19 = .ok (.iconst 2, 1) := by decide +kernel
theorem dX10_init_20 : decode cX10_init 20 = .ok (.newarray .int, 2) := by decide +kernel
theorem dX10_init_22 : decode cX10_init 22 = .ok (.putfield 17, 3) := by decide +kernel
theorem dX10_init_25 : decode cX10_init 25 = .ok (.aload_n 0, 1) := by decide +kernel
theorem dX10_init_26 : decode cX10_init 26 = .ok (.bipush 6, 2) := by decide +kernel
theorem dX10_init_28 : decode cX10_init 28 = .ok (.newarray .int, 2) := by decide +kernel
theorem dX10_init_30 : decode cX10_init 30 = .ok (.putfield 20, 3) := by decide +kernel
theorem dX10_init_33 : decode cX10_init 33 = .ok (.aload_n 0, 1) := by decide +kernel
theorem dX10_init_34 : decode cX10_init 34 = .ok (.bipush 6, 2) := by decide +kernel
theorem dX10_init_36 : decode cX10_init 36 = .ok (.newarray .int, 2) := by decide +kernel
theorem dX10_init_38 : decode cX10_init 38 = .ok (.putfield 23, 3) := by decide +kernel
theorem dX10_init_41 : decode cX10_init 41 = .ok (.aload_n 0, 1) := by decide +kernel
theorem dX10_init_42 : decode cX10_init 42 = .ok (.bipush 6, 2) := by decide +kernel
theorem dX10_init_44 : decode cX10_init 44 = .ok (.newarray .int, 2) := by decide +kernel
theorem dX10_init_46 : decode cX10_init 46 = .ok (.putfield 26, 3) := by decide +kernel
theorem dX10_init_49 : decode cX10_init 49 = .ok (.aload_n 0, 1) := by decide +kernel
theorem dX10_init_50 : decode cX10_init 50 = .ok (.bipush 6, 2) := by decide +kernel
theorem dX10_init_52 : decode cX10_init 52 = .ok (.newarray .int, 2) := by decide +kernel
theorem dX10_init_54 : decode cX10_init 54 = .ok (.putfield 29, 3) := by decide +kernel
theorem dX10_init_57 : decode cX10_init 57 = .ok (.aload_n 0, 1) := by decide +kernel
theorem dX10_init_58 : decode cX10_init 58 = .ok (.bipush 16, 2) := by decide +kernel
theorem dX10_init_60 : decode cX10_init 60 = .ok (.newarray .int, 2) := by decide +kernel
theorem dX10_init_62 : decode cX10_init 62 = .ok (.putfield 32, 3) := by decide +kernel
theorem dX10_init_65 : decode cX10_init 65 = .ok (.aload_n 0, 1) := by decide +kernel
theorem dX10_init_66 : decode cX10_init 66 = .ok (.bipush 16, 2) := by decide +kernel
theorem dX10_init_68 : decode cX10_init 68 = .ok (.newarray .int, 2) := by decide +kernel
theorem dX10_init_70 : decode cX10_init 70 = .ok (.putfield 35, 3) := by decide +kernel
theorem dX10_init_73 : decode cX10_init 73 = .ok (.aload_n 0, 1) := by decide +kernel
theorem dX10_init_74 : decode cX10_init 74 = .ok (.bipush 12, 2) := by decide +kernel
theorem dX10_init_76 : decode cX10_init 76 = .ok (.newarray .int, 2) := by decide +kernel
theorem dX10_init_78 : decode cX10_init 78 = .ok (.putfield 38, 3) := by decide +kernel
theorem dX10_init_81 : decode cX10_init 81 = .ok (.aload_n 0, 1) := by decide +kernel
theorem dX10_init_82 : decode cX10_init 82 = .ok (.bipush 12, 2) := by decide +kernel
theorem dX10_init_84 : decode cX10_init 84 = .ok (.newarray .int, 2) := by decide +kernel
theorem dX10_init_86 : decode cX10_init 86 = .ok (.putfield 41, 3) := by decide +kernel
theorem dX10_init_89 : decode cX10_init 89 = .ok (.aload_n 0, 1) := by decide +kernel
theorem dX10_init_90 : decode cX10_init 90 = .ok (.bipush 16, 2) := by decide +kernel
theorem dX10_init_92 : decode cX10_init 92 = .ok (.bipush 6, 2) := by decide +kernel
theorem dX10_init_94 : decode cX10_init 94 = .ok (.multianewarray 44 2, 4) := by decide +kernel
theorem dX10_init_98 : decode cX10_init 98 = .ok (.putfield 46, 3) := by decide +kernel
theorem dX10_init_101 : decode cX10_init 101 = .ok (.aload_n 0, 1) := by decide +kernel
theorem dX10_init_102 : decode cX10_init 102 = .ok (.bipush 16, 2) := by decide +kernel
theorem dX10_init_104 : decode cX10_init 104 = .ok (.bipush 6, 2) := by decide +kernel
theorem dX10_init_106 : decode cX10_init 106 = .ok (.multianewarray 44 2, 4) := by decide +kernel
theorem dX10_init_110 : decode cX10_init 110 = .ok (.putfield 49, 3) := by decide +kernel
theorem dX10_init_113 : decode cX10_init 113 = .ok (.aload_n 0, 1) := by decide +kernel
theorem dX10_init_114 : decode cX10_init 114 = .ok (.bipush 12, 2) := by decide +kernel
theorem dX10_init_116 : decode cX10_init 116 = .ok (.iconst 2, 1) := by decide +kernel
theorem dX10_init_117 : decode cX10_init 117 = .ok (.multianewarray 44 2, 4) := by decide +kernel
theorem dX10_init_121 : decode cX10_init 121 = .ok (.putfield 52, 3) := by decide +kernel
theorem dX10_init_124 : decode cX10_init 124 = .ok (.aload_n 0, 1) := by decide +kernel
theorem dX10_init_125 : decode cX10_init 125 = .ok (.bipush 12, 2) := by decide +kernel
theorem dX10_init_127 : decode cX10_init 127 = .ok (.iconst 2, 1) := by decide +kernel
theorem dX10_init_128 : decode cX10_init 128 = .ok (.multianewarray 44 2, 4) := by decide +kernel
theorem dX10_init_132 : decode cX10_init 132 = .ok (.putfield 55, 3) := by decide +kernel
theorem dX10_init_135 : decode cX10_init 135 = .ok (.aload_n 0, 1) := by decide +kernel
theorem dX10_init_136 : decode cX10_init 136 = .ok (.bipush 12, 2) := by decide +kernel
theorem dX10_init_138 : decode cX10_init 138 = .ok (.iconst 3, 1) := by decide +kernel
theorem dX10_init_139 : decode cX10_init 139 = .ok (.multianewarray 44 2, 4) := by decide +kernel
theorem dX10_init_143 : decode cX10_init 143 = .ok (.putfield 58, 3) := by decide +kernel
theorem dX10_init_146 : decode cX10_init 146 = .ok (.aload_n 0, 1) := by decide +kernel
theorem dX10_init_147 : decode cX10_init 147 = .ok (.bipush 12, 2) := by decide +kernel
theorem dX10_init_149 : decode cX10_init 149 = .ok (.iconst 3, 1) := by decide +kernel
theorem dX10_init_150 : decode cX10_init 150 = .ok (.multianewarray 44 2, 4) := by decide +kernel
theorem dX10_init_154 : decode cX10_init 154 = .ok (.putfield 61, 3) := by decide +kernel
theorem dX10_init_157 : decode cX10_init 157 = .ok (.aload_n 0, 1) := by decide +kernel
theorem dX10_init_158 : decode cX10_init 158 = .ok (.sipush 160, 3) := by decide +kernel
theorem dX10_init_161 : decode cX10_init 161 = .ok (.iconst 2, 1) := by decide +kernel
theorem dX10_init_162 : decode cX10_init 162 = .ok (.multianewarray 44 2, 4) := by decide +kernel
theorem dX10_init_166 : decode cX10_init 166 = .ok (.putfield 64, 3) := by decide +kernel
theorem dX10_init_169 : decode cX10_init 169 = .ok (.aload_n 0, 1) := by decide +kernel
theorem dX10_init_170 : decode cX10_init 170 = .ok (.sipush 160, 3) := by decide +kernel
theorem dX10_init_173 : decode cX10_init 173 = .ok (.iconst 2, 1) := by decide +kernel
theorem dX10_init_174 : decode cX10_init 174 = .ok (.multianewarray 44 2, 4) := by decide +kernel
theorem dX10_init_178 : decode cX10_init 178 = .ok (.putfield 67, 3) := by decide +kernel
theorem dX10_init_181 : decode cX10_init 181 = .ok (.aload_n 0, 1) := by decide +kernel
theorem dX10_init_182 : decode cX10_init 182 = .ok (.bipush 12, 2) := by decide +kernel
theorem dX10_init_184 : decode cX10_init 184 = .ok (.iconst 2, 1) := by decide +kernel
theorem dX10_init_185 : decode cX10_init 185 = .ok (.multianewarray 44 2, 4) := by decide +kernel
theorem dX10_init_189 : decode cX10_init 189 = .ok (.putfield 70, 3) := by decide +kernel
theorem dX10_init_192 : decode cX10_init 192 = .ok (.aload_n 0, 1) := by decide +kernel
theorem dX10_init_193 : decode cX10_init 193 = .ok (.bipush 12, 2) := by decide +kernel
theorem dX10_init_195 : decode cX10_init 195 = .ok (.iconst 2, 1) := by decide +kernel
theorem dX10_init_196 : decode cX10_init 196 = .ok (.multianewarray 44 2, 4) := by decide +kernel
theorem dX10_init_200 : decode cX10_init 200 = .ok (.putfield 73, 3) := by decide +kernel
theorem dX10_init_203 : decode cX10_init 203 = .ok (.aload_n 0, 1) := by decide +kernel
theorem dX10_init_204 : decode cX10_init 204 = .ok (.iconst 3, 1) := by decide +kernel
theorem dX10_init_205 : decode cX10_init 205 = .ok (.sipush 305, 3) := by decide +kernel
theorem dX10_init_208 : decode cX10_init 208 = .ok (.multianewarray 44 2, 4) := by decide +kernel
theorem dX10_init_212 : decode cX10_init 212 = .ok (.putfield 76, 3) := by decide +kernel
theorem dX10_init_215 : decode cX10_init 215 = .ok (.aload_n 0, 1) := by decide +kernel
theorem dX10_init_216 : decode cX10_init 216 = .ok (.sipush 160, 3) := by decide +kernel
theorem dX10_init_219 : decode cX10_init 219 = .ok (.newarray .int, 2) := by decide +kernel
theorem dX10_init_221 : decode cX10_init 221 = .ok (.putfield 79, 3) := by decide +kernel
theorem dX10_init_224 : decode cX10_init 224 = .ok (.aload_n 0, 1) := by decide +kernel
theorem dX10_init_225 : decode cX10_init 225 = .ok (.bipush 7, 2) := by decide +kernel
theorem dX10_init_227 : decode cX10_init 227 = .ok (.newarray .int, 2) := by decide +kernel
theorem dX10_init_229 : decode cX10_init 229 = .ok (.putfield 82, 3) := by decide +kernel
theorem dX10_init_232 : decode cX10_init 232 = .ok (.aload_n 0, 1) := by decide +kernel
theorem dX10_init_233 : decode cX10_init 233 = .ok (.sipush 305, 3) := by decide +kernel
theorem dX10_init_236 : decode cX10_init 236 = .ok (.newarray .int, 2) := by decide +kernel
theorem dX10_init_238 : decode cX10_init 238 = .ok (.putfield 85, 3) := by decide +kernel
theorem dX10_init_241 : decode cX10_init 241 = .ok (.aload_n 0, 1) := by decide +kernel
theorem dX10_init_242 : decode cX10_init 242 = .ok (.sipush 305, 3) := by decide +kernel
theorem dX10_init_245 : decode cX10_init 245 = .ok (.newarray .int, 2) := by decide +kernel
theorem dX10_init_247 : decode cX10_init 247 = .ok (.putfield 88, 3) := by decide +kernel
theorem dX10_init_250 : decode cX10_init 250 = .ok (.aload_n 0, 1) := by decide +kernel
theorem dX10_init_251 : decode cX10_init 251 = .ok (.sipush 305, 3) := by decide +kernel
theorem dX10_init_254 : decode cX10_init 254 = .ok (.newarray .int, 2) := by decide +kernel
theorem dX10_init_256 : decode cX10_init 256 = .ok (.putfield 91, 3) := by decide +kernel
theorem dX10_init_259 : decode cX10_init 259 = .ok (.aload_n 0, 1) := by decide +kernel
theorem dX10_init_260 : decode cX10_init 260 = .ok (.sipush 305, 3) := by decide +kernel
theorem dX10_init_263 : decode cX10_init 263 = .ok (.newarray .int, 2) := by decide +kernel
theorem dX10_init_265 : decode cX10_init 265 = .ok (.putfield 94, 3) := by decide +kernel
theorem dX10_init_268 : decode cX10_init 268 = .ok (.aload_n 0, 1) := by decide +kernel
theorem dX10_init_269 : decode cX10_init 269 = .ok (.sipush 305, 3) := by decide +kernel
theorem dX10_init_272 : decode cX10_init 272 = .ok (.newarray .int, 2) := by decide +kernel
theorem dX10_init_274 : decode cX10_init 274 = .ok (.putfield 97, 3) := by decide +kernel
theorem dX10_init_277 : decode cX10_init 277 = .ok (.aload_n 0, 1) := by decide +kernel
theorem dX10_init_278 : decode cX10_init 278 = .ok (.iconst 3, 1) := by decide +kernel
theorem dX10_init_279 : decode cX10_init 279 = .ok (.iconst 3, 1) := by decide +kernel
theorem dX10_init_280 : decode cX10_init 280 = .ok (.multianewarray 44 2, 4) := by decide +kernel
theorem dX10_init_284 : decode cX10_init 284 = .ok (.putfield 100, 3) := by decide +kernel
theorem dX10_init_287 : decode cX10_init 287 = .ok (.aload_n 0, 1) := by decide +kernel
theorem dX10_init_288 : decode cX10_init 288 = .ok (.iconst (-1), 1) := by decide +kernel
theorem dX10_init_289 : decode cX10_init 289 = .ok (.putfield 103, 3) := by decide +kernel
theorem dX10_init_292 : decode cX10_init 292 = .ok (.aload_n 0, 1) := by decide +kernel
theorem dX10_init_293 : decode cX10_init 293 = .ok (.bipush 13, 2) := by decide +kernel
theorem dX10_init_295 : decode cX10_init 295 = .ok (.newarray .int, 2) := by decide +kernel
theorem dX10_init_297 : decode cX10_init 297 = .ok (.putfield 106, 3) := by decide +kernel
theorem dX10_init_300 : decode cX10_init 300 = .ok (.aload_n 0, 1) := by decide +kernel
theorem dX10_init_301 : decode cX10_init 301 = .ok (.iconst 4, 1) := by decide +kernel
theorem dX10_init_302 : decode cX10_init 302 = .ok (.sipush 305, 3) := by decide +kernel
theorem dX10_init_305 : decode cX10_init 305 = .ok (.multianewarray 44 2, 4) := by decide +kernel
theorem dX10_init_309 : decode cX10_init 309 = .ok (.putfield 109, 3) := by decide +kernel
theorem dX10_init_312 : decode cX10_init 312 = .ok (.aload_n 0, 1) := by decide +kernel
theorem dX10_init_313 : decode cX10_init 313 = .ok (.bipush 17, 2) := by decide +kernel
theorem dX10_init_315 : decode cX10_init 315 = .ok (.bipush 17, 2) := by decide +kernel
theorem dX10_init_317 : decode cX10_init 317 = .ok (.multianewarray 44 2, 4) := by decide +kernel
theorem dX10_init_321 : decode cX10_init 321 = .ok (.putfield 112, 3) := by decide +kernel
theorem dX10_init_324 : decode cX10_init 324 = .ok (.aload_n 0, 1) := by decide +kernel
theorem dX10_init_325 : decode cX10_init 325 = .ok (.bipush 6, 2) := by decide +kernel
theorem dX10_init_327 : decode cX10_init 327 = .ok (.newarray .int, 2) := by decide +kernel
theorem dX10_init_329 : decode cX10_init 329 = .ok (.putfield 115, 3) := by decide +kernel
theorem dX10_init_332 : decode cX10_init 332 = .ok (.aload_n 0, 1) := by decide +kernel
theorem dX10_init_333 : decode cX10_init 333 = .ok (.bipush 6, 2) := by decide +kernel
theorem dX10_init_335 : decode cX10_init 335 = .ok (.newarray .int, 2) := by decide +kernel
theorem dX10_init_337 : decode cX10_init 337 = .ok (.putfield 118, 3) := by decide +kernel
theorem dX10_init_340 : decode cX10_init 340 = .ok (.aload_n 0, 1) := by decide +kernel
theorem dX10_init_341 : decode cX10_init 341 = .ok (.iconst 3, 1) := by decide +kernel
theorem dX10_init_342 : decode cX10_init 342 = .ok (.newarray .int, 2) := by decide +kernel
theorem dX10_init_344 : decode cX10_init 344 = .ok (.putfield 121, 3) := by decide +kernel
theorem dX10_init_347 : decode cX10_init 347 = .ok (.aload_n 0, 1) := by decide +kernel
theorem dX10_init_348 : decode cX10_init 348 = .ok (.invokevirtual 124, 3) := by decide +kernel
theorem dX10_init_351 : decode cX10_init 351 = .ok (.aload_n 0, 1) := by decide +kernel
theorem dX10_init_352 : decode cX10_init 352 = .ok (.invokevirtual 127, 3) := by decide +kernel
theorem dX10_init_355 : decode cX10_init 355 = .ok (.return_, 1) := by decide +kernel
def zD10 : List Value := [.int 0, .int 0, .int 0, .int 0, .int 0, .int 0, .int 0, .int 0, .int 0, .null, .null, .null, .null, .null, .null, .null, .null, .null, .null, .null, .null, .null, .null, .null, .null, .int 0, .int 0, .int 0, .null, .null, .null, .null, .null, .null, .null, .null, .null, .null, .null, .null, .int 0, .int 0, .int 0, .null, .int 0, .int 0, .int 0, .int 0, .int 0, .null, .int 0, .null, .int 0, .int 0, .null, .null, .null, .int 0, .int 0, .null]
def zC0 (G : zG) : Nat → va_E := fun i => zE G (zV0 i) i
def ceX10 (G : zG) : Nat → va_E := (bup (bup (bup (bup (bup (bup (bup (bmna G (bup (bmna G (bup (bup (bup (bup (bmna G (bup (bup (bup (bup (bup (bup (bup (bup (bup (bup (bup (bup (bup (bup (bup (bmna G (bup (bmna G (bup (bmna G (bup (bmna G (bup (bmna G (bup (bmna G (bup (bmna G (bup (bmna G (bup (bmna G (bup (bmna G (bup (bmna G (bup (bup (bup (bup (bup (bup (bup (bup (bup (bup (bup (bup (bup (bup (bup (bup (bup (bup (bup (bup (bup (bup (zC0 G) 116 (.inr (10, [.int 0, .int 0, .int 0, .int 0, .int 0, .int 0, .int 0, .int 0, .int 0, .null, .null, .null, .null, .null, .null, .null, .null, .null, .null, .null, .null, .null, .null, .null, .null, .int 0, .int 0, .int 0, .null, .null, .null, .null, .null, .null, .null, .null, .null, .null, .null, .null, .int 0, .int 0, .int 0, .null, .int 0, .int 0, .int 0, .int 0, .int 0, .null, .int 0, .null, .int 0, .int 0, .null, .null, .null, .int 0, .int 0, .null]))) 116 (.inr (10, [.int 0, .int 0, .int 0, .int 0, .int 0, .int 0, .int 0, .int 0, .int 0, .null, .null, .null, .null, .null, .null, .null, .null, .null, .null, .null, .null, .null, .null, .null, .null, .int 0, .int 0, .int 0, .null, .null, .null, .null, .null, .null, .null, .null, .null, .null, .null, .null, .int 0, .int 0, .int 0, .null, .int 0, .int 0, .int 0, .int 0, .int 0, .null, .int 0, .null, .int 0, .int 0, .null, .null, .null, .int 0, .int 0, .null].set 3 (.int (-1 : Int32))))) 117 (.inl (G.2.1 0, 600, (.inl (fun _ => 0))))) 116 (.inr (10, [.int 0, .int 0, .int 0, .int (-1 : Int32), .int 0, .int 0, .int 0, .int 0, .int 0, .null, .null, .null, .null, .null, .null, .null, .null, .null, .null, .null, .null, .null, .null, .null, .null, .int 0, .int 0, .int 0, .null, .null, .null, .null, .null, .null, .null, .null, .null, .null, .null, .null, .int 0, .int 0, .int 0, .null, .int 0, .int 0, .int 0, .int 0, .int 0, .null, .int 0, .null, .int 0, .int 0, .null, .null, .null, .int 0, .int 0, .null].set 9 (zr G 117)))) 118 (.inl (G.2.1 0, 2, (.inl (fun _ => 0))))) 116 (.inr (10, [.int 0, .int 0, .int 0, .int (-1 : Int32), .int 0, .int 0, .int 0, .int 0, .int 0, zr G 117, .null, .null, .null, .null, .null, .null, .null, .null, .null, .null, .null, .null, .null, .null, .null, .int 0, .int 0, .int 0, .null, .null, .null, .null, .null, .null, .null, .null, .null, .null, .null, .null, .int 0, .int 0, .int 0, .null, .int 0, .int 0, .int 0, .int 0, .int 0, .null, .int 0, .null, .int 0, .int 0, .null, .null, .null, .int 0, .int 0, .null].set 10 (zr G 118)))) 119 (.inl (G.2.1 0, 6, (.inl (fun _ => 0))))) 116 (.inr (10, [.int 0, .int 0, .int 0, .int (-1 : Int32), .int 0, .int 0, .int 0, .int 0, .int 0, zr G 117, zr G 118, .null, .null, .null, .null, .null, .null, .null, .null, .null, .null, .null, .null, .null, .null, .int 0, .int 0, .int 0, .null, .null, .null, .null, .null, .null, .null, .null, .null, .null, .null, .null, .int 0, .int 0, .int 0, .null, .int 0, .int 0, .int 0, .int 0, .int 0, .null, .int 0, .null, .int 0, .int 0, .null, .null, .null, .int 0, .int 0, .null].set 11 (zr G 119)))) 120 (.inl (G.2.1 0, 6, (.inl (fun _ => 0))))) 116 (.inr (10, [.int 0, .int 0, .int 0, .int (-1 : Int32), .int 0, .int 0, .int 0, .int 0, .int 0, zr G 117, zr G 118, zr G 119, .null, .null, .null, .null, .null, .null, .null, .null, .null, .null, .null, .null, .null, .int 0, .int 0, .int 0, .null, .null, .null, .null, .null, .null, .null, .null, .null, .null, .null, .null, .int 0, .int 0, .int 0, .null, .int 0, .int 0, .int 0, .int 0, .int 0, .null, .int 0, .null, .int 0, .int 0, .null, .null, .null, .int 0, .int 0, .null].set 12 (zr G 120)))) 121 (.inl (G.2.1 0, 6, (.inl (fun _ => 0))))) 116 (.inr (10, [.int 0, .int 0, .int 0, .int (-1 : Int32), .int 0, .int 0, .int 0, .int 0, .int 0, zr G 117, zr G 118, zr G 119, zr G 120, .null, .null, .null, .null, .null, .null, .null, .null, .null, .null, .null, .null, .int 0, .int 0, .int 0, .null, .null, .null, .null, .null, .null, .null, .null, .null, .null, .null, .null, .int 0, .int 0, .int 0, .null, .int 0, .int 0, .int 0, .int 0, .int 0, .null, .int 0, .null, .int 0, .int 0, .null, .null, .null, .int 0, .int 0, .null].set 13 (zr G 121)))) 122 (.inl (G.2.1 0, 6, (.inl (fun _ => 0))))) 116 (.inr (10, [.int 0, .int 0, .int 0, .int (-1 : Int32), .int 0, .int 0, .int 0, .int 0, .int 0, zr G 117, zr G 118, zr G 119, zr G 120, zr G 121, .null, .null, .null, .null, .null, .null, .null, .null, .null, .null, .null, .int 0, .int 0, .int 0, .null, .null, .null, .null, .null, .null, .null, .null, .null, .null, .null, .null, .int 0, .int 0, .int 0, .null, .int 0, .int 0, .int 0, .int 0, .int 0, .null, .int 0, .null, .int 0, .int 0, .null, .null, .null, .int 0, .int 0, .null].set 14 (zr G 122)))) 123 (.inl (G.2.1 0, 16, (.inl (fun _ => 0))))) 116 (.inr (10, [.int 0, .int 0, .int 0, .int (-1 : Int32), .int 0, .int 0, .int 0, .int 0, .int 0, zr G 117, zr G 118, zr G 119, zr G 120, zr G 121, zr G 122, .null, .null, .null, .null, .null, .null, .null, .null, .null, .null, .int 0, .int 0, .int 0, .null, .null, .null, .null, .null, .null, .null, .null, .null, .null, .null, .null, .int 0, .int 0, .int 0, .null, .int 0, .int 0, .int 0, .int 0, .int 0, .null, .int 0, .null, .int 0, .int 0, .null, .null, .null, .int 0, .int 0, .null].set 15 (zr G 123)))) 124 (.inl (G.2.1 0, 16, (.inl (fun _ => 0))))) 116 (.inr (10, [.int 0, .int 0, .int 0, .int (-1 : Int32), .int 0, .int 0, .int 0, .int 0, .int 0, zr G 117, zr G 118, zr G 119, zr G 120, zr G 121, zr G 122, zr G 123, .null, .null, .null, .null, .null, .null, .null, .null, .null, .int 0, .int 0, .int 0, .null, .null, .null, .null, .null, .null, .null, .null, .null, .null, .null, .null, .int 0, .int 0, .int 0, .null, .int 0, .int 0, .int 0, .int 0, .int 0, .null, .int 0, .null, .int 0, .int 0, .null, .null, .null, .int 0, .int 0, .null].set 16 (zr G 124)))) 125 (.inl (G.2.1 0, 12, (.inl (fun _ => 0))))) 116 (.inr (10, [.int 0, .int 0, .int 0, .int (-1 : Int32), .int 0, .int 0, .int 0, .int 0, .int 0, zr G 117, zr G 118, zr G 119, zr G 120, zr G 121, zr G 122, zr G 123, zr G 124, .null, .null, .null, .null, .null, .null, .null, .null, .int 0, .int 0, .int 0, .null, .null, .null, .null, .null, .null, .null, .null, .null, .null, .null, .null, .int 0, .int 0, .int 0, .null, .int 0, .int 0, .int 0, .int 0, .int 0, .null, .int 0, .null, .int 0, .int 0, .null, .null, .null, .int 0, .int 0, .null].set 17 (zr G 125)))) 126 (.inl (G.2.1 0, 12, (.inl (fun _ => 0))))) 116 (.inr (10, [.int 0, .int 0, .int 0, .int (-1 : Int32), .int 0, .int 0, .int 0, .int 0, .int 0, zr G 117, zr G 118, zr G 119, zr G 120, zr G 121, zr G 122, zr G 123, zr G 124, zr G 125, .null, .null, .null, .null, .null, .null, .null, .int 0, .int 0, .int 0, .null, .null, .null, .null, .null, .null, .null, .null, .null, .null, .null, .null, .int 0, .int 0, .int 0, .null, .int 0, .int 0, .int 0, .int 0, .int 0, .null, .int 0, .null, .int 0, .int 0, .null, .null, .null, .int 0, .int 0, .null].set 18 (zr G 126)))) 127 16 6) 116 (.inr (10, [.int 0, .int 0, .int 0, .int (-1 : Int32), .int 0, .int 0, .int 0, .int 0, .int 0, zr G 117, zr G 118, zr G 119, zr G 120, zr G 121, zr G 122, zr G 123, zr G 124, zr G 125, zr G 126, .null, .null, .null, .null, .null, .null, .int 0, .int 0, .int 0, .null, .null, .null, .null, .null, .null, .null, .null, .null, .null, .null, .null, .int 0, .int 0, .int 0, .null, .int 0, .int 0, .int 0, .int 0, .int 0, .null, .int 0, .null, .int 0, .int 0, .null, .null, .null, .int 0, .int 0, .null].set 19 (zr G 127)))) 144 16 6) 116 (.inr (10, [.int 0, .int 0, .int 0, .int (-1 : Int32), .int 0, .int 0, .int 0, .int 0, .int 0, zr G 117, zr G 118, zr G 119, zr G 120, zr G 121, zr G 122, zr G 123, zr G 124, zr G 125, zr G 126, zr G 127, .null, .null, .null, .null, .null, .int 0, .int 0, .int 0, .null, .null, .null, .null, .null, .null, .null, .null, .null, .null, .null, .null, .int 0, .int 0, .int 0, .null, .int 0, .int 0, .int 0, .int 0, .int 0, .null, .int 0, .null, .int 0, .int 0, .null, .null, .null, .int 0, .int 0, .null].set 20 (zr G 144)))) 161 12 2) 116 (.inr (10, [.int 0, .int 0, .int 0, .int (-1 : Int32), .int 0, .int 0, .int 0, .int 0, .int 0, zr G 117, zr G 118, zr G 119, zr G 120, zr G 121, zr G 122, zr G 123, zr G 124, zr G 125, zr G 126, zr G 127, zr G 144, .null, .null, .null, .null, .int 0, .int 0, .int 0, .null, .null, .null, .null, .null, .null, .null, .null, .null, .null, .null, .null, .int 0, .int 0, .int 0, .null, .int 0, .int 0, .int 0, .int 0, .int 0, .null, .int 0, .null, .int 0, .int 0, .null, .null, .null, .int 0, .int 0, .null].set 21 (zr G 161)))) 174 12 2) 116 (.inr (10, [.int 0, .int 0, .int 0, .int (-1 : Int32), .int 0, .int 0, .int 0, .int 0, .int 0, zr G 117, zr G 118, zr G 119, zr G 120, zr G 121, zr G 122, zr G 123, zr G 124, zr G 125, zr G 126, zr G 127, zr G 144, zr G 161, .null, .null, .null, .int 0, .int 0, .int 0, .null, .null, .null, .null, .null, .null, .null, .null, .null, .null, .null, .null, .int 0, .int 0, .int 0, .null, .int 0, .int 0, .int 0, .int 0, .int 0, .null, .int 0, .null, .int 0, .int 0, .null, .null, .null, .int 0, .int 0, .null].set 22 (zr G 174)))) 187 12 3) 116 (.inr (10, [.int 0, .int 0, .int 0, .int (-1 : Int32), .int 0, .int 0, .int 0, .int 0, .int 0, zr G 117, zr G 118, zr G 119, zr G 120, zr G 121, zr G 122, zr G 123, zr G 124, zr G 125, zr G 126, zr G 127, zr G 144, zr G 161, zr G 174, .null, .null, .int 0, .int 0, .int 0, .null, .null, .null, .null, .null, .null, .null, .null, .null, .null, .null, .null, .int 0, .int 0, .int 0, .null, .int 0, .int 0, .int 0, .int 0, .int 0, .null, .int 0, .null, .int 0, .int 0, .null, .null, .null, .int 0, .int 0, .null].set 23 (zr G 187)))) 200 12 3) 116 (.inr (10, [.int 0, .int 0, .int 0, .int (-1 : Int32), .int 0, .int 0, .int 0, .int 0, .int 0, zr G 117, zr G 118, zr G 119, zr G 120, zr G 121, zr G 122, zr G 123, zr G 124, zr G 125, zr G 126, zr G 127, zr G 144, zr G 161, zr G 174, zr G 187, .null, .int 0, .int 0, .int 0, .null, .null, .null, .null, .null, .null, .null, .null, .null, .null, .null, .null, .int 0, .int 0, .int 0, .null, .int 0, .int 0, .int 0, .int 0, .int 0, .null, .int 0, .null, .int 0, .int 0, .null, .null, .null, .int 0, .int 0, .null].set 24 (zr G 200)))) 213 160 2) 116 (.inr (10, [.int 0, .int 0, .int 0, .int (-1 : Int32), .int 0, .int 0, .int 0, .int 0, .int 0, zr G 117, zr G 118, zr G 119, zr G 120, zr G 121, zr G 122, zr G 123, zr G 124, zr G 125, zr G 126, zr G 127, zr G 144, zr G 161, zr G 174, zr G 187, zr G 200, .int 0, .int 0, .int 0, .null, .null, .null, .null, .null, .null, .null, .null, .null, .null, .null, .null, .int 0, .int 0, .int 0, .null, .int 0, .int 0, .int 0, .int 0, .int 0, .null, .int 0, .null, .int 0, .int 0, .null, .null, .null, .int 0, .int 0, .null].set 28 (zr G 213)))) 374 160 2) 116 (.inr (10, [.int 0, .int 0, .int 0, .int (-1 : Int32), .int 0, .int 0, .int 0, .int 0, .int 0, zr G 117, zr G 118, zr G 119, zr G 120, zr G 121, zr G 122, zr G 123, zr G 124, zr G 125, zr G 126, zr G 127, zr G 144, zr G 161, zr G 174, zr G 187, zr G 200, .int 0, .int 0, .int 0, zr G 213, .null, .null, .null, .null, .null, .null, .null, .null, .null, .null, .null, .int 0, .int 0, .int 0, .null, .int 0, .int 0, .int 0, .int 0, .int 0, .null, .int 0, .null, .int 0, .int 0, .null, .null, .null, .int 0, .int 0, .null].set 29 (zr G 374)))) 535 12 2) 116 (.inr (10, [.int 0, .int 0, .int 0, .int (-1 : Int32), .int 0, .int 0, .int 0, .int 0, .int 0, zr G 117, zr G 118, zr G 119, zr G 120, zr G 121, zr G 122, zr G 123, zr G 124, zr G 125, zr G 126, zr G 127, zr G 144, zr G 161, zr G 174, zr G 187, zr G 200, .int 0, .int 0, .int 0, zr G 213, zr G 374, .null, .null, .null, .null, .null, .null, .null, .null, .null, .null, .int 0, .int 0, .int 0, .null, .int 0, .int 0, .int 0, .int 0, .int 0, .null, .int 0, .null, .int 0, .int 0, .null, .null, .null, .int 0, .int 0, .null].set 30 (zr G 535)))) 548 12 2) 116 (.inr (10, [.int 0, .int 0, .int 0, .int (-1 : Int32), .int 0, .int 0, .int 0, .int 0, .int 0, zr G 117, zr G 118, zr G 119, zr G 120, zr G 121, zr G 122, zr G 123, zr G 124, zr G 125, zr G 126, zr G 127, zr G 144, zr G 161, zr G 174, zr G 187, zr G 200, .int 0, .int 0, .int 0, zr G 213, zr G 374, zr G 535, .null, .null, .null, .null, .null, .null, .null, .null, .null, .int 0, .int 0, .int 0, .null, .int 0, .int 0, .int 0, .int 0, .int 0, .null, .int 0, .null, .int 0, .int 0, .null, .null, .null, .int 0, .int 0, .null].set 31 (zr G 548)))) 561 3 305) 116 (.inr (10, [.int 0, .int 0, .int 0, .int (-1 : Int32), .int 0, .int 0, .int 0, .int 0, .int 0, zr G 117, zr G 118, zr G 119, zr G 120, zr G 121, zr G 122, zr G 123, zr G 124, zr G 125, zr G 126, zr G 127, zr G 144, zr G 161, zr G 174, zr G 187, zr G 200, .int 0, .int 0, .int 0, zr G 213, zr G 374, zr G 535, zr G 548, .null, .null, .null, .null, .null, .null, .null, .null, .int 0, .int 0, .int 0, .null, .int 0, .int 0, .int 0, .int 0, .int 0, .null, .int 0, .null, .int 0, .int 0, .null, .null, .null, .int 0, .int 0, .null].set 32 (zr G 561)))) 565 (.inl (G.2.1 0, 160, (.inl (fun _ => 0))))) 116 (.inr (10, [.int 0, .int 0, .int 0, .int (-1 : Int32), .int 0, .int 0, .int 0, .int 0, .int 0, zr G 117, zr G 118, zr G 119, zr G 120, zr G 121, zr G 122, zr G 123, zr G 124, zr G 125, zr G 126, zr G 127, zr G 144, zr G 161, zr G 174, zr G 187, zr G 200, .int 0, .int 0, .int 0, zr G 213, zr G 374, zr G 535, zr G 548, zr G 561, .null, .null, .null, .null, .null, .null, .null, .int 0, .int 0, .int 0, .null, .int 0, .int 0, .int 0, .int 0, .int 0, .null, .int 0, .null, .int 0, .int 0, .null, .null, .null, .int 0, .int 0, .null].set 33 (zr G 565)))) 566 (.inl (G.2.1 0, 7, (.inl (fun _ => 0))))) 116 (.inr (10, [.int 0, .int 0, .int 0, .int (-1 : Int32), .int 0, .int 0, .int 0, .int 0, .int 0, zr G 117, zr G 118, zr G 119, zr G 120, zr G 121, zr G 122, zr G 123, zr G 124, zr G 125, zr G 126, zr G 127, zr G 144, zr G 161, zr G 174, zr G 187, zr G 200, .int 0, .int 0, .int 0, zr G 213, zr G 374, zr G 535, zr G 548, zr G 561, zr G 565, .null, .null, .null, .null, .null, .null, .int 0, .int 0, .int 0, .null, .int 0, .int 0, .int 0, .int 0, .int 0, .null, .int 0, .null, .int 0, .int 0, .null, .null, .null, .int 0, .int 0, .null].set 34 (zr G 566)))) 567 (.inl (G.2.1 0, 305, (.inl (fun _ => 0))))) 116 (.inr (10, [.int 0, .int 0, .int 0, .int (-1 : Int32), .int 0, .int 0, .int 0, .int 0, .int 0, zr G 117, zr G 118, zr G 119, zr G 120, zr G 121, zr G 122, zr G 123, zr G 124, zr G 125, zr G 126, zr G 127, zr G 144, zr G 161, zr G 174, zr G 187, zr G 200, .int 0, .int 0, .int 0, zr G 213, zr G 374, zr G 535, zr G 548, zr G 561, zr G 565, zr G 566, .null, .null, .null, .null, .null, .int 0, .int 0, .int 0, .null, .int 0, .int 0, .int 0, .int 0, .int 0, .null, .int 0, .null, .int 0, .int 0, .null, .null, .null, .int 0, .int 0, .null].set 35 (zr G 567)))) 568 (.inl (G.2.1 0, 305, (.inl (fun _ => 0))))) 116 (.inr (10, [.int 0, .int 0, .int 0, .int (-1 : Int32), .int 0, .int 0, .int 0, .int 0, .int 0, zr G 117, zr G 118, zr G 119, zr G 120, zr G 121, zr G 122, zr G 123, zr G 124, zr G 125, zr G 126, zr G 127, zr G 144, zr G 161, zr G 174, zr G 187, zr G 200, .int 0, .int 0, .int 0, zr G 213, zr G 374, zr G 535, zr G 548, zr G 561, zr G 565, zr G 566, zr G 567, .null, .null, .null, .null, .int 0, .int 0, .int 0, .null, .int 0, .int 0, .int 0, .int 0, .int 0, .null, .int 0, .null, .int 0, .int 0, .null, .null, .null, .int 0, .int 0, .null].set 36 (zr G 568)))) 569 (.inl (G.2.1 0, 305, (.inl (fun _ => 0))))) 116 (.inr (10, [.int 0, .int 0, .int 0, .int (-1 : Int32), .int 0, .int 0, .int 0, .int 0, .int 0, zr G 117, zr G 118, zr G 119, zr G 120, zr G 121, zr G 122, zr G 123, zr G 124, zr G 125, zr G 126, zr G 127, zr G 144, zr G 161, zr G 174, zr G 187, zr G 200, .int 0, .int 0, .int 0, zr G 213, zr G 374, zr G 535, zr G 548, zr G 561, zr G 565, zr G 566, zr G 567, zr G 568, .null, .null, .null, .int 0, .int 0, .int 0, .null, .int 0, .int 0, .int 0, .int 0, .int 0, .null, .int 0, .null, .int 0, .int 0, .null, .null, .null, .int 0, .int 0, .null].set 37 (zr G 569)))) 570 (.inl (G.2.1 0, 305, (.inl (fun _ => 0))))) 116 (.inr (10, [.int 0, .int 0, .int 0, .int (-1 : Int32), .int 0, .int 0, .int 0, .int 0, .int 0, zr G 117, zr G 118, zr G 119, zr G 120, zr G 121, zr G 122, zr G 123, zr G 124, zr G 125, zr G 126, zr G 127, zr G 144, zr G 161, zr G 174, zr G 187, zr G 200, .int 0, .int 0, .int 0, zr G 213, zr G 374, zr G 535, zr G 548, zr G 561, zr G 565, zr G 566, zr G 567, zr G 568, zr G 569, .null, .null, .int 0, .int 0, .int 0, .null, .int 0, .int 0, .int 0, .int 0, .int 0, .null, .int 0, .null, .int 0, .int 0, .null, .null, .null, .int 0, .int 0, .null].set 38 (zr G 570)))) 571 (.inl (G.2.1 0, 305, (.inl (fun _ => 0))))) 116 (.inr (10, [.int 0, .int 0, .int 0, .int (-1 : Int32), .int 0, .int 0, .int 0, .int 0, .int 0, zr G 117, zr G 118, zr G 119, zr G 120, zr G 121, zr G 122, zr G 123, zr G 124, zr G 125, zr G 126, zr G 127, zr G 144, zr G 161, zr G 174, zr G 187, zr G 200, .int 0, .int 0, .int 0, zr G 213, zr G 374, zr G 535, zr G 548, zr G 561, zr G 565, zr G 566, zr G 567, zr G 568, zr G 569, zr G 570, .null, .int 0, .int 0, .int 0, .null, .int 0, .int 0, .int 0, .int 0, .int 0, .null, .int 0, .null, .int 0, .int 0, .null, .null, .null, .int 0, .int 0, .null].set 39 (zr G 571)))) 572 3 3) 116 (.inr (10, [.int 0, .int 0, .int 0, .int (-1 : Int32), .int 0, .int 0, .int 0, .int 0, .int 0, zr G 117, zr G 118, zr G 119, zr G 120, zr G 121, zr G 122, zr G 123, zr G 124, zr G 125, zr G 126, zr G 127, zr G 144, zr G 161, zr G 174, zr G 187, zr G 200, .int 0, .int 0, .int 0, zr G 213, zr G 374, zr G 535, zr G 548, zr G 561, zr G 565, zr G 566, zr G 567, zr G 568, zr G 569, zr G 570, zr G 571, .int 0, .int 0, .int 0, .null, .int 0, .int 0, .int 0, .int 0, .int 0, .null, .int 0, .null, .int 0, .int 0, .null, .null, .null, .int 0, .int 0, .null].set 43 (zr G 572)))) 116 (.inr (10, [.int 0, .int 0, .int 0, .int (-1 : Int32), .int 0, .int 0, .int 0, .int 0, .int 0, zr G 117, zr G 118, zr G 119, zr G 120, zr G 121, zr G 122, zr G 123, zr G 124, zr G 125, zr G 126, zr G 127, zr G 144, zr G 161, zr G 174, zr G 187, zr G 200, .int 0, .int 0, .int 0, zr G 213, zr G 374, zr G 535, zr G 548, zr G 561, zr G 565, zr G 566, zr G 567, zr G 568, zr G 569, zr G 570, zr G 571, .int 0, .int 0, .int 0, zr G 572, .int 0, .int 0, .int 0, .int 0, .int 0, .null, .int 0, .null, .int 0, .int 0, .null, .null, .null, .int 0, .int 0, .null].set 46 (.int (-1 : Int32))))) 576 (.inl (G.2.1 0, 13, (.inl (fun _ => 0))))) 116 (.inr (10, [.int 0, .int 0, .int 0, .int (-1 : Int32), .int 0, .int 0, .int 0, .int 0, .int 0, zr G 117, zr G 118, zr G 119, zr G 120, zr G 121, zr G 122, zr G 123, zr G 124, zr G 125, zr G 126, zr G 127, zr G 144, zr G 161, zr G 174, zr G 187, zr G 200, .int 0, .int 0, .int 0, zr G 213, zr G 374, zr G 535, zr G 548, zr G 561, zr G 565, zr G 566, zr G 567, zr G 568, zr G 569, zr G 570, zr G 571, .int 0, .int 0, .int 0, zr G 572, .int 0, .int 0, .int (-1 : Int32), .int 0, .int 0, .null, .int 0, .null, .int 0, .int 0, .null, .null, .null, .int 0, .int 0, .null].set 49 (zr G 576)))) 577 4 305) 116 (.inr (10, [.int 0, .int 0, .int 0, .int (-1 : Int32), .int 0, .int 0, .int 0, .int 0, .int 0, zr G 117, zr G 118, zr G 119, zr G 120, zr G 121, zr G 122, zr G 123, zr G 124, zr G 125, zr G 126, zr G 127, zr G 144, zr G 161, zr G 174, zr G 187, zr G 200, .int 0, .int 0, .int 0, zr G 213, zr G 374, zr G 535, zr G 548, zr G 561, zr G 565, zr G 566, zr G 567, zr G 568, zr G 569, zr G 570, zr G 571, .int 0, .int 0, .int 0, zr G 572, .int 0, .int 0, .int (-1 : Int32), .int 0, .int 0, zr G 576, .int 0, .null, .int 0, .int 0, .null, .null, .null, .int 0, .int 0, .null].set 51 (zr G 577)))) 582 17 17) 116 (.inr (10, [.int 0, .int 0, .int 0, .int (-1 : Int32), .int 0, .int 0, .int 0, .int 0, .int 0, zr G 117, zr G 118, zr G 119, zr G 120, zr G 121, zr G 122, zr G 123, zr G 124, zr G 125, zr G 126, zr G 127, zr G 144, zr G 161, zr G 174, zr G 187, zr G 200, .int 0, .int 0, .int 0, zr G 213, zr G 374, zr G 535, zr G 548, zr G 561, zr G 565, zr G 566, zr G 567, zr G 568, zr G 569, zr G 570, zr G 571, .int 0, .int 0, .int 0, zr G 572, .int 0, .int 0, .int (-1 : Int32), .int 0, .int 0, zr G 576, .int 0, zr G 577, .int 0, .int 0, .null, .null, .null, .int 0, .int 0, .null].set 54 (zr G 582)))) 600 (.inl (G.2.1 0, 6, (.inl (fun _ => 0))))) 116 (.inr (10, [.int 0, .int 0, .int 0, .int (-1 : Int32), .int 0, .int 0, .int 0, .int 0, .int 0, zr G 117, zr G 118, zr G 119, zr G 120, zr G 121, zr G 122, zr G 123, zr G 124, zr G 125, zr G 126, zr G 127, zr G 144, zr G 161, zr G 174, zr G 187, zr G 200, .int 0, .int 0, .int 0, zr G 213, zr G 374, zr G 535, zr G 548, zr G 561, zr G 565, zr G 566, zr G 567, zr G 568, zr G 569, zr G 570, zr G 571, .int 0, .int 0, .int 0, zr G 572, .int 0, .int 0, .int (-1 : Int32), .int 0, .int 0, zr G 576, .int 0, zr G 577, .int 0, .int 0, zr G 582, .null, .null, .int 0, .int 0, .null].set 55 (zr G 600)))) 601 (.inl (G.2.1 0, 6, (.inl (fun _ => 0))))) 116 (.inr (10, [.int 0, .int 0, .int 0, .int (-1 : Int32), .int 0, .int 0, .int 0, .int 0, .int 0, zr G 117, zr G 118, zr G 119, zr G 120, zr G 121, zr G 122, zr G 123, zr G 124, zr G 125, zr G 126, zr G 127, zr G 144, zr G 161, zr G 174, zr G 187, zr G 200, .int 0, .int 0, .int 0, zr G 213, zr G 374, zr G 535, zr G 548, zr G 561, zr G 565, zr G 566, zr G 567, zr G 568, zr G 569, zr G 570, zr G 571, .int 0, .int 0, .int 0, zr G 572, .int 0, .int 0, .int (-1 : Int32), .int 0, .int 0, zr G 576, .int 0, zr G 577, .int 0, .int 0, zr G 582, zr G 600, .null, .int 0, .int 0, .null].set 56 (zr G 601)))) 602 (.inl (G.2.1 0, 3, (.inl (fun _ => 0))))) 116 (.inr (10, [.int 0, .int 0, .int 0, .int (-1 : Int32), .int 0, .int 0, .int 0, .int 0, .int 0, zr G 117, zr G 118, zr G 119, zr G 120, zr G 121, zr G 122, zr G 123, zr G 124, zr G 125, zr G 126, zr G 127, zr G 144, zr G 161, zr G 174, zr G 187, zr G 200, .int 0, .int 0, .int 0, zr G 213, zr G 374, zr G 535, zr G 548, zr G 561, zr G 565, zr G 566, zr G 567, zr G 568, zr G 569, zr G 570, zr G 571, .int 0, .int 0, .int 0, zr G 572, .int 0, .int 0, .int (-1 : Int32), .int 0, .int 0, zr G 576, .int 0, zr G 577, .int 0, .int 0, zr G 582, zr G 600, zr G 601, .int 0, .int 0, .null].set 59 (zr G 602))))
def zEq (e e' : va_E) : Prop := e = e' ∨ ∃ (c : ClassId) (N : Nat) (f f' : Nat → Option Nat), e = .inl (c, N, .inr (.inr (.inr (.inr f)))) ∧ e' = .inl (c, N, .inr (.inr (.inr (.inr f')))) ∧ ∀ k, k < N → f k = f' k
theorem zEq_at {D : va_G} {q : Nat} {e e' : va_E} {H : Heap} (h : zEq e e') (ha : va_at D vwCl (q, e) H) : va_at D vwCl (q, e') H := by
  rcases h with rfl | ⟨c, N, f, f', rfl, rfl, hf⟩
  · exact ha
  · show H[q]? = some (vp_cell c (N, .inr (.inr (.inr (.inr f')))))
    refine Eq.trans (show H[q]? = some (vp_cell c (N, .inr (.inr (.inr (.inr f))))) from ha) ?_
    rw [vp_cell_q, vp_cell_q]
    unfold arrV
    have hq : (fun j : Fin N => va_rf (f j.val)) = fun j : Fin N => va_rf (f' j.val) := funext fun j => by rw [hf j.val j.isLt]
    rw [hq]
theorem zEq_P {G : zG} {n : Nat} {ce ce' : Nat → va_E} {H : Heap} (h : ∀ i, i < n → zEq (ce i) (ce' i)) (hP : va_P G.1 vwCl (zWb G n ce) H) : va_P G.1 vwCl (zWb G n ce') H := zWb_P (fun i hi => zEq_at (h i hi) (zWb_A hP hi))
theorem bup_n {ce : Nat → va_E} {j i : Nat} {e : va_E} (h : i ≠ j) : bup ce j e i = ce i := if_neg h
theorem bmna_n {G : zG} {ce : Nat → va_E} {n N K i : Nat} (h : i < n ∨ n + N < i) : bmna G ce n N K i = ce i := by
  unfold bmna
  rw [if_neg (by omega), if_neg (by omega)]
theorem bmna_r {G : zG} {ce : Nat → va_E} {n N K i : Nat} (h : n < i ∧ i ≤ n + N) : bmna G ce n N K i = .inl (G.2.1 0, K, .inl (fun _ => 0)) := by
  unfold bmna
  rw [if_neg (by omega), if_pos h]
theorem bmna_s {G : zG} {ce : Nat → va_E} {n N K : Nat} : bmna G ce n N K n = .inl (G.2.1 3, N, .inr (.inr (.inr (.inr (fun i => if i < N then some (G.2.2 + n + 1 + i) else none))))) := if_pos rfl
theorem bup_s {ce : Nat → va_E} {j : Nat} {e : va_E} : bup ce j e j = e := if_pos rfl
theorem zV0_hi {a : Nat} (h : 116 < a) : zV0 a = fun _ => 0 := by
  unfold zV0
  rw [if_neg (by omega), if_neg (by omega), if_neg (by omega), if_neg (by omega), if_neg (by omega), if_neg (by omega), if_neg (by omega), if_neg (by omega), if_neg (by omega), if_neg (by omega), if_neg (by omega), if_neg (by omega), if_neg (by omega), if_neg (by omega), if_neg (by omega), if_neg (by omega), if_neg (by omega), if_neg (by omega), if_neg (by omega)]
theorem zE_row {G : zG} {i K : Nat} (hi : 116 < i) (h : zsh i = (2, 0, K, [])) : zE G (zV0 i) i = .inl (G.2.1 0, K, .inl (fun _ => 0)) := by
  unfold zE
  rw [zV0_hi hi, h, if_neg (show ¬ (2 : Nat) = 1 by decide)]
  show (Sum.inl (G.2.1 0, zlen i, Sum.inl (fun _ => 0)) : va_E) = _
  unfold zlen
  rw [h]
theorem zE_out {G : zG} {f : Nat → Int32} {i N : Nat} (h1 : (zsh i).1 = 2) (h2 : (zsh i).2.1 = 3) (h3 : zlen i = N) : zE G f i = .inl (G.2.1 3, N, .inr (.inr (.inr (.inr (fun k => some (G.2.2 + zrf i k)))))) := by
  unfold zE
  rw [h1, h2, if_neg (show ¬ (2 : Nat) = 1 by decide)]
  show (Sum.inl (G.2.1 3, zlen i, .inr (.inr (.inr (.inr (fun k => some (G.2.2 + zrf i k)))))) : va_E) = _
  rw [h3]
theorem ceX10_lo {G : zG} {i : Nat} (h : i < 116) : ceX10 G i = zC0 G i := by
  unfold ceX10
  rw [bup_n (by omega), bup_n (by omega), bup_n (by omega), bup_n (by omega), bup_n (by omega), bup_n (by omega), bup_n (by omega), bmna_n (by omega), bup_n (by omega), bmna_n (by omega), bup_n (by omega), bup_n (by omega), bup_n (by omega), bup_n (by omega), bmna_n (by omega), bup_n (by omega), bup_n (by omega), bup_n (by omega), bup_n (by omega), bup_n (by omega), bup_n (by omega), bup_n (by omega), bup_n (by omega), bup_n (by omega), bup_n (by omega), bup_n (by omega), bup_n (by omega), bup_n (by omega), bup_n (by omega), bup_n (by omega), bmna_n (by omega), bup_n (by omega), bmna_n (by omega), bup_n (by omega), bmna_n (by omega), bup_n (by omega), bmna_n (by omega), bup_n (by omega), bmna_n (by omega), bup_n (by omega), bmna_n (by omega), bup_n (by omega), bmna_n (by omega), bup_n (by omega), bmna_n (by omega), bup_n (by omega), bmna_n (by omega), bup_n (by omega), bmna_n (by omega), bup_n (by omega), bmna_n (by omega), bup_n (by omega), bup_n (by omega), bup_n (by omega), bup_n (by omega), bup_n (by omega), bup_n (by omega), bup_n (by omega), bup_n (by omega), bup_n (by omega), bup_n (by omega), bup_n (by omega), bup_n (by omega), bup_n (by omega), bup_n (by omega), bup_n (by omega), bup_n (by omega), bup_n (by omega), bup_n (by omega), bup_n (by omega), bup_n (by omega), bup_n (by omega), bup_n (by omega)]
set_option maxRecDepth 20000 in
theorem ceX10_116 (G : zG) : ceX10 G 116 = zE G (zV0 116) 116 := rfl
theorem ceX10_117 (G : zG) : ceX10 G 117 = zE G (zV0 117) 117 := by
  unfold ceX10
  rw [bup_n (by decide), bup_n (by decide), bup_n (by decide), bup_n (by decide), bup_n (by decide), bup_n (by decide), bup_n (by decide), bmna_n (by decide), bup_n (by decide), bmna_n (by decide), bup_n (by decide), bup_n (by decide), bup_n (by decide), bup_n (by decide), bmna_n (by decide), bup_n (by decide), bup_n (by decide), bup_n (by decide), bup_n (by decide), bup_n (by decide), bup_n (by decide), bup_n (by decide), bup_n (by decide), bup_n (by decide), bup_n (by decide), bup_n (by decide), bup_n (by decide), bup_n (by decide), bup_n (by decide), bup_n (by decide), bmna_n (by decide), bup_n (by decide), bmna_n (by decide), bup_n (by decide), bmna_n (by decide), bup_n (by decide), bmna_n (by decide), bup_n (by decide), bmna_n (by decide), bup_n (by decide), bmna_n (by decide), bup_n (by decide), bmna_n (by decide), bup_n (by decide), bmna_n (by decide), bup_n (by decide), bmna_n (by decide), bup_n (by decide), bmna_n (by decide), bup_n (by decide), bmna_n (by decide), bup_n (by decide), bup_n (by decide), bup_n (by decide), bup_n (by decide), bup_n (by decide), bup_n (by decide), bup_n (by decide), bup_n (by decide), bup_n (by decide), bup_n (by decide), bup_n (by decide), bup_n (by decide), bup_n (by decide), bup_n (by decide), bup_n (by decide), bup_n (by decide), bup_n (by decide), bup_n (by decide), bup_n (by decide), bup_s]
  exact (zE_row (by decide) (by decide +kernel)).symm
theorem ceX10_118 (G : zG) : ceX10 G 118 = zE G (zV0 118) 118 := by
  unfold ceX10
  rw [bup_n (by decide), bup_n (by decide), bup_n (by decide), bup_n (by decide), bup_n (by decide), bup_n (by decide), bup_n (by decide), bmna_n (by decide), bup_n (by decide), bmna_n (by decide), bup_n (by decide), bup_n (by decide), bup_n (by decide), bup_n (by decide), bmna_n (by decide), bup_n (by decide), bup_n (by decide), bup_n (by decide), bup_n (by decide), bup_n (by decide), bup_n (by decide), bup_n (by decide), bup_n (by decide), bup_n (by decide), bup_n (by decide), bup_n (by decide), bup_n (by decide), bup_n (by decide), bup_n (by decide), bup_n (by decide), bmna_n (by decide), bup_n (by decide), bmna_n (by decide), bup_n (by decide), bmna_n (by decide), bup_n (by decide), bmna_n (by decide), bup_n (by decide), bmna_n (by decide), bup_n (by decide), bmna_n (by decide), bup_n (by decide), bmna_n (by decide), bup_n (by decide), bmna_n (by decide), bup_n (by decide), bmna_n (by decide), bup_n (by decide), bmna_n (by decide), bup_n (by decide), bmna_n (by decide), bup_n (by decide), bup_n (by decide), bup_n (by decide), bup_n (by decide), bup_n (by decide), bup_n (by decide), bup_n (by decide), bup_n (by decide), bup_n (by decide), bup_n (by decide), bup_n (by decide), bup_n (by decide), bup_n (by decide), bup_n (by decide), bup_n (by decide), bup_n (by decide), bup_n (by decide), bup_s]
  exact (zE_row (by decide) (by decide +kernel)).symm
theorem ceX10_119 (G : zG) : ceX10 G 119 = zE G (zV0 119) 119 := by
  unfold ceX10
  rw [bup_n (by decide), bup_n (by decide), bup_n (by decide), bup_n (by decide), bup_n (by decide), bup_n (by decide), bup_n (by decide), bmna_n (by decide), bup_n (by decide), bmna_n (by decide), bup_n (by decide), bup_n (by decide), bup_n (by decide), bup_n (by decide), bmna_n (by decide), bup_n (by decide), bup_n (by decide), bup_n (by decide), bup_n (by decide), bup_n (by decide), bup_n (by decide), bup_n (by decide), bup_n (by decide), bup_n (by decide), bup_n (by decide), bup_n (by decide), bup_n (by decide), bup_n (by decide), bup_n (by decide), bup_n (by decide), bmna_n (by decide), bup_n (by decide), bmna_n (by decide), bup_n (by decide), bmna_n (by decide), bup_n (by decide), bmna_n (by decide), bup_n (by decide), bmna_n (by decide), bup_n (by decide), bmna_n (by decide), bup_n (by decide), bmna_n (by decide), bup_n (by decide), bmna_n (by decide), bup_n (by decide), bmna_n (by decide), bup_n (by decide), bmna_n (by decide), bup_n (by decide), bmna_n (by decide), bup_n (by decide), bup_n (by decide), bup_n (by decide), bup_n (by decide), bup_n (by decide), bup_n (by decide), bup_n (by decide), bup_n (by decide), bup_n (by decide), bup_n (by decide), bup_n (by decide), bup_n (by decide), bup_n (by decide), bup_n (by decide), bup_n (by decide), bup_s]
  exact (zE_row (by decide) (by decide +kernel)).symm
theorem ceX10_120 (G : zG) : ceX10 G 120 = zE G (zV0 120) 120 := by
  unfold ceX10
  rw [bup_n (by decide), bup_n (by decide), bup_n (by decide), bup_n (by decide), bup_n (by decide), bup_n (by decide), bup_n (by decide), bmna_n (by decide), bup_n (by decide), bmna_n (by decide), bup_n (by decide), bup_n (by decide), bup_n (by decide), bup_n (by decide), bmna_n (by decide), bup_n (by decide), bup_n (by decide), bup_n (by decide), bup_n (by decide), bup_n (by decide), bup_n (by decide), bup_n (by decide), bup_n (by decide), bup_n (by decide), bup_n (by decide), bup_n (by decide), bup_n (by decide), bup_n (by decide), bup_n (by decide), bup_n (by decide), bmna_n (by decide), bup_n (by decide), bmna_n (by decide), bup_n (by decide), bmna_n (by decide), bup_n (by decide), bmna_n (by decide), bup_n (by decide), bmna_n (by decide), bup_n (by decide), bmna_n (by decide), bup_n (by decide), bmna_n (by decide), bup_n (by decide), bmna_n (by decide), bup_n (by decide), bmna_n (by decide), bup_n (by decide), bmna_n (by decide), bup_n (by decide), bmna_n (by decide), bup_n (by decide), bup_n (by decide), bup_n (by decide), bup_n (by decide), bup_n (by decide), bup_n (by decide), bup_n (by decide), bup_n (by decide), bup_n (by decide), bup_n (by decide), bup_n (by decide), bup_n (by decide), bup_n (by decide), bup_s]
  exact (zE_row (by decide) (by decide +kernel)).symm
theorem ceX10_121 (G : zG) : ceX10 G 121 = zE G (zV0 121) 121 := by
  unfold ceX10
  rw [bup_n (by decide), bup_n (by decide), bup_n (by decide), bup_n (by decide), bup_n (by decide), bup_n (by decide), bup_n (by decide), bmna_n (by decide), bup_n (by decide), bmna_n (by decide), bup_n (by decide), bup_n (by decide), bup_n (by decide), bup_n (by decide), bmna_n (by decide), bup_n (by decide), bup_n (by decide), bup_n (by decide), bup_n (by decide), bup_n (by decide), bup_n (by decide), bup_n (by decide), bup_n (by decide), bup_n (by decide), bup_n (by decide), bup_n (by decide), bup_n (by decide), bup_n (by decide), bup_n (by decide), bup_n (by decide), bmna_n (by decide), bup_n (by decide), bmna_n (by decide), bup_n (by decide), bmna_n (by decide), bup_n (by decide), bmna_n (by decide), bup_n (by decide), bmna_n (by decide), bup_n (by decide), bmna_n (by decide), bup_n (by decide), bmna_n (by decide), bup_n (by decide), bmna_n (by decide), bup_n (by decide), bmna_n (by decide), bup_n (by decide), bmna_n (by decide), bup_n (by decide), bmna_n (by decide), bup_n (by decide), bup_n (by decide), bup_n (by decide), bup_n (by decide), bup_n (by decide), bup_n (by decide), bup_n (by decide), bup_n (by decide), bup_n (by decide), bup_n (by decide), bup_n (by decide), bup_s]
  exact (zE_row (by decide) (by decide +kernel)).symm
theorem ceX10_122 (G : zG) : ceX10 G 122 = zE G (zV0 122) 122 := by
  unfold ceX10
  rw [bup_n (by decide), bup_n (by decide), bup_n (by decide), bup_n (by decide), bup_n (by decide), bup_n (by decide), bup_n (by decide), bmna_n (by decide), bup_n (by decide), bmna_n (by decide), bup_n (by decide), bup_n (by decide), bup_n (by decide), bup_n (by decide), bmna_n (by decide), bup_n (by decide), bup_n (by decide), bup_n (by decide), bup_n (by decide), bup_n (by decide), bup_n (by decide), bup_n (by decide), bup_n (by decide), bup_n (by decide), bup_n (by decide), bup_n (by decide), bup_n (by decide), bup_n (by decide), bup_n (by decide), bup_n (by decide), bmna_n (by decide), bup_n (by decide), bmna_n (by decide), bup_n (by decide), bmna_n (by decide), bup_n (by decide), bmna_n (by decide), bup_n (by decide), bmna_n (by decide), bup_n (by decide), bmna_n (by decide), bup_n (by decide), bmna_n (by decide), bup_n (by decide), bmna_n (by decide), bup_n (by decide), bmna_n (by decide), bup_n (by decide), bmna_n (by decide), bup_n (by decide), bmna_n (by decide), bup_n (by decide), bup_n (by decide), bup_n (by decide), bup_n (by decide), bup_n (by decide), bup_n (by decide), bup_n (by decide), bup_n (by decide), bup_n (by decide), bup_s]
  exact (zE_row (by decide) (by decide +kernel)).symm
theorem ceX10_123 (G : zG) : ceX10 G 123 = zE G (zV0 123) 123 := by
  unfold ceX10
  rw [bup_n (by decide), bup_n (by decide), bup_n (by decide), bup_n (by decide), bup_n (by decide), bup_n (by decide), bup_n (by decide), bmna_n (by decide), bup_n (by decide), bmna_n (by decide), bup_n (by decide), bup_n (by decide), bup_n (by decide), bup_n (by decide), bmna_n (by decide), bup_n (by decide), bup_n (by decide), bup_n (by decide), bup_n (by decide), bup_n (by decide), bup_n (by decide), bup_n (by decide), bup_n (by decide), bup_n (by decide), bup_n (by decide), bup_n (by decide), bup_n (by decide), bup_n (by decide), bup_n (by decide), bup_n (by decide), bmna_n (by decide), bup_n (by decide), bmna_n (by decide), bup_n (by decide), bmna_n (by decide), bup_n (by decide), bmna_n (by decide), bup_n (by decide), bmna_n (by decide), bup_n (by decide), bmna_n (by decide), bup_n (by decide), bmna_n (by decide), bup_n (by decide), bmna_n (by decide), bup_n (by decide), bmna_n (by decide), bup_n (by decide), bmna_n (by decide), bup_n (by decide), bmna_n (by decide), bup_n (by decide), bup_n (by decide), bup_n (by decide), bup_n (by decide), bup_n (by decide), bup_n (by decide), bup_n (by decide), bup_s]
  exact (zE_row (by decide) (by decide +kernel)).symm
theorem ceX10_124 (G : zG) : ceX10 G 124 = zE G (zV0 124) 124 := by
  unfold ceX10
  rw [bup_n (by decide), bup_n (by decide), bup_n (by decide), bup_n (by decide), bup_n (by decide), bup_n (by decide), bup_n (by decide), bmna_n (by decide), bup_n (by decide), bmna_n (by decide), bup_n (by decide), bup_n (by decide), bup_n (by decide), bup_n (by decide), bmna_n (by decide), bup_n (by decide), bup_n (by decide), bup_n (by decide), bup_n (by decide), bup_n (by decide), bup_n (by decide), bup_n (by decide), bup_n (by decide), bup_n (by decide), bup_n (by decide), bup_n (by decide), bup_n (by decide), bup_n (by decide), bup_n (by decide), bup_n (by decide), bmna_n (by decide), bup_n (by decide), bmna_n (by decide), bup_n (by decide), bmna_n (by decide), bup_n (by decide), bmna_n (by decide), bup_n (by decide), bmna_n (by decide), bup_n (by decide), bmna_n (by decide), bup_n (by decide), bmna_n (by decide), bup_n (by decide), bmna_n (by decide), bup_n (by decide), bmna_n (by decide), bup_n (by decide), bmna_n (by decide), bup_n (by decide), bmna_n (by decide), bup_n (by decide), bup_n (by decide), bup_n (by decide), bup_n (by decide), bup_n (by decide), bup_s]
  exact (zE_row (by decide) (by decide +kernel)).symm
theorem ceX10_125 (G : zG) : ceX10 G 125 = zE G (zV0 125) 125 := by
  unfold ceX10
  rw [bup_n (by decide), bup_n (by decide), bup_n (by decide), bup_n (by decide), bup_n (by decide), bup_n (by decide), bup_n (by decide), bmna_n (by decide), bup_n (by decide), bmna_n (by decide), bup_n (by decide), bup_n (by decide), bup_n (by decide), bup_n (by decide), bmna_n (by decide), bup_n (by decide), bup_n (by decide), bup_n (by decide), bup_n (by decide), bup_n (by decide), bup_n (by decide), bup_n (by decide), bup_n (by decide), bup_n (by decide), bup_n (by decide), bup_n (by decide), bup_n (by decide), bup_n (by decide), bup_n (by decide), bup_n (by decide), bmna_n (by decide), bup_n (by decide), bmna_n (by decide), bup_n (by decide), bmna_n (by decide), bup_n (by decide), bmna_n (by decide), bup_n (by decide), bmna_n (by decide), bup_n (by decide), bmna_n (by decide), bup_n (by decide), bmna_n (by decide), bup_n (by decide), bmna_n (by decide), bup_n (by decide), bmna_n (by decide), bup_n (by decide), bmna_n (by decide), bup_n (by decide), bmna_n (by decide), bup_n (by decide), bup_n (by decide), bup_n (by decide), bup_s]
  exact (zE_row (by decide) (by decide +kernel)).symm
theorem ceX10_126 (G : zG) : ceX10 G 126 = zE G (zV0 126) 126 := by
  unfold ceX10
  rw [bup_n (by decide), bup_n (by decide), bup_n (by decide), bup_n (by decide), bup_n (by decide), bup_n (by decide), bup_n (by decide), bmna_n (by decide), bup_n (by decide), bmna_n (by decide), bup_n (by decide), bup_n (by decide), bup_n (by decide), bup_n (by decide), bmna_n (by decide), bup_n (by decide), bup_n (by decide), bup_n (by decide), bup_n (by decide), bup_n (by decide), bup_n (by decide), bup_n (by decide), bup_n (by decide), bup_n (by decide), bup_n (by decide), bup_n (by decide), bup_n (by decide), bup_n (by decide), bup_n (by decide), bup_n (by decide), bmna_n (by decide), bup_n (by decide), bmna_n (by decide), bup_n (by decide), bmna_n (by decide), bup_n (by decide), bmna_n (by decide), bup_n (by decide), bmna_n (by decide), bup_n (by decide), bmna_n (by decide), bup_n (by decide), bmna_n (by decide), bup_n (by decide), bmna_n (by decide), bup_n (by decide), bmna_n (by decide), bup_n (by decide), bmna_n (by decide), bup_n (by decide), bmna_n (by decide), bup_n (by decide), bup_s]
  exact (zE_row (by decide) (by decide +kernel)).symm
theorem ceX10_565 (G : zG) : ceX10 G 565 = zE G (zV0 565) 565 := by
  unfold ceX10
  rw [bup_n (by decide), bup_n (by decide), bup_n (by decide), bup_n (by decide), bup_n (by decide), bup_n (by decide), bup_n (by decide), bmna_n (by decide), bup_n (by decide), bmna_n (by decide), bup_n (by decide), bup_n (by decide), bup_n (by decide), bup_n (by decide), bmna_n (by decide), bup_n (by decide), bup_n (by decide), bup_n (by decide), bup_n (by decide), bup_n (by decide), bup_n (by decide), bup_n (by decide), bup_n (by decide), bup_n (by decide), bup_n (by decide), bup_n (by decide), bup_n (by decide), bup_n (by decide), bup_s]
  exact (zE_row (by decide) (by decide +kernel)).symm
theorem ceX10_566 (G : zG) : ceX10 G 566 = zE G (zV0 566) 566 := by
  unfold ceX10
  rw [bup_n (by decide), bup_n (by decide), bup_n (by decide), bup_n (by decide), bup_n (by decide), bup_n (by decide), bup_n (by decide), bmna_n (by decide), bup_n (by decide), bmna_n (by decide), bup_n (by decide), bup_n (by decide), bup_n (by decide), bup_n (by decide), bmna_n (by decide), bup_n (by decide), bup_n (by decide), bup_n (by decide), bup_n (by decide), bup_n (by decide), bup_n (by decide), bup_n (by decide), bup_n (by decide), bup_n (by decide), bup_n (by decide), bup_n (by decide), bup_s]
  exact (zE_row (by decide) (by decide +kernel)).symm
theorem ceX10_567 (G : zG) : ceX10 G 567 = zE G (zV0 567) 567 := by
  unfold ceX10
  rw [bup_n (by decide), bup_n (by decide), bup_n (by decide), bup_n (by decide), bup_n (by decide), bup_n (by decide), bup_n (by decide), bmna_n (by decide), bup_n (by decide), bmna_n (by decide), bup_n (by decide), bup_n (by decide), bup_n (by decide), bup_n (by decide), bmna_n (by decide), bup_n (by decide), bup_n (by decide), bup_n (by decide), bup_n (by decide), bup_n (by decide), bup_n (by decide), bup_n (by decide), bup_n (by decide), bup_n (by decide), bup_s]
  exact (zE_row (by decide) (by decide +kernel)).symm
theorem ceX10_568 (G : zG) : ceX10 G 568 = zE G (zV0 568) 568 := by
  unfold ceX10
  rw [bup_n (by decide), bup_n (by decide), bup_n (by decide), bup_n (by decide), bup_n (by decide), bup_n (by decide), bup_n (by decide), bmna_n (by decide), bup_n (by decide), bmna_n (by decide), bup_n (by decide), bup_n (by decide), bup_n (by decide), bup_n (by decide), bmna_n (by decide), bup_n (by decide), bup_n (by decide), bup_n (by decide), bup_n (by decide), bup_n (by decide), bup_n (by decide), bup_n (by decide), bup_s]
  exact (zE_row (by decide) (by decide +kernel)).symm
theorem ceX10_569 (G : zG) : ceX10 G 569 = zE G (zV0 569) 569 := by
  unfold ceX10
  rw [bup_n (by decide), bup_n (by decide), bup_n (by decide), bup_n (by decide), bup_n (by decide), bup_n (by decide), bup_n (by decide), bmna_n (by decide), bup_n (by decide), bmna_n (by decide), bup_n (by decide), bup_n (by decide), bup_n (by decide), bup_n (by decide), bmna_n (by decide), bup_n (by decide), bup_n (by decide), bup_n (by decide), bup_n (by decide), bup_n (by decide), bup_s]
  exact (zE_row (by decide) (by decide +kernel)).symm
theorem ceX10_570 (G : zG) : ceX10 G 570 = zE G (zV0 570) 570 := by
  unfold ceX10
  rw [bup_n (by decide), bup_n (by decide), bup_n (by decide), bup_n (by decide), bup_n (by decide), bup_n (by decide), bup_n (by decide), bmna_n (by decide), bup_n (by decide), bmna_n (by decide), bup_n (by decide), bup_n (by decide), bup_n (by decide), bup_n (by decide), bmna_n (by decide), bup_n (by decide), bup_n (by decide), bup_n (by decide), bup_s]
  exact (zE_row (by decide) (by decide +kernel)).symm
theorem ceX10_571 (G : zG) : ceX10 G 571 = zE G (zV0 571) 571 := by
  unfold ceX10
  rw [bup_n (by decide), bup_n (by decide), bup_n (by decide), bup_n (by decide), bup_n (by decide), bup_n (by decide), bup_n (by decide), bmna_n (by decide), bup_n (by decide), bmna_n (by decide), bup_n (by decide), bup_n (by decide), bup_n (by decide), bup_n (by decide), bmna_n (by decide), bup_n (by decide), bup_s]
  exact (zE_row (by decide) (by decide +kernel)).symm
theorem ceX10_576 (G : zG) : ceX10 G 576 = zE G (zV0 576) 576 := by
  unfold ceX10
  rw [bup_n (by decide), bup_n (by decide), bup_n (by decide), bup_n (by decide), bup_n (by decide), bup_n (by decide), bup_n (by decide), bmna_n (by decide), bup_n (by decide), bmna_n (by decide), bup_n (by decide), bup_s]
  exact (zE_row (by decide) (by decide +kernel)).symm
theorem ceX10_600 (G : zG) : ceX10 G 600 = zE G (zV0 600) 600 := by
  unfold ceX10
  rw [bup_n (by decide), bup_n (by decide), bup_n (by decide), bup_n (by decide), bup_n (by decide), bup_s]
  exact (zE_row (by decide) (by decide +kernel)).symm
theorem ceX10_601 (G : zG) : ceX10 G 601 = zE G (zV0 601) 601 := by
  unfold ceX10
  rw [bup_n (by decide), bup_n (by decide), bup_n (by decide), bup_s]
  exact (zE_row (by decide) (by decide +kernel)).symm
theorem ceX10_602 (G : zG) : ceX10 G 602 = zE G (zV0 602) 602 := by
  unfold ceX10
  rw [bup_n (by decide), bup_s]
  exact (zE_row (by decide) (by decide +kernel)).symm
theorem ceX10_127 (G : zG) : zEq (ceX10 G 127) (zE G (zV0 127) 127) := by
  unfold ceX10
  rw [bup_n (by decide), bup_n (by decide), bup_n (by decide), bup_n (by decide), bup_n (by decide), bup_n (by decide), bup_n (by decide), bmna_n (by decide), bup_n (by decide), bmna_n (by decide), bup_n (by decide), bup_n (by decide), bup_n (by decide), bup_n (by decide), bmna_n (by decide), bup_n (by decide), bup_n (by decide), bup_n (by decide), bup_n (by decide), bup_n (by decide), bup_n (by decide), bup_n (by decide), bup_n (by decide), bup_n (by decide), bup_n (by decide), bup_n (by decide), bup_n (by decide), bup_n (by decide), bup_n (by decide), bup_n (by decide), bmna_n (by decide), bup_n (by decide), bmna_n (by decide), bup_n (by decide), bmna_n (by decide), bup_n (by decide), bmna_n (by decide), bup_n (by decide), bmna_n (by decide), bup_n (by decide), bmna_n (by decide), bup_n (by decide), bmna_n (by decide), bup_n (by decide), bmna_n (by decide), bup_n (by decide), bmna_n (by decide), bup_n (by decide), bmna_n (by decide), bup_n (by decide), bmna_s, zE_out (N := 16) (by decide +kernel) (by decide +kernel) (by decide +kernel)]
  refine Or.inr ⟨_, _, _, _, rfl, rfl, fun k hk => ?_⟩
  rw [if_pos hk, rfa_127 k hk]
  exact congrArg some (by omega)
theorem zsh_127 : ∀ j, j < 16 → zsh (128 + j) = (2, 0, 6, []) := by decide +kernel
theorem ceX10_127r {G : zG} {i : Nat} (h : 127 < i ∧ i ≤ 127 + 16) : ceX10 G i = zE G (zV0 i) i := by
  have e := zsh_127 (i - 128) (by omega)
  rw [show 128 + (i - 128) = i by omega] at e
  rw [zE_row (by omega) e]
  unfold ceX10
  rw [bup_n (by omega), bup_n (by omega), bup_n (by omega), bup_n (by omega), bup_n (by omega), bup_n (by omega), bup_n (by omega), bmna_n (by omega), bup_n (by omega), bmna_n (by omega), bup_n (by omega), bup_n (by omega), bup_n (by omega), bup_n (by omega), bmna_n (by omega), bup_n (by omega), bup_n (by omega), bup_n (by omega), bup_n (by omega), bup_n (by omega), bup_n (by omega), bup_n (by omega), bup_n (by omega), bup_n (by omega), bup_n (by omega), bup_n (by omega), bup_n (by omega), bup_n (by omega), bup_n (by omega), bup_n (by omega), bmna_n (by omega), bup_n (by omega), bmna_n (by omega), bup_n (by omega), bmna_n (by omega), bup_n (by omega), bmna_n (by omega), bup_n (by omega), bmna_n (by omega), bup_n (by omega), bmna_n (by omega), bup_n (by omega), bmna_n (by omega), bup_n (by omega), bmna_n (by omega), bup_n (by omega), bmna_n (by omega), bup_n (by omega), bmna_n (by omega), bup_n (by omega), bmna_r (by omega)]
theorem ceX10_144 (G : zG) : zEq (ceX10 G 144) (zE G (zV0 144) 144) := by
  unfold ceX10
  rw [bup_n (by decide), bup_n (by decide), bup_n (by decide), bup_n (by decide), bup_n (by decide), bup_n (by decide), bup_n (by decide), bmna_n (by decide), bup_n (by decide), bmna_n (by decide), bup_n (by decide), bup_n (by decide), bup_n (by decide), bup_n (by decide), bmna_n (by decide), bup_n (by decide), bup_n (by decide), bup_n (by decide), bup_n (by decide), bup_n (by decide), bup_n (by decide), bup_n (by decide), bup_n (by decide), bup_n (by decide), bup_n (by decide), bup_n (by decide), bup_n (by decide), bup_n (by decide), bup_n (by decide), bup_n (by decide), bmna_n (by decide), bup_n (by decide), bmna_n (by decide), bup_n (by decide), bmna_n (by decide), bup_n (by decide), bmna_n (by decide), bup_n (by decide), bmna_n (by decide), bup_n (by decide), bmna_n (by decide), bup_n (by decide), bmna_n (by decide), bup_n (by decide), bmna_n (by decide), bup_n (by decide), bmna_n (by decide), bup_n (by decide), bmna_s, zE_out (N := 16) (by decide +kernel) (by decide +kernel) (by decide +kernel)]
  refine Or.inr ⟨_, _, _, _, rfl, rfl, fun k hk => ?_⟩
  rw [if_pos hk, rfa_144 k hk]
  exact congrArg some (by omega)
theorem zsh_144 : ∀ j, j < 16 → zsh (145 + j) = (2, 0, 6, []) := by decide +kernel
theorem ceX10_144r {G : zG} {i : Nat} (h : 144 < i ∧ i ≤ 144 + 16) : ceX10 G i = zE G (zV0 i) i := by
  have e := zsh_144 (i - 145) (by omega)
  rw [show 145 + (i - 145) = i by omega] at e
  rw [zE_row (by omega) e]
  unfold ceX10
  rw [bup_n (by omega), bup_n (by omega), bup_n (by omega), bup_n (by omega), bup_n (by omega), bup_n (by omega), bup_n (by omega), bmna_n (by omega), bup_n (by omega), bmna_n (by omega), bup_n (by omega), bup_n (by omega), bup_n (by omega), bup_n (by omega), bmna_n (by omega), bup_n (by omega), bup_n (by omega), bup_n (by omega), bup_n (by omega), bup_n (by omega), bup_n (by omega), bup_n (by omega), bup_n (by omega), bup_n (by omega), bup_n (by omega), bup_n (by omega), bup_n (by omega), bup_n (by omega), bup_n (by omega), bup_n (by omega), bmna_n (by omega), bup_n (by omega), bmna_n (by omega), bup_n (by omega), bmna_n (by omega), bup_n (by omega), bmna_n (by omega), bup_n (by omega), bmna_n (by omega), bup_n (by omega), bmna_n (by omega), bup_n (by omega), bmna_n (by omega), bup_n (by omega), bmna_n (by omega), bup_n (by omega), bmna_n (by omega), bup_n (by omega), bmna_r (by omega)]
theorem ceX10_161 (G : zG) : zEq (ceX10 G 161) (zE G (zV0 161) 161) := by
  unfold ceX10
  rw [bup_n (by decide), bup_n (by decide), bup_n (by decide), bup_n (by decide), bup_n (by decide), bup_n (by decide), bup_n (by decide), bmna_n (by decide), bup_n (by decide), bmna_n (by decide), bup_n (by decide), bup_n (by decide), bup_n (by decide), bup_n (by decide), bmna_n (by decide), bup_n (by decide), bup_n (by decide), bup_n (by decide), bup_n (by decide), bup_n (by decide), bup_n (by decide), bup_n (by decide), bup_n (by decide), bup_n (by decide), bup_n (by decide), bup_n (by decide), bup_n (by decide), bup_n (by decide), bup_n (by decide), bup_n (by decide), bmna_n (by decide), bup_n (by decide), bmna_n (by decide), bup_n (by decide), bmna_n (by decide), bup_n (by decide), bmna_n (by decide), bup_n (by decide), bmna_n (by decide), bup_n (by decide), bmna_n (by decide), bup_n (by decide), bmna_n (by decide), bup_n (by decide), bmna_n (by decide), bup_n (by decide), bmna_s, zE_out (N := 12) (by decide +kernel) (by decide +kernel) (by decide +kernel)]
  refine Or.inr ⟨_, _, _, _, rfl, rfl, fun k hk => ?_⟩
  rw [if_pos hk, rfa_161 k hk]
  exact congrArg some (by omega)
theorem zsh_161 : ∀ j, j < 12 → zsh (162 + j) = (2, 0, 2, []) := by decide +kernel
theorem ceX10_161r {G : zG} {i : Nat} (h : 161 < i ∧ i ≤ 161 + 12) : ceX10 G i = zE G (zV0 i) i := by
  have e := zsh_161 (i - 162) (by omega)
  rw [show 162 + (i - 162) = i by omega] at e
  rw [zE_row (by omega) e]
  unfold ceX10
  rw [bup_n (by omega), bup_n (by omega), bup_n (by omega), bup_n (by omega), bup_n (by omega), bup_n (by omega), bup_n (by omega), bmna_n (by omega), bup_n (by omega), bmna_n (by omega), bup_n (by omega), bup_n (by omega), bup_n (by omega), bup_n (by omega), bmna_n (by omega), bup_n (by omega), bup_n (by omega), bup_n (by omega), bup_n (by omega), bup_n (by omega), bup_n (by omega), bup_n (by omega), bup_n (by omega), bup_n (by omega), bup_n (by omega), bup_n (by omega), bup_n (by omega), bup_n (by omega), bup_n (by omega), bup_n (by omega), bmna_n (by omega), bup_n (by omega), bmna_n (by omega), bup_n (by omega), bmna_n (by omega), bup_n (by omega), bmna_n (by omega), bup_n (by omega), bmna_n (by omega), bup_n (by omega), bmna_n (by omega), bup_n (by omega), bmna_n (by omega), bup_n (by omega), bmna_n (by omega), bup_n (by omega), bmna_r (by omega)]
theorem ceX10_174 (G : zG) : zEq (ceX10 G 174) (zE G (zV0 174) 174) := by
  unfold ceX10
  rw [bup_n (by decide), bup_n (by decide), bup_n (by decide), bup_n (by decide), bup_n (by decide), bup_n (by decide), bup_n (by decide), bmna_n (by decide), bup_n (by decide), bmna_n (by decide), bup_n (by decide), bup_n (by decide), bup_n (by decide), bup_n (by decide), bmna_n (by decide), bup_n (by decide), bup_n (by decide), bup_n (by decide), bup_n (by decide), bup_n (by decide), bup_n (by decide), bup_n (by decide), bup_n (by decide), bup_n (by decide), bup_n (by decide), bup_n (by decide), bup_n (by decide), bup_n (by decide), bup_n (by decide), bup_n (by decide), bmna_n (by decide), bup_n (by decide), bmna_n (by decide), bup_n (by decide), bmna_n (by decide), bup_n (by decide), bmna_n (by decide), bup_n (by decide), bmna_n (by decide), bup_n (by decide), bmna_n (by decide), bup_n (by decide), bmna_n (by decide), bup_n (by decide), bmna_s, zE_out (N := 12) (by decide +kernel) (by decide +kernel) (by decide +kernel)]
  refine Or.inr ⟨_, _, _, _, rfl, rfl, fun k hk => ?_⟩
  rw [if_pos hk, rfa_174 k hk]
  exact congrArg some (by omega)
theorem zsh_174 : ∀ j, j < 12 → zsh (175 + j) = (2, 0, 2, []) := by decide +kernel
theorem ceX10_174r {G : zG} {i : Nat} (h : 174 < i ∧ i ≤ 174 + 12) : ceX10 G i = zE G (zV0 i) i := by
  have e := zsh_174 (i - 175) (by omega)
  rw [show 175 + (i - 175) = i by omega] at e
  rw [zE_row (by omega) e]
  unfold ceX10
  rw [bup_n (by omega), bup_n (by omega), bup_n (by omega), bup_n (by omega), bup_n (by omega), bup_n (by omega), bup_n (by omega), bmna_n (by omega), bup_n (by omega), bmna_n (by omega), bup_n (by omega), bup_n (by omega), bup_n (by omega), bup_n (by omega), bmna_n (by omega), bup_n (by omega), bup_n (by omega), bup_n (by omega), bup_n (by omega), bup_n (by omega), bup_n (by omega), bup_n (by omega), bup_n (by omega), bup_n (by omega), bup_n (by omega), bup_n (by omega), bup_n (by omega), bup_n (by omega), bup_n (by omega), bup_n (by omega), bmna_n (by omega), bup_n (by omega), bmna_n (by omega), bup_n (by omega), bmna_n (by omega), bup_n (by omega), bmna_n (by omega), bup_n (by omega), bmna_n (by omega), bup_n (by omega), bmna_n (by omega), bup_n (by omega), bmna_n (by omega), bup_n (by omega), bmna_r (by omega)]
theorem ceX10_187 (G : zG) : zEq (ceX10 G 187) (zE G (zV0 187) 187) := by
  unfold ceX10
  rw [bup_n (by decide), bup_n (by decide), bup_n (by decide), bup_n (by decide), bup_n (by decide), bup_n (by decide), bup_n (by decide), bmna_n (by decide), bup_n (by decide), bmna_n (by decide), bup_n (by decide), bup_n (by decide), bup_n (by decide), bup_n (by decide), bmna_n (by decide), bup_n (by decide), bup_n (by decide), bup_n (by decide), bup_n (by decide), bup_n (by decide), bup_n (by decide), bup_n (by decide), bup_n (by decide), bup_n (by decide), bup_n (by decide), bup_n (by decide), bup_n (by decide), bup_n (by decide), bup_n (by decide), bup_n (by decide), bmna_n (by decide), bup_n (by decide), bmna_n (by decide), bup_n (by decide), bmna_n (by decide), bup_n (by decide), bmna_n (by decide), bup_n (by decide), bmna_n (by decide), bup_n (by decide), bmna_n (by decide), bup_n (by decide), bmna_s, zE_out (N := 12) (by decide +kernel) (by decide +kernel) (by decide +kernel)]
  refine Or.inr ⟨_, _, _, _, rfl, rfl, fun k hk => ?_⟩
  rw [if_pos hk, rfa_187 k hk]
  exact congrArg some (by omega)
theorem zsh_187 : ∀ j, j < 12 → zsh (188 + j) = (2, 0, 3, []) := by decide +kernel
theorem ceX10_187r {G : zG} {i : Nat} (h : 187 < i ∧ i ≤ 187 + 12) : ceX10 G i = zE G (zV0 i) i := by
  have e := zsh_187 (i - 188) (by omega)
  rw [show 188 + (i - 188) = i by omega] at e
  rw [zE_row (by omega) e]
  unfold ceX10
  rw [bup_n (by omega), bup_n (by omega), bup_n (by omega), bup_n (by omega), bup_n (by omega), bup_n (by omega), bup_n (by omega), bmna_n (by omega), bup_n (by omega), bmna_n (by omega), bup_n (by omega), bup_n (by omega), bup_n (by omega), bup_n (by omega), bmna_n (by omega), bup_n (by omega), bup_n (by omega), bup_n (by omega), bup_n (by omega), bup_n (by omega), bup_n (by omega), bup_n (by omega), bup_n (by omega), bup_n (by omega), bup_n (by omega), bup_n (by omega), bup_n (by omega), bup_n (by omega), bup_n (by omega), bup_n (by omega), bmna_n (by omega), bup_n (by omega), bmna_n (by omega), bup_n (by omega), bmna_n (by omega), bup_n (by omega), bmna_n (by omega), bup_n (by omega), bmna_n (by omega), bup_n (by omega), bmna_n (by omega), bup_n (by omega), bmna_r (by omega)]
theorem ceX10_200 (G : zG) : zEq (ceX10 G 200) (zE G (zV0 200) 200) := by
  unfold ceX10
  rw [bup_n (by decide), bup_n (by decide), bup_n (by decide), bup_n (by decide), bup_n (by decide), bup_n (by decide), bup_n (by decide), bmna_n (by decide), bup_n (by decide), bmna_n (by decide), bup_n (by decide), bup_n (by decide), bup_n (by decide), bup_n (by decide), bmna_n (by decide), bup_n (by decide), bup_n (by decide), bup_n (by decide), bup_n (by decide), bup_n (by decide), bup_n (by decide), bup_n (by decide), bup_n (by decide), bup_n (by decide), bup_n (by decide), bup_n (by decide), bup_n (by decide), bup_n (by decide), bup_n (by decide), bup_n (by decide), bmna_n (by decide), bup_n (by decide), bmna_n (by decide), bup_n (by decide), bmna_n (by decide), bup_n (by decide), bmna_n (by decide), bup_n (by decide), bmna_n (by decide), bup_n (by decide), bmna_s, zE_out (N := 12) (by decide +kernel) (by decide +kernel) (by decide +kernel)]
  refine Or.inr ⟨_, _, _, _, rfl, rfl, fun k hk => ?_⟩
  rw [if_pos hk, rfa_200 k hk]
  exact congrArg some (by omega)
theorem zsh_200 : ∀ j, j < 12 → zsh (201 + j) = (2, 0, 3, []) := by decide +kernel
theorem ceX10_200r {G : zG} {i : Nat} (h : 200 < i ∧ i ≤ 200 + 12) : ceX10 G i = zE G (zV0 i) i := by
  have e := zsh_200 (i - 201) (by omega)
  rw [show 201 + (i - 201) = i by omega] at e
  rw [zE_row (by omega) e]
  unfold ceX10
  rw [bup_n (by omega), bup_n (by omega), bup_n (by omega), bup_n (by omega), bup_n (by omega), bup_n (by omega), bup_n (by omega), bmna_n (by omega), bup_n (by omega), bmna_n (by omega), bup_n (by omega), bup_n (by omega), bup_n (by omega), bup_n (by omega), bmna_n (by omega), bup_n (by omega), bup_n (by omega), bup_n (by omega), bup_n (by omega), bup_n (by omega), bup_n (by omega), bup_n (by omega), bup_n (by omega), bup_n (by omega), bup_n (by omega), bup_n (by omega), bup_n (by omega), bup_n (by omega), bup_n (by omega), bup_n (by omega), bmna_n (by omega), bup_n (by omega), bmna_n (by omega), bup_n (by omega), bmna_n (by omega), bup_n (by omega), bmna_n (by omega), bup_n (by omega), bmna_n (by omega), bup_n (by omega), bmna_r (by omega)]
theorem ceX10_213 (G : zG) : zEq (ceX10 G 213) (zE G (zV0 213) 213) := by
  unfold ceX10
  rw [bup_n (by decide), bup_n (by decide), bup_n (by decide), bup_n (by decide), bup_n (by decide), bup_n (by decide), bup_n (by decide), bmna_n (by decide), bup_n (by decide), bmna_n (by decide), bup_n (by decide), bup_n (by decide), bup_n (by decide), bup_n (by decide), bmna_n (by decide), bup_n (by decide), bup_n (by decide), bup_n (by decide), bup_n (by decide), bup_n (by decide), bup_n (by decide), bup_n (by decide), bup_n (by decide), bup_n (by decide), bup_n (by decide), bup_n (by decide), bup_n (by decide), bup_n (by decide), bup_n (by decide), bup_n (by decide), bmna_n (by decide), bup_n (by decide), bmna_n (by decide), bup_n (by decide), bmna_n (by decide), bup_n (by decide), bmna_n (by decide), bup_n (by decide), bmna_s, zE_out (N := 160) (by decide +kernel) (by decide +kernel) (by decide +kernel)]
  refine Or.inr ⟨_, _, _, _, rfl, rfl, fun k hk => ?_⟩
  rw [if_pos hk, rfa_213 k hk]
  exact congrArg some (by omega)
theorem zsh_213 : ∀ j, j < 160 → zsh (214 + j) = (2, 0, 2, []) := by decide +kernel
theorem ceX10_213r {G : zG} {i : Nat} (h : 213 < i ∧ i ≤ 213 + 160) : ceX10 G i = zE G (zV0 i) i := by
  have e := zsh_213 (i - 214) (by omega)
  rw [show 214 + (i - 214) = i by omega] at e
  rw [zE_row (by omega) e]
  unfold ceX10
  rw [bup_n (by omega), bup_n (by omega), bup_n (by omega), bup_n (by omega), bup_n (by omega), bup_n (by omega), bup_n (by omega), bmna_n (by omega), bup_n (by omega), bmna_n (by omega), bup_n (by omega), bup_n (by omega), bup_n (by omega), bup_n (by omega), bmna_n (by omega), bup_n (by omega), bup_n (by omega), bup_n (by omega), bup_n (by omega), bup_n (by omega), bup_n (by omega), bup_n (by omega), bup_n (by omega), bup_n (by omega), bup_n (by omega), bup_n (by omega), bup_n (by omega), bup_n (by omega), bup_n (by omega), bup_n (by omega), bmna_n (by omega), bup_n (by omega), bmna_n (by omega), bup_n (by omega), bmna_n (by omega), bup_n (by omega), bmna_n (by omega), bup_n (by omega), bmna_r (by omega)]
theorem ceX10_374 (G : zG) : zEq (ceX10 G 374) (zE G (zV0 374) 374) := by
  unfold ceX10
  rw [bup_n (by decide), bup_n (by decide), bup_n (by decide), bup_n (by decide), bup_n (by decide), bup_n (by decide), bup_n (by decide), bmna_n (by decide), bup_n (by decide), bmna_n (by decide), bup_n (by decide), bup_n (by decide), bup_n (by decide), bup_n (by decide), bmna_n (by decide), bup_n (by decide), bup_n (by decide), bup_n (by decide), bup_n (by decide), bup_n (by decide), bup_n (by decide), bup_n (by decide), bup_n (by decide), bup_n (by decide), bup_n (by decide), bup_n (by decide), bup_n (by decide), bup_n (by decide), bup_n (by decide), bup_n (by decide), bmna_n (by decide), bup_n (by decide), bmna_n (by decide), bup_n (by decide), bmna_n (by decide), bup_n (by decide), bmna_s, zE_out (N := 160) (by decide +kernel) (by decide +kernel) (by decide +kernel)]
  refine Or.inr ⟨_, _, _, _, rfl, rfl, fun k hk => ?_⟩
  rw [if_pos hk, rfa_374 k hk]
  exact congrArg some (by omega)
theorem zsh_374 : ∀ j, j < 160 → zsh (375 + j) = (2, 0, 2, []) := by decide +kernel
theorem ceX10_374r {G : zG} {i : Nat} (h : 374 < i ∧ i ≤ 374 + 160) : ceX10 G i = zE G (zV0 i) i := by
  have e := zsh_374 (i - 375) (by omega)
  rw [show 375 + (i - 375) = i by omega] at e
  rw [zE_row (by omega) e]
  unfold ceX10
  rw [bup_n (by omega), bup_n (by omega), bup_n (by omega), bup_n (by omega), bup_n (by omega), bup_n (by omega), bup_n (by omega), bmna_n (by omega), bup_n (by omega), bmna_n (by omega), bup_n (by omega), bup_n (by omega), bup_n (by omega), bup_n (by omega), bmna_n (by omega), bup_n (by omega), bup_n (by omega), bup_n (by omega), bup_n (by omega), bup_n (by omega), bup_n (by omega), bup_n (by omega), bup_n (by omega), bup_n (by omega), bup_n (by omega), bup_n (by omega), bup_n (by omega), bup_n (by omega), bup_n (by omega), bup_n (by omega), bmna_n (by omega), bup_n (by omega), bmna_n (by omega), bup_n (by omega), bmna_n (by omega), bup_n (by omega), bmna_r (by omega)]
theorem ceX10_535 (G : zG) : zEq (ceX10 G 535) (zE G (zV0 535) 535) := by
  unfold ceX10
  rw [bup_n (by decide), bup_n (by decide), bup_n (by decide), bup_n (by decide), bup_n (by decide), bup_n (by decide), bup_n (by decide), bmna_n (by decide), bup_n (by decide), bmna_n (by decide), bup_n (by decide), bup_n (by decide), bup_n (by decide), bup_n (by decide), bmna_n (by decide), bup_n (by decide), bup_n (by decide), bup_n (by decide), bup_n (by decide), bup_n (by decide), bup_n (by decide), bup_n (by decide), bup_n (by decide), bup_n (by decide), bup_n (by decide), bup_n (by decide), bup_n (by decide), bup_n (by decide), bup_n (by decide), bup_n (by decide), bmna_n (by decide), bup_n (by decide), bmna_n (by decide), bup_n (by decide), bmna_s, zE_out (N := 12) (by decide +kernel) (by decide +kernel) (by decide +kernel)]
  refine Or.inr ⟨_, _, _, _, rfl, rfl, fun k hk => ?_⟩
  rw [if_pos hk, rfa_535 k hk]
  exact congrArg some (by omega)
theorem zsh_535 : ∀ j, j < 12 → zsh (536 + j) = (2, 0, 2, []) := by decide +kernel
theorem ceX10_535r {G : zG} {i : Nat} (h : 535 < i ∧ i ≤ 535 + 12) : ceX10 G i = zE G (zV0 i) i := by
  have e := zsh_535 (i - 536) (by omega)
  rw [show 536 + (i - 536) = i by omega] at e
  rw [zE_row (by omega) e]
  unfold ceX10
  rw [bup_n (by omega), bup_n (by omega), bup_n (by omega), bup_n (by omega), bup_n (by omega), bup_n (by omega), bup_n (by omega), bmna_n (by omega), bup_n (by omega), bmna_n (by omega), bup_n (by omega), bup_n (by omega), bup_n (by omega), bup_n (by omega), bmna_n (by omega), bup_n (by omega), bup_n (by omega), bup_n (by omega), bup_n (by omega), bup_n (by omega), bup_n (by omega), bup_n (by omega), bup_n (by omega), bup_n (by omega), bup_n (by omega), bup_n (by omega), bup_n (by omega), bup_n (by omega), bup_n (by omega), bup_n (by omega), bmna_n (by omega), bup_n (by omega), bmna_n (by omega), bup_n (by omega), bmna_r (by omega)]
theorem ceX10_548 (G : zG) : zEq (ceX10 G 548) (zE G (zV0 548) 548) := by
  unfold ceX10
  rw [bup_n (by decide), bup_n (by decide), bup_n (by decide), bup_n (by decide), bup_n (by decide), bup_n (by decide), bup_n (by decide), bmna_n (by decide), bup_n (by decide), bmna_n (by decide), bup_n (by decide), bup_n (by decide), bup_n (by decide), bup_n (by decide), bmna_n (by decide), bup_n (by decide), bup_n (by decide), bup_n (by decide), bup_n (by decide), bup_n (by decide), bup_n (by decide), bup_n (by decide), bup_n (by decide), bup_n (by decide), bup_n (by decide), bup_n (by decide), bup_n (by decide), bup_n (by decide), bup_n (by decide), bup_n (by decide), bmna_n (by decide), bup_n (by decide), bmna_s, zE_out (N := 12) (by decide +kernel) (by decide +kernel) (by decide +kernel)]
  refine Or.inr ⟨_, _, _, _, rfl, rfl, fun k hk => ?_⟩
  rw [if_pos hk, rfa_548 k hk]
  exact congrArg some (by omega)
theorem zsh_548 : ∀ j, j < 12 → zsh (549 + j) = (2, 0, 2, []) := by decide +kernel
theorem ceX10_548r {G : zG} {i : Nat} (h : 548 < i ∧ i ≤ 548 + 12) : ceX10 G i = zE G (zV0 i) i := by
  have e := zsh_548 (i - 549) (by omega)
  rw [show 549 + (i - 549) = i by omega] at e
  rw [zE_row (by omega) e]
  unfold ceX10
  rw [bup_n (by omega), bup_n (by omega), bup_n (by omega), bup_n (by omega), bup_n (by omega), bup_n (by omega), bup_n (by omega), bmna_n (by omega), bup_n (by omega), bmna_n (by omega), bup_n (by omega), bup_n (by omega), bup_n (by omega), bup_n (by omega), bmna_n (by omega), bup_n (by omega), bup_n (by omega), bup_n (by omega), bup_n (by omega), bup_n (by omega), bup_n (by omega), bup_n (by omega), bup_n (by omega), bup_n (by omega), bup_n (by omega), bup_n (by omega), bup_n (by omega), bup_n (by omega), bup_n (by omega), bup_n (by omega), bmna_n (by omega), bup_n (by omega), bmna_r (by omega)]
theorem ceX10_561 (G : zG) : zEq (ceX10 G 561) (zE G (zV0 561) 561) := by
  unfold ceX10
  rw [bup_n (by decide), bup_n (by decide), bup_n (by decide), bup_n (by decide), bup_n (by decide), bup_n (by decide), bup_n (by decide), bmna_n (by decide), bup_n (by decide), bmna_n (by decide), bup_n (by decide), bup_n (by decide), bup_n (by decide), bup_n (by decide), bmna_n (by decide), bup_n (by decide), bup_n (by decide), bup_n (by decide), bup_n (by decide), bup_n (by decide), bup_n (by decide), bup_n (by decide), bup_n (by decide), bup_n (by decide), bup_n (by decide), bup_n (by decide), bup_n (by decide), bup_n (by decide), bup_n (by decide), bup_n (by decide), bmna_s, zE_out (N := 3) (by decide +kernel) (by decide +kernel) (by decide +kernel)]
  refine Or.inr ⟨_, _, _, _, rfl, rfl, fun k hk => ?_⟩
  rw [if_pos hk, rfa_561 k hk]
  exact congrArg some (by omega)
theorem zsh_561 : ∀ j, j < 3 → zsh (562 + j) = (2, 0, 305, []) := by decide +kernel
theorem ceX10_561r {G : zG} {i : Nat} (h : 561 < i ∧ i ≤ 561 + 3) : ceX10 G i = zE G (zV0 i) i := by
  have e := zsh_561 (i - 562) (by omega)
  rw [show 562 + (i - 562) = i by omega] at e
  rw [zE_row (by omega) e]
  unfold ceX10
  rw [bup_n (by omega), bup_n (by omega), bup_n (by omega), bup_n (by omega), bup_n (by omega), bup_n (by omega), bup_n (by omega), bmna_n (by omega), bup_n (by omega), bmna_n (by omega), bup_n (by omega), bup_n (by omega), bup_n (by omega), bup_n (by omega), bmna_n (by omega), bup_n (by omega), bup_n (by omega), bup_n (by omega), bup_n (by omega), bup_n (by omega), bup_n (by omega), bup_n (by omega), bup_n (by omega), bup_n (by omega), bup_n (by omega), bup_n (by omega), bup_n (by omega), bup_n (by omega), bup_n (by omega), bup_n (by omega), bmna_r (by omega)]
theorem ceX10_572 (G : zG) : zEq (ceX10 G 572) (zE G (zV0 572) 572) := by
  unfold ceX10
  rw [bup_n (by decide), bup_n (by decide), bup_n (by decide), bup_n (by decide), bup_n (by decide), bup_n (by decide), bup_n (by decide), bmna_n (by decide), bup_n (by decide), bmna_n (by decide), bup_n (by decide), bup_n (by decide), bup_n (by decide), bup_n (by decide), bmna_s, zE_out (N := 3) (by decide +kernel) (by decide +kernel) (by decide +kernel)]
  refine Or.inr ⟨_, _, _, _, rfl, rfl, fun k hk => ?_⟩
  rw [if_pos hk, rfa_572 k hk]
  exact congrArg some (by omega)
theorem zsh_572 : ∀ j, j < 3 → zsh (573 + j) = (2, 0, 3, []) := by decide +kernel
theorem ceX10_572r {G : zG} {i : Nat} (h : 572 < i ∧ i ≤ 572 + 3) : ceX10 G i = zE G (zV0 i) i := by
  have e := zsh_572 (i - 573) (by omega)
  rw [show 573 + (i - 573) = i by omega] at e
  rw [zE_row (by omega) e]
  unfold ceX10
  rw [bup_n (by omega), bup_n (by omega), bup_n (by omega), bup_n (by omega), bup_n (by omega), bup_n (by omega), bup_n (by omega), bmna_n (by omega), bup_n (by omega), bmna_n (by omega), bup_n (by omega), bup_n (by omega), bup_n (by omega), bup_n (by omega), bmna_r (by omega)]
theorem ceX10_577 (G : zG) : zEq (ceX10 G 577) (zE G (zV0 577) 577) := by
  unfold ceX10
  rw [bup_n (by decide), bup_n (by decide), bup_n (by decide), bup_n (by decide), bup_n (by decide), bup_n (by decide), bup_n (by decide), bmna_n (by decide), bup_n (by decide), bmna_s, zE_out (N := 4) (by decide +kernel) (by decide +kernel) (by decide +kernel)]
  refine Or.inr ⟨_, _, _, _, rfl, rfl, fun k hk => ?_⟩
  rw [if_pos hk, rfa_577 k hk]
  exact congrArg some (by omega)
theorem zsh_577 : ∀ j, j < 4 → zsh (578 + j) = (2, 0, 305, []) := by decide +kernel
theorem ceX10_577r {G : zG} {i : Nat} (h : 577 < i ∧ i ≤ 577 + 4) : ceX10 G i = zE G (zV0 i) i := by
  have e := zsh_577 (i - 578) (by omega)
  rw [show 578 + (i - 578) = i by omega] at e
  rw [zE_row (by omega) e]
  unfold ceX10
  rw [bup_n (by omega), bup_n (by omega), bup_n (by omega), bup_n (by omega), bup_n (by omega), bup_n (by omega), bup_n (by omega), bmna_n (by omega), bup_n (by omega), bmna_r (by omega)]
theorem ceX10_582 (G : zG) : zEq (ceX10 G 582) (zE G (zV0 582) 582) := by
  unfold ceX10
  rw [bup_n (by decide), bup_n (by decide), bup_n (by decide), bup_n (by decide), bup_n (by decide), bup_n (by decide), bup_n (by decide), bmna_s, zE_out (N := 17) (by decide +kernel) (by decide +kernel) (by decide +kernel)]
  refine Or.inr ⟨_, _, _, _, rfl, rfl, fun k hk => ?_⟩
  rw [if_pos hk, rfa_582 k hk]
  exact congrArg some (by omega)
theorem zsh_582 : ∀ j, j < 17 → zsh (583 + j) = (2, 0, 17, []) := by decide +kernel
theorem ceX10_582r {G : zG} {i : Nat} (h : 582 < i ∧ i ≤ 582 + 17) : ceX10 G i = zE G (zV0 i) i := by
  have e := zsh_582 (i - 583) (by omega)
  rw [show 583 + (i - 583) = i by omega] at e
  rw [zE_row (by omega) e]
  unfold ceX10
  rw [bup_n (by omega), bup_n (by omega), bup_n (by omega), bup_n (by omega), bup_n (by omega), bup_n (by omega), bup_n (by omega), bmna_r (by omega)]
theorem ceX10_all (G : zG) : ∀ i, i < 603 → zEq (ceX10 G i) (zE G (zV0 i) i) := by
  intro i hi
  by_cases q0 : i < 116
  · exact Or.inl (ceX10_lo q0)
  by_cases q116 : i = 116
  · rw [q116]; exact Or.inl (ceX10_116 G)
  by_cases q117 : i = 117
  · rw [q117]; exact Or.inl (ceX10_117 G)
  by_cases q118 : i = 118
  · rw [q118]; exact Or.inl (ceX10_118 G)
  by_cases q119 : i = 119
  · rw [q119]; exact Or.inl (ceX10_119 G)
  by_cases q120 : i = 120
  · rw [q120]; exact Or.inl (ceX10_120 G)
  by_cases q121 : i = 121
  · rw [q121]; exact Or.inl (ceX10_121 G)
  by_cases q122 : i = 122
  · rw [q122]; exact Or.inl (ceX10_122 G)
  by_cases q123 : i = 123
  · rw [q123]; exact Or.inl (ceX10_123 G)
  by_cases q124 : i = 124
  · rw [q124]; exact Or.inl (ceX10_124 G)
  by_cases q125 : i = 125
  · rw [q125]; exact Or.inl (ceX10_125 G)
  by_cases q126 : i = 126
  · rw [q126]; exact Or.inl (ceX10_126 G)
  by_cases q127 : i = 127
  · rw [q127]; exact ceX10_127 G
  by_cases q128 : i ≤ 143
  · exact Or.inl (ceX10_127r (by omega))
  by_cases q144 : i = 144
  · rw [q144]; exact ceX10_144 G
  by_cases q145 : i ≤ 160
  · exact Or.inl (ceX10_144r (by omega))
  by_cases q161 : i = 161
  · rw [q161]; exact ceX10_161 G
  by_cases q162 : i ≤ 173
  · exact Or.inl (ceX10_161r (by omega))
  by_cases q174 : i = 174
  · rw [q174]; exact ceX10_174 G
  by_cases q175 : i ≤ 186
  · exact Or.inl (ceX10_174r (by omega))
  by_cases q187 : i = 187
  · rw [q187]; exact ceX10_187 G
  by_cases q188 : i ≤ 199
  · exact Or.inl (ceX10_187r (by omega))
  by_cases q200 : i = 200
  · rw [q200]; exact ceX10_200 G
  by_cases q201 : i ≤ 212
  · exact Or.inl (ceX10_200r (by omega))
  by_cases q213 : i = 213
  · rw [q213]; exact ceX10_213 G
  by_cases q214 : i ≤ 373
  · exact Or.inl (ceX10_213r (by omega))
  by_cases q374 : i = 374
  · rw [q374]; exact ceX10_374 G
  by_cases q375 : i ≤ 534
  · exact Or.inl (ceX10_374r (by omega))
  by_cases q535 : i = 535
  · rw [q535]; exact ceX10_535 G
  by_cases q536 : i ≤ 547
  · exact Or.inl (ceX10_535r (by omega))
  by_cases q548 : i = 548
  · rw [q548]; exact ceX10_548 G
  by_cases q549 : i ≤ 560
  · exact Or.inl (ceX10_548r (by omega))
  by_cases q561 : i = 561
  · rw [q561]; exact ceX10_561 G
  by_cases q562 : i ≤ 564
  · exact Or.inl (ceX10_561r (by omega))
  by_cases q565 : i = 565
  · rw [q565]; exact Or.inl (ceX10_565 G)
  by_cases q566 : i = 566
  · rw [q566]; exact Or.inl (ceX10_566 G)
  by_cases q567 : i = 567
  · rw [q567]; exact Or.inl (ceX10_567 G)
  by_cases q568 : i = 568
  · rw [q568]; exact Or.inl (ceX10_568 G)
  by_cases q569 : i = 569
  · rw [q569]; exact Or.inl (ceX10_569 G)
  by_cases q570 : i = 570
  · rw [q570]; exact Or.inl (ceX10_570 G)
  by_cases q571 : i = 571
  · rw [q571]; exact Or.inl (ceX10_571 G)
  by_cases q572 : i = 572
  · rw [q572]; exact ceX10_572 G
  by_cases q573 : i ≤ 575
  · exact Or.inl (ceX10_572r (by omega))
  by_cases q576 : i = 576
  · rw [q576]; exact Or.inl (ceX10_576 G)
  by_cases q577 : i = 577
  · rw [q577]; exact ceX10_577 G
  by_cases q578 : i ≤ 581
  · exact Or.inl (ceX10_577r (by omega))
  by_cases q582 : i = 582
  · rw [q582]; exact ceX10_582 G
  by_cases q583 : i ≤ 599
  · exact Or.inl (ceX10_582r (by omega))
  by_cases q600 : i = 600
  · rw [q600]; exact Or.inl (ceX10_600 G)
  by_cases q601 : i = 601
  · rw [q601]; exact Or.inl (ceX10_601 G)
  obtain rfl : i = 602 := by omega
  exact Or.inl (ceX10_602 G)
theorem zB_J {x : zCx} {G : zG} {nL : Nat} {Q : State → Prop} {cs sl pc n : Nat} {ls : List (Nat × Value)} {st : List Value} {ce : Nat → va_E} {v : zV} (hN : zN G = n) (h : ∀ i, i < n → zEq (ce i) (zE G (v i) i)) (k : zJ x G nL Q cs sl pc ls st v) : zB x G nL Q cs sl pc ls st n ce := by
  subst hN
  exact fun H locs la hP hS hl _ => k H locs la (zEq_P (ce' := fun i => zE G (v i) i) h hP) hS hl
theorem b_retJ {x : zCx} {G : zG} {cc : ByteArray} {nL : Nat} {own : String} {fr lo cs sl pc : Nat} {v : zV} (F : zF x G cc nL own fr lo) (hr : x.2.2.2.2.2.2.2.2.1.sig.returnType = none) (hlocks : x.2.2.2.2.2.2.2.2.1.locks = false) (hd : decode cc pc = .ok (.return_, 1)) : zJ x G nL (zBQ x G (zN G) (fun i => zE G (v i) i) cs sl) cs sl pc [] [] v :=
  fun _ _ _ hP hS _ => W.vret F.1 F.2.1 hr (fun _ ht _ => ⟨⟨rfl, by rw [ht]; exact hP⟩, hS.F ht⟩) hS.2.2 hd hlocks
set_option maxRecDepth 20000 in
set_option maxHeartbeats 4000000 in
theorem kBX10_init (l : Launch) (G : zG) (hN : zN G = 603) (t0 : zty G 116 1 10) (v1 w : zV) (h1 : fX10_tellsNothing 116 zV0 = some v1) (h2 : fX10_stands 116 v1 = some w) : zBM l yX10_init cX10_init 1 none 4 160 486 6286 [zr G 116] G 117 (bup (zC0 G) 116 (.inr (10, [.int 0, .int 0, .int 0, .int 0, .int 0, .int 0, .int 0, .int 0, .int 0, .null, .null, .null, .null, .null, .null, .null, .null, .null, .null, .null, .null, .null, .null, .null, .null, .int 0, .int 0, .int 0, .null, .null, .null, .null, .null, .null, .null, .null, .null, .null, .null, .null, .int 0, .int 0, .int 0, .null, .int 0, .int 0, .int 0, .int 0, .int 0, .null, .int 0, .null, .int 0, .int 0, .null, .null, .null, .int 0, .int 0, .null]))) (zN G) (fun i => zE G (w i) i) := by
  have hc116 : (bup (zC0 G) 116 (.inr (10, [.int 0, .int 0, .int 0, .int 0, .int 0, .int 0, .int 0, .int 0, .int 0, .null, .null, .null, .null, .null, .null, .null, .null, .null, .null, .null, .null, .null, .null, .null, .null, .int 0, .int 0, .int 0, .null, .null, .null, .null, .null, .null, .null, .null, .null, .null, .null, .null, .int 0, .int 0, .int 0, .null, .int 0, .int 0, .int 0, .int 0, .int 0, .null, .int 0, .null, .int 0, .int 0, .null, .null, .null, .int 0, .int 0, .null]))) 116 = .inr (10, [.int 0, .int 0, .int 0, .int 0, .int 0, .int 0, .int 0, .int 0, .int 0, .null, .null, .null, .null, .null, .null, .null, .null, .null, .null, .null, .null, .null, .null, .null, .null, .int 0, .int 0, .int 0, .null, .null, .null, .null, .null, .null, .null, .null, .null, .null, .null, .null, .int 0, .int 0, .int 0, .null, .int 0, .int 0, .int 0, .int 0, .int 0, .null, .int 0, .null, .int 0, .int 0, .null, .null, .null, .int 0, .int 0, .null]) := rfl
  refine zBM_of (own := RX10) (by decide) rfl (Nat.le_of_ble_eq_true rfl) (fun x hl F hr hk hcs hini => ?_)
  subst hl
  refine b_ls [(0, zr G 116)] [0] rfl ?_
  refine b_aload_n F dX10_init_0 rfl 0 rfl ?_
  refine b_obj F zol_X10_1 zob_2 zob_3 (Nat.le_of_ble_eq_true rfl) (Nat.le_of_ble_eq_true rfl) (Nat.le_of_ble_eq_true rfl) dX10_init_1 ?_
  refine b_aload_n F dX10_init_4 rfl 0 rfl ?_
  refine b_iconst (y := (-1 : Int32)) F dX10_init_5 rfl ?_
  refine b_put F (c := 10) (C := RX10) (T := TX10) (N := 60) (fs := [.int 0, .int 0, .int 0, .int 0, .int 0, .int 0, .int 0, .int 0, .int 0, .null, .null, .null, .null, .null, .null, .null, .null, .null, .null, .null, .null, .null, .null, .null, .null, .int 0, .int 0, .int 0, .null, .null, .null, .null, .null, .null, .null, .null, .null, .null, .null, .null, .int 0, .int 0, .int 0, .null, .int 0, .int 0, .int 0, .int 0, .int 0, .null, .int 0, .null, .int 0, .int 0, .null, .null, .null, .int 0, .int 0, .null]) (ty := tyX10 3) tyX10 tyX10_ok nmX10 rfl uw_10 3 (by decide) rfl (tyX10_ok 3 (by decide)) rfl rfl (Nat.le_of_ble_eq_true rfl) hc116 (Nat.le_of_ble_eq_true rfl) wF_X10_9 dX10_init_6 ?_
  refine b_aload_n F dX10_init_9 rfl 0 rfl ?_
  refine b_sipush (y := (600 : Int32)) F dX10_init_10 rfl ?_
  refine b_newa F (atype := .int) (ty := .int) (a0 := (600, (.inl (fun _ => 0)))) 0 rfl rfl (by intro C q; cases q) zac_int (fun _ => rfl) (by decide) (by decide) (Nat.le_of_ble_eq_true rfl) ⟨Nat.le_trans (Nat.le_of_ble_eq_true rfl) hcs.1, Nat.le_trans (Nat.le_of_ble_eq_true rfl) hcs.2⟩ dX10_init_13 ?_
  refine b_putF F hini (c := 10) (C := RX10) (T := TX10) (N := 60) (fs := [.int 0, .int 0, .int 0, .int (-1 : Int32), .int 0, .int 0, .int 0, .int 0, .int 0, .null, .null, .null, .null, .null, .null, .null, .null, .null, .null, .null, .null, .null, .null, .null, .null, .int 0, .int 0, .int 0, .null, .null, .null, .null, .null, .null, .null, .null, .null, .null, .null, .null, .int 0, .int 0, .int 0, .null, .int 0, .int 0, .int 0, .int 0, .int 0, .null, .int 0, .null, .int 0, .int 0, .null, .null, .null, .int 0, .int 0, .null]) (ty := tyX10 9) tyX10 tyX10_ok nmX10 rfl uw_10 9 (by decide) rfl rfl (tyX10_ok 9 (by decide)) rfl rfl (Nat.le_of_ble_eq_true rfl) rfl (Nat.le_of_ble_eq_true rfl) wF_X10_13 dX10_init_15 ?_
  refine b_aload_n F dX10_init_18 rfl 0 rfl ?_
  refine b_iconst (y := (2 : Int32)) F dX10_init_19 rfl ?_
  refine b_newa F (atype := .int) (ty := .int) (a0 := (2, (.inl (fun _ => 0)))) 0 rfl rfl (by intro C q; cases q) zac_int (fun _ => rfl) (by decide) (by decide) (Nat.le_of_ble_eq_true rfl) ⟨Nat.le_trans (Nat.le_of_ble_eq_true rfl) hcs.1, Nat.le_trans (Nat.le_of_ble_eq_true rfl) hcs.2⟩ dX10_init_20 ?_
  refine b_putF F hini (c := 10) (C := RX10) (T := TX10) (N := 60) (fs := [.int 0, .int 0, .int 0, .int (-1 : Int32), .int 0, .int 0, .int 0, .int 0, .int 0, zr G 117, .null, .null, .null, .null, .null, .null, .null, .null, .null, .null, .null, .null, .null, .null, .null, .int 0, .int 0, .int 0, .null, .null, .null, .null, .null, .null, .null, .null, .null, .null, .null, .null, .int 0, .int 0, .int 0, .null, .int 0, .int 0, .int 0, .int 0, .int 0, .null, .int 0, .null, .int 0, .int 0, .null, .null, .null, .int 0, .int 0, .null]) (ty := tyX10 10) tyX10 tyX10_ok nmX10 rfl uw_10 10 (by decide) rfl rfl (tyX10_ok 10 (by decide)) rfl rfl (Nat.le_of_ble_eq_true rfl) rfl (Nat.le_of_ble_eq_true rfl) wF_X10_17 dX10_init_22 ?_
  refine b_aload_n F dX10_init_25 rfl 0 rfl ?_
  refine b_bipush (y := (6 : Int32)) F dX10_init_26 rfl ?_
  refine b_newa F (atype := .int) (ty := .int) (a0 := (6, (.inl (fun _ => 0)))) 0 rfl rfl (by intro C q; cases q) zac_int (fun _ => rfl) (by decide) (by decide) (Nat.le_of_ble_eq_true rfl) ⟨Nat.le_trans (Nat.le_of_ble_eq_true rfl) hcs.1, Nat.le_trans (Nat.le_of_ble_eq_true rfl) hcs.2⟩ dX10_init_28 ?_
  refine b_putF F hini (c := 10) (C := RX10) (T := TX10) (N := 60) (fs := [.int 0, .int 0, .int 0, .int (-1 : Int32), .int 0, .int 0, .int 0, .int 0, .int 0, zr G 117, zr G 118, .null, .null, .null, .null, .null, .null, .null, .null, .null, .null, .null, .null, .null, .null, .int 0, .int 0, .int 0, .null, .null, .null, .null, .null, .null, .null, .null, .null, .null, .null, .null, .int 0, .int 0, .int 0, .null, .int 0, .int 0, .int 0, .int 0, .int 0, .null, .int 0, .null, .int 0, .int 0, .null, .null, .null, .int 0, .int 0, .null]) (ty := tyX10 11) tyX10 tyX10_ok nmX10 rfl uw_10 11 (by decide) rfl rfl (tyX10_ok 11 (by decide)) rfl rfl (Nat.le_of_ble_eq_true rfl) rfl (Nat.le_of_ble_eq_true rfl) wF_X10_20 dX10_init_30 ?_
  refine b_aload_n F dX10_init_33 rfl 0 rfl ?_
  refine b_bipush (y := (6 : Int32)) F dX10_init_34 rfl ?_
  refine b_newa F (atype := .int) (ty := .int) (a0 := (6, (.inl (fun _ => 0)))) 0 rfl rfl (by intro C q; cases q) zac_int (fun _ => rfl) (by decide) (by decide) (Nat.le_of_ble_eq_true rfl) ⟨Nat.le_trans (Nat.le_of_ble_eq_true rfl) hcs.1, Nat.le_trans (Nat.le_of_ble_eq_true rfl) hcs.2⟩ dX10_init_36 ?_
  refine b_putF F hini (c := 10) (C := RX10) (T := TX10) (N := 60) (fs := [.int 0, .int 0, .int 0, .int (-1 : Int32), .int 0, .int 0, .int 0, .int 0, .int 0, zr G 117, zr G 118, zr G 119, .null, .null, .null, .null, .null, .null, .null, .null, .null, .null, .null, .null, .null, .int 0, .int 0, .int 0, .null, .null, .null, .null, .null, .null, .null, .null, .null, .null, .null, .null, .int 0, .int 0, .int 0, .null, .int 0, .int 0, .int 0, .int 0, .int 0, .null, .int 0, .null, .int 0, .int 0, .null, .null, .null, .int 0, .int 0, .null]) (ty := tyX10 12) tyX10 tyX10_ok nmX10 rfl uw_10 12 (by decide) rfl rfl (tyX10_ok 12 (by decide)) rfl rfl (Nat.le_of_ble_eq_true rfl) rfl (Nat.le_of_ble_eq_true rfl) wF_X10_23 dX10_init_38 ?_
  refine b_aload_n F dX10_init_41 rfl 0 rfl ?_
  refine b_bipush (y := (6 : Int32)) F dX10_init_42 rfl ?_
  refine b_newa F (atype := .int) (ty := .int) (a0 := (6, (.inl (fun _ => 0)))) 0 rfl rfl (by intro C q; cases q) zac_int (fun _ => rfl) (by decide) (by decide) (Nat.le_of_ble_eq_true rfl) ⟨Nat.le_trans (Nat.le_of_ble_eq_true rfl) hcs.1, Nat.le_trans (Nat.le_of_ble_eq_true rfl) hcs.2⟩ dX10_init_44 ?_
  refine b_putF F hini (c := 10) (C := RX10) (T := TX10) (N := 60) (fs := [.int 0, .int 0, .int 0, .int (-1 : Int32), .int 0, .int 0, .int 0, .int 0, .int 0, zr G 117, zr G 118, zr G 119, zr G 120, .null, .null, .null, .null, .null, .null, .null, .null, .null, .null, .null, .null, .int 0, .int 0, .int 0, .null, .null, .null, .null, .null, .null, .null, .null, .null, .null, .null, .null, .int 0, .int 0, .int 0, .null, .int 0, .int 0, .int 0, .int 0, .int 0, .null, .int 0, .null, .int 0, .int 0, .null, .null, .null, .int 0, .int 0, .null]) (ty := tyX10 13) tyX10 tyX10_ok nmX10 rfl uw_10 13 (by decide) rfl rfl (tyX10_ok 13 (by decide)) rfl rfl (Nat.le_of_ble_eq_true rfl) rfl (Nat.le_of_ble_eq_true rfl) wF_X10_26 dX10_init_46 ?_
  refine b_aload_n F dX10_init_49 rfl 0 rfl ?_
  refine b_bipush (y := (6 : Int32)) F dX10_init_50 rfl ?_
  refine b_newa F (atype := .int) (ty := .int) (a0 := (6, (.inl (fun _ => 0)))) 0 rfl rfl (by intro C q; cases q) zac_int (fun _ => rfl) (by decide) (by decide) (Nat.le_of_ble_eq_true rfl) ⟨Nat.le_trans (Nat.le_of_ble_eq_true rfl) hcs.1, Nat.le_trans (Nat.le_of_ble_eq_true rfl) hcs.2⟩ dX10_init_52 ?_
  refine b_putF F hini (c := 10) (C := RX10) (T := TX10) (N := 60) (fs := [.int 0, .int 0, .int 0, .int (-1 : Int32), .int 0, .int 0, .int 0, .int 0, .int 0, zr G 117, zr G 118, zr G 119, zr G 120, zr G 121, .null, .null, .null, .null, .null, .null, .null, .null, .null, .null, .null, .int 0, .int 0, .int 0, .null, .null, .null, .null, .null, .null, .null, .null, .null, .null, .null, .null, .int 0, .int 0, .int 0, .null, .int 0, .int 0, .int 0, .int 0, .int 0, .null, .int 0, .null, .int 0, .int 0, .null, .null, .null, .int 0, .int 0, .null]) (ty := tyX10 14) tyX10 tyX10_ok nmX10 rfl uw_10 14 (by decide) rfl rfl (tyX10_ok 14 (by decide)) rfl rfl (Nat.le_of_ble_eq_true rfl) rfl (Nat.le_of_ble_eq_true rfl) wF_X10_29 dX10_init_54 ?_
  refine b_aload_n F dX10_init_57 rfl 0 rfl ?_
  refine b_bipush (y := (16 : Int32)) F dX10_init_58 rfl ?_
  refine b_newa F (atype := .int) (ty := .int) (a0 := (16, (.inl (fun _ => 0)))) 0 rfl rfl (by intro C q; cases q) zac_int (fun _ => rfl) (by decide) (by decide) (Nat.le_of_ble_eq_true rfl) ⟨Nat.le_trans (Nat.le_of_ble_eq_true rfl) hcs.1, Nat.le_trans (Nat.le_of_ble_eq_true rfl) hcs.2⟩ dX10_init_60 ?_
  refine b_putF F hini (c := 10) (C := RX10) (T := TX10) (N := 60) (fs := [.int 0, .int 0, .int 0, .int (-1 : Int32), .int 0, .int 0, .int 0, .int 0, .int 0, zr G 117, zr G 118, zr G 119, zr G 120, zr G 121, zr G 122, .null, .null, .null, .null, .null, .null, .null, .null, .null, .null, .int 0, .int 0, .int 0, .null, .null, .null, .null, .null, .null, .null, .null, .null, .null, .null, .null, .int 0, .int 0, .int 0, .null, .int 0, .int 0, .int 0, .int 0, .int 0, .null, .int 0, .null, .int 0, .int 0, .null, .null, .null, .int 0, .int 0, .null]) (ty := tyX10 15) tyX10 tyX10_ok nmX10 rfl uw_10 15 (by decide) rfl rfl (tyX10_ok 15 (by decide)) rfl rfl (Nat.le_of_ble_eq_true rfl) rfl (Nat.le_of_ble_eq_true rfl) wF_X10_32 dX10_init_62 ?_
  refine b_aload_n F dX10_init_65 rfl 0 rfl ?_
  refine b_bipush (y := (16 : Int32)) F dX10_init_66 rfl ?_
  refine b_newa F (atype := .int) (ty := .int) (a0 := (16, (.inl (fun _ => 0)))) 0 rfl rfl (by intro C q; cases q) zac_int (fun _ => rfl) (by decide) (by decide) (Nat.le_of_ble_eq_true rfl) ⟨Nat.le_trans (Nat.le_of_ble_eq_true rfl) hcs.1, Nat.le_trans (Nat.le_of_ble_eq_true rfl) hcs.2⟩ dX10_init_68 ?_
  refine b_putF F hini (c := 10) (C := RX10) (T := TX10) (N := 60) (fs := [.int 0, .int 0, .int 0, .int (-1 : Int32), .int 0, .int 0, .int 0, .int 0, .int 0, zr G 117, zr G 118, zr G 119, zr G 120, zr G 121, zr G 122, zr G 123, .null, .null, .null, .null, .null, .null, .null, .null, .null, .int 0, .int 0, .int 0, .null, .null, .null, .null, .null, .null, .null, .null, .null, .null, .null, .null, .int 0, .int 0, .int 0, .null, .int 0, .int 0, .int 0, .int 0, .int 0, .null, .int 0, .null, .int 0, .int 0, .null, .null, .null, .int 0, .int 0, .null]) (ty := tyX10 16) tyX10 tyX10_ok nmX10 rfl uw_10 16 (by decide) rfl rfl (tyX10_ok 16 (by decide)) rfl rfl (Nat.le_of_ble_eq_true rfl) rfl (Nat.le_of_ble_eq_true rfl) wF_X10_35 dX10_init_70 ?_
  refine b_aload_n F dX10_init_73 rfl 0 rfl ?_
  refine b_bipush (y := (12 : Int32)) F dX10_init_74 rfl ?_
  refine b_newa F (atype := .int) (ty := .int) (a0 := (12, (.inl (fun _ => 0)))) 0 rfl rfl (by intro C q; cases q) zac_int (fun _ => rfl) (by decide) (by decide) (Nat.le_of_ble_eq_true rfl) ⟨Nat.le_trans (Nat.le_of_ble_eq_true rfl) hcs.1, Nat.le_trans (Nat.le_of_ble_eq_true rfl) hcs.2⟩ dX10_init_76 ?_
  refine b_putF F hini (c := 10) (C := RX10) (T := TX10) (N := 60) (fs := [.int 0, .int 0, .int 0, .int (-1 : Int32), .int 0, .int 0, .int 0, .int 0, .int 0, zr G 117, zr G 118, zr G 119, zr G 120, zr G 121, zr G 122, zr G 123, zr G 124, .null, .null, .null, .null, .null, .null, .null, .null, .int 0, .int 0, .int 0, .null, .null, .null, .null, .null, .null, .null, .null, .null, .null, .null, .null, .int 0, .int 0, .int 0, .null, .int 0, .int 0, .int 0, .int 0, .int 0, .null, .int 0, .null, .int 0, .int 0, .null, .null, .null, .int 0, .int 0, .null]) (ty := tyX10 17) tyX10 tyX10_ok nmX10 rfl uw_10 17 (by decide) rfl rfl (tyX10_ok 17 (by decide)) rfl rfl (Nat.le_of_ble_eq_true rfl) rfl (Nat.le_of_ble_eq_true rfl) wF_X10_38 dX10_init_78 ?_
  refine b_aload_n F dX10_init_81 rfl 0 rfl ?_
  refine b_bipush (y := (12 : Int32)) F dX10_init_82 rfl ?_
  refine b_newa F (atype := .int) (ty := .int) (a0 := (12, (.inl (fun _ => 0)))) 0 rfl rfl (by intro C q; cases q) zac_int (fun _ => rfl) (by decide) (by decide) (Nat.le_of_ble_eq_true rfl) ⟨Nat.le_trans (Nat.le_of_ble_eq_true rfl) hcs.1, Nat.le_trans (Nat.le_of_ble_eq_true rfl) hcs.2⟩ dX10_init_84 ?_
  refine b_putF F hini (c := 10) (C := RX10) (T := TX10) (N := 60) (fs := [.int 0, .int 0, .int 0, .int (-1 : Int32), .int 0, .int 0, .int 0, .int 0, .int 0, zr G 117, zr G 118, zr G 119, zr G 120, zr G 121, zr G 122, zr G 123, zr G 124, zr G 125, .null, .null, .null, .null, .null, .null, .null, .int 0, .int 0, .int 0, .null, .null, .null, .null, .null, .null, .null, .null, .null, .null, .null, .null, .int 0, .int 0, .int 0, .null, .int 0, .int 0, .int 0, .int 0, .int 0, .null, .int 0, .null, .int 0, .int 0, .null, .null, .null, .int 0, .int 0, .null]) (ty := tyX10 18) tyX10 tyX10_ok nmX10 rfl uw_10 18 (by decide) rfl rfl (tyX10_ok 18 (by decide)) rfl rfl (Nat.le_of_ble_eq_true rfl) rfl (Nat.le_of_ble_eq_true rfl) wF_X10_41 dX10_init_86 ?_
  refine b_aload_n F dX10_init_89 rfl 0 rfl ?_
  refine b_bipush (y := (16 : Int32)) F dX10_init_90 rfl ?_
  refine b_bipush (y := (6 : Int32)) F dX10_init_92 rfl ?_
  refine b_mna F zcl_X10_44 zao_int zac_int (N' := 16) (K' := 6) (by decide) (by decide) (by decide) (by decide) (Nat.le_of_ble_eq_true rfl) (Nat.le_of_ble_eq_true rfl) (Nat.le_of_ble_eq_true rfl) ⟨Nat.le_trans (Nat.le_of_ble_eq_true rfl) hcs.1, Nat.le_trans (Nat.le_of_ble_eq_true rfl) hcs.2⟩ dX10_init_94 ?_
  refine b_putF F hini (c := 10) (C := RX10) (T := TX10) (N := 60) (fs := [.int 0, .int 0, .int 0, .int (-1 : Int32), .int 0, .int 0, .int 0, .int 0, .int 0, zr G 117, zr G 118, zr G 119, zr G 120, zr G 121, zr G 122, zr G 123, zr G 124, zr G 125, zr G 126, .null, .null, .null, .null, .null, .null, .int 0, .int 0, .int 0, .null, .null, .null, .null, .null, .null, .null, .null, .null, .null, .null, .null, .int 0, .int 0, .int 0, .null, .int 0, .int 0, .int 0, .int 0, .int 0, .null, .int 0, .null, .int 0, .int 0, .null, .null, .null, .int 0, .int 0, .null]) (ty := tyX10 19) tyX10 tyX10_ok nmX10 rfl uw_10 19 (by decide) rfl rfl (tyX10_ok 19 (by decide)) rfl rfl (Nat.le_of_ble_eq_true rfl) rfl (Nat.le_of_ble_eq_true rfl) wF_X10_46 dX10_init_98 ?_
  refine b_aload_n F dX10_init_101 rfl 0 rfl ?_
  refine b_bipush (y := (16 : Int32)) F dX10_init_102 rfl ?_
  refine b_bipush (y := (6 : Int32)) F dX10_init_104 rfl ?_
  refine b_mna F zcl_X10_44 zao_int zac_int (N' := 16) (K' := 6) (by decide) (by decide) (by decide) (by decide) (Nat.le_of_ble_eq_true rfl) (Nat.le_of_ble_eq_true rfl) (Nat.le_of_ble_eq_true rfl) ⟨Nat.le_trans (Nat.le_of_ble_eq_true rfl) hcs.1, Nat.le_trans (Nat.le_of_ble_eq_true rfl) hcs.2⟩ dX10_init_106 ?_
  refine b_putF F hini (c := 10) (C := RX10) (T := TX10) (N := 60) (fs := [.int 0, .int 0, .int 0, .int (-1 : Int32), .int 0, .int 0, .int 0, .int 0, .int 0, zr G 117, zr G 118, zr G 119, zr G 120, zr G 121, zr G 122, zr G 123, zr G 124, zr G 125, zr G 126, zr G 127, .null, .null, .null, .null, .null, .int 0, .int 0, .int 0, .null, .null, .null, .null, .null, .null, .null, .null, .null, .null, .null, .null, .int 0, .int 0, .int 0, .null, .int 0, .int 0, .int 0, .int 0, .int 0, .null, .int 0, .null, .int 0, .int 0, .null, .null, .null, .int 0, .int 0, .null]) (ty := tyX10 20) tyX10 tyX10_ok nmX10 rfl uw_10 20 (by decide) rfl rfl (tyX10_ok 20 (by decide)) rfl rfl (Nat.le_of_ble_eq_true rfl) rfl (Nat.le_of_ble_eq_true rfl) wF_X10_49 dX10_init_110 ?_
  refine b_aload_n F dX10_init_113 rfl 0 rfl ?_
  refine b_bipush (y := (12 : Int32)) F dX10_init_114 rfl ?_
  refine b_iconst (y := (2 : Int32)) F dX10_init_116 rfl ?_
  refine b_mna F zcl_X10_44 zao_int zac_int (N' := 12) (K' := 2) (by decide) (by decide) (by decide) (by decide) (Nat.le_of_ble_eq_true rfl) (Nat.le_of_ble_eq_true rfl) (Nat.le_of_ble_eq_true rfl) ⟨Nat.le_trans (Nat.le_of_ble_eq_true rfl) hcs.1, Nat.le_trans (Nat.le_of_ble_eq_true rfl) hcs.2⟩ dX10_init_117 ?_
  refine b_putF F hini (c := 10) (C := RX10) (T := TX10) (N := 60) (fs := [.int 0, .int 0, .int 0, .int (-1 : Int32), .int 0, .int 0, .int 0, .int 0, .int 0, zr G 117, zr G 118, zr G 119, zr G 120, zr G 121, zr G 122, zr G 123, zr G 124, zr G 125, zr G 126, zr G 127, zr G 144, .null, .null, .null, .null, .int 0, .int 0, .int 0, .null, .null, .null, .null, .null, .null, .null, .null, .null, .null, .null, .null, .int 0, .int 0, .int 0, .null, .int 0, .int 0, .int 0, .int 0, .int 0, .null, .int 0, .null, .int 0, .int 0, .null, .null, .null, .int 0, .int 0, .null]) (ty := tyX10 21) tyX10 tyX10_ok nmX10 rfl uw_10 21 (by decide) rfl rfl (tyX10_ok 21 (by decide)) rfl rfl (Nat.le_of_ble_eq_true rfl) rfl (Nat.le_of_ble_eq_true rfl) wF_X10_52 dX10_init_121 ?_
  refine b_aload_n F dX10_init_124 rfl 0 rfl ?_
  refine b_bipush (y := (12 : Int32)) F dX10_init_125 rfl ?_
  refine b_iconst (y := (2 : Int32)) F dX10_init_127 rfl ?_
  refine b_mna F zcl_X10_44 zao_int zac_int (N' := 12) (K' := 2) (by decide) (by decide) (by decide) (by decide) (Nat.le_of_ble_eq_true rfl) (Nat.le_of_ble_eq_true rfl) (Nat.le_of_ble_eq_true rfl) ⟨Nat.le_trans (Nat.le_of_ble_eq_true rfl) hcs.1, Nat.le_trans (Nat.le_of_ble_eq_true rfl) hcs.2⟩ dX10_init_128 ?_
  refine b_putF F hini (c := 10) (C := RX10) (T := TX10) (N := 60) (fs := [.int 0, .int 0, .int 0, .int (-1 : Int32), .int 0, .int 0, .int 0, .int 0, .int 0, zr G 117, zr G 118, zr G 119, zr G 120, zr G 121, zr G 122, zr G 123, zr G 124, zr G 125, zr G 126, zr G 127, zr G 144, zr G 161, .null, .null, .null, .int 0, .int 0, .int 0, .null, .null, .null, .null, .null, .null, .null, .null, .null, .null, .null, .null, .int 0, .int 0, .int 0, .null, .int 0, .int 0, .int 0, .int 0, .int 0, .null, .int 0, .null, .int 0, .int 0, .null, .null, .null, .int 0, .int 0, .null]) (ty := tyX10 22) tyX10 tyX10_ok nmX10 rfl uw_10 22 (by decide) rfl rfl (tyX10_ok 22 (by decide)) rfl rfl (Nat.le_of_ble_eq_true rfl) rfl (Nat.le_of_ble_eq_true rfl) wF_X10_55 dX10_init_132 ?_
  refine b_aload_n F dX10_init_135 rfl 0 rfl ?_
  refine b_bipush (y := (12 : Int32)) F dX10_init_136 rfl ?_
  refine b_iconst (y := (3 : Int32)) F dX10_init_138 rfl ?_
  refine b_mna F zcl_X10_44 zao_int zac_int (N' := 12) (K' := 3) (by decide) (by decide) (by decide) (by decide) (Nat.le_of_ble_eq_true rfl) (Nat.le_of_ble_eq_true rfl) (Nat.le_of_ble_eq_true rfl) ⟨Nat.le_trans (Nat.le_of_ble_eq_true rfl) hcs.1, Nat.le_trans (Nat.le_of_ble_eq_true rfl) hcs.2⟩ dX10_init_139 ?_
  refine b_putF F hini (c := 10) (C := RX10) (T := TX10) (N := 60) (fs := [.int 0, .int 0, .int 0, .int (-1 : Int32), .int 0, .int 0, .int 0, .int 0, .int 0, zr G 117, zr G 118, zr G 119, zr G 120, zr G 121, zr G 122, zr G 123, zr G 124, zr G 125, zr G 126, zr G 127, zr G 144, zr G 161, zr G 174, .null, .null, .int 0, .int 0, .int 0, .null, .null, .null, .null, .null, .null, .null, .null, .null, .null, .null, .null, .int 0, .int 0, .int 0, .null, .int 0, .int 0, .int 0, .int 0, .int 0, .null, .int 0, .null, .int 0, .int 0, .null, .null, .null, .int 0, .int 0, .null]) (ty := tyX10 23) tyX10 tyX10_ok nmX10 rfl uw_10 23 (by decide) rfl rfl (tyX10_ok 23 (by decide)) rfl rfl (Nat.le_of_ble_eq_true rfl) rfl (Nat.le_of_ble_eq_true rfl) wF_X10_58 dX10_init_143 ?_
  refine b_aload_n F dX10_init_146 rfl 0 rfl ?_
  refine b_bipush (y := (12 : Int32)) F dX10_init_147 rfl ?_
  refine b_iconst (y := (3 : Int32)) F dX10_init_149 rfl ?_
  refine b_mna F zcl_X10_44 zao_int zac_int (N' := 12) (K' := 3) (by decide) (by decide) (by decide) (by decide) (Nat.le_of_ble_eq_true rfl) (Nat.le_of_ble_eq_true rfl) (Nat.le_of_ble_eq_true rfl) ⟨Nat.le_trans (Nat.le_of_ble_eq_true rfl) hcs.1, Nat.le_trans (Nat.le_of_ble_eq_true rfl) hcs.2⟩ dX10_init_150 ?_
  refine b_putF F hini (c := 10) (C := RX10) (T := TX10) (N := 60) (fs := [.int 0, .int 0, .int 0, .int (-1 : Int32), .int 0, .int 0, .int 0, .int 0, .int 0, zr G 117, zr G 118, zr G 119, zr G 120, zr G 121, zr G 122, zr G 123, zr G 124, zr G 125, zr G 126, zr G 127, zr G 144, zr G 161, zr G 174, zr G 187, .null, .int 0, .int 0, .int 0, .null, .null, .null, .null, .null, .null, .null, .null, .null, .null, .null, .null, .int 0, .int 0, .int 0, .null, .int 0, .int 0, .int 0, .int 0, .int 0, .null, .int 0, .null, .int 0, .int 0, .null, .null, .null, .int 0, .int 0, .null]) (ty := tyX10 24) tyX10 tyX10_ok nmX10 rfl uw_10 24 (by decide) rfl rfl (tyX10_ok 24 (by decide)) rfl rfl (Nat.le_of_ble_eq_true rfl) rfl (Nat.le_of_ble_eq_true rfl) wF_X10_61 dX10_init_154 ?_
  refine b_aload_n F dX10_init_157 rfl 0 rfl ?_
  refine b_sipush (y := (160 : Int32)) F dX10_init_158 rfl ?_
  refine b_iconst (y := (2 : Int32)) F dX10_init_161 rfl ?_
  refine b_mna F zcl_X10_44 zao_int zac_int (N' := 160) (K' := 2) (by decide) (by decide) (by decide) (by decide) (Nat.le_of_ble_eq_true rfl) (Nat.le_of_ble_eq_true rfl) (Nat.le_of_ble_eq_true rfl) ⟨Nat.le_trans (Nat.le_of_ble_eq_true rfl) hcs.1, Nat.le_trans (Nat.le_of_ble_eq_true rfl) hcs.2⟩ dX10_init_162 ?_
  refine b_putF F hini (c := 10) (C := RX10) (T := TX10) (N := 60) (fs := [.int 0, .int 0, .int 0, .int (-1 : Int32), .int 0, .int 0, .int 0, .int 0, .int 0, zr G 117, zr G 118, zr G 119, zr G 120, zr G 121, zr G 122, zr G 123, zr G 124, zr G 125, zr G 126, zr G 127, zr G 144, zr G 161, zr G 174, zr G 187, zr G 200, .int 0, .int 0, .int 0, .null, .null, .null, .null, .null, .null, .null, .null, .null, .null, .null, .null, .int 0, .int 0, .int 0, .null, .int 0, .int 0, .int 0, .int 0, .int 0, .null, .int 0, .null, .int 0, .int 0, .null, .null, .null, .int 0, .int 0, .null]) (ty := tyX10 28) tyX10 tyX10_ok nmX10 rfl uw_10 28 (by decide) rfl rfl (tyX10_ok 28 (by decide)) rfl rfl (Nat.le_of_ble_eq_true rfl) rfl (Nat.le_of_ble_eq_true rfl) wF_X10_64 dX10_init_166 ?_
  refine b_aload_n F dX10_init_169 rfl 0 rfl ?_
  refine b_sipush (y := (160 : Int32)) F dX10_init_170 rfl ?_
  refine b_iconst (y := (2 : Int32)) F dX10_init_173 rfl ?_
  refine b_mna F zcl_X10_44 zao_int zac_int (N' := 160) (K' := 2) (by decide) (by decide) (by decide) (by decide) (Nat.le_of_ble_eq_true rfl) (Nat.le_of_ble_eq_true rfl) (Nat.le_of_ble_eq_true rfl) ⟨Nat.le_trans (Nat.le_of_ble_eq_true rfl) hcs.1, Nat.le_trans (Nat.le_of_ble_eq_true rfl) hcs.2⟩ dX10_init_174 ?_
  refine b_putF F hini (c := 10) (C := RX10) (T := TX10) (N := 60) (fs := [.int 0, .int 0, .int 0, .int (-1 : Int32), .int 0, .int 0, .int 0, .int 0, .int 0, zr G 117, zr G 118, zr G 119, zr G 120, zr G 121, zr G 122, zr G 123, zr G 124, zr G 125, zr G 126, zr G 127, zr G 144, zr G 161, zr G 174, zr G 187, zr G 200, .int 0, .int 0, .int 0, zr G 213, .null, .null, .null, .null, .null, .null, .null, .null, .null, .null, .null, .int 0, .int 0, .int 0, .null, .int 0, .int 0, .int 0, .int 0, .int 0, .null, .int 0, .null, .int 0, .int 0, .null, .null, .null, .int 0, .int 0, .null]) (ty := tyX10 29) tyX10 tyX10_ok nmX10 rfl uw_10 29 (by decide) rfl rfl (tyX10_ok 29 (by decide)) rfl rfl (Nat.le_of_ble_eq_true rfl) rfl (Nat.le_of_ble_eq_true rfl) wF_X10_67 dX10_init_178 ?_
  refine b_aload_n F dX10_init_181 rfl 0 rfl ?_
  refine b_bipush (y := (12 : Int32)) F dX10_init_182 rfl ?_
  refine b_iconst (y := (2 : Int32)) F dX10_init_184 rfl ?_
  refine b_mna F zcl_X10_44 zao_int zac_int (N' := 12) (K' := 2) (by decide) (by decide) (by decide) (by decide) (Nat.le_of_ble_eq_true rfl) (Nat.le_of_ble_eq_true rfl) (Nat.le_of_ble_eq_true rfl) ⟨Nat.le_trans (Nat.le_of_ble_eq_true rfl) hcs.1, Nat.le_trans (Nat.le_of_ble_eq_true rfl) hcs.2⟩ dX10_init_185 ?_
  refine b_putF F hini (c := 10) (C := RX10) (T := TX10) (N := 60) (fs := [.int 0, .int 0, .int 0, .int (-1 : Int32), .int 0, .int 0, .int 0, .int 0, .int 0, zr G 117, zr G 118, zr G 119, zr G 120, zr G 121, zr G 122, zr G 123, zr G 124, zr G 125, zr G 126, zr G 127, zr G 144, zr G 161, zr G 174, zr G 187, zr G 200, .int 0, .int 0, .int 0, zr G 213, zr G 374, .null, .null, .null, .null, .null, .null, .null, .null, .null, .null, .int 0, .int 0, .int 0, .null, .int 0, .int 0, .int 0, .int 0, .int 0, .null, .int 0, .null, .int 0, .int 0, .null, .null, .null, .int 0, .int 0, .null]) (ty := tyX10 30) tyX10 tyX10_ok nmX10 rfl uw_10 30 (by decide) rfl rfl (tyX10_ok 30 (by decide)) rfl rfl (Nat.le_of_ble_eq_true rfl) rfl (Nat.le_of_ble_eq_true rfl) wF_X10_70 dX10_init_189 ?_
  refine b_aload_n F dX10_init_192 rfl 0 rfl ?_
  refine b_bipush (y := (12 : Int32)) F dX10_init_193 rfl ?_
  refine b_iconst (y := (2 : Int32)) F dX10_init_195 rfl ?_
  refine b_mna F zcl_X10_44 zao_int zac_int (N' := 12) (K' := 2) (by decide) (by decide) (by decide) (by decide) (Nat.le_of_ble_eq_true rfl) (Nat.le_of_ble_eq_true rfl) (Nat.le_of_ble_eq_true rfl) ⟨Nat.le_trans (Nat.le_of_ble_eq_true rfl) hcs.1, Nat.le_trans (Nat.le_of_ble_eq_true rfl) hcs.2⟩ dX10_init_196 ?_
  refine b_putF F hini (c := 10) (C := RX10) (T := TX10) (N := 60) (fs := [.int 0, .int 0, .int 0, .int (-1 : Int32), .int 0, .int 0, .int 0, .int 0, .int 0, zr G 117, zr G 118, zr G 119, zr G 120, zr G 121, zr G 122, zr G 123, zr G 124, zr G 125, zr G 126, zr G 127, zr G 144, zr G 161, zr G 174, zr G 187, zr G 200, .int 0, .int 0, .int 0, zr G 213, zr G 374, zr G 535, .null, .null, .null, .null, .null, .null, .null, .null, .null, .int 0, .int 0, .int 0, .null, .int 0, .int 0, .int 0, .int 0, .int 0, .null, .int 0, .null, .int 0, .int 0, .null, .null, .null, .int 0, .int 0, .null]) (ty := tyX10 31) tyX10 tyX10_ok nmX10 rfl uw_10 31 (by decide) rfl rfl (tyX10_ok 31 (by decide)) rfl rfl (Nat.le_of_ble_eq_true rfl) rfl (Nat.le_of_ble_eq_true rfl) wF_X10_73 dX10_init_200 ?_
  refine b_aload_n F dX10_init_203 rfl 0 rfl ?_
  refine b_iconst (y := (3 : Int32)) F dX10_init_204 rfl ?_
  refine b_sipush (y := (305 : Int32)) F dX10_init_205 rfl ?_
  refine b_mna F zcl_X10_44 zao_int zac_int (N' := 3) (K' := 305) (by decide) (by decide) (by decide) (by decide) (Nat.le_of_ble_eq_true rfl) (Nat.le_of_ble_eq_true rfl) (Nat.le_of_ble_eq_true rfl) ⟨Nat.le_trans (Nat.le_of_ble_eq_true rfl) hcs.1, Nat.le_trans (Nat.le_of_ble_eq_true rfl) hcs.2⟩ dX10_init_208 ?_
  refine b_putF F hini (c := 10) (C := RX10) (T := TX10) (N := 60) (fs := [.int 0, .int 0, .int 0, .int (-1 : Int32), .int 0, .int 0, .int 0, .int 0, .int 0, zr G 117, zr G 118, zr G 119, zr G 120, zr G 121, zr G 122, zr G 123, zr G 124, zr G 125, zr G 126, zr G 127, zr G 144, zr G 161, zr G 174, zr G 187, zr G 200, .int 0, .int 0, .int 0, zr G 213, zr G 374, zr G 535, zr G 548, .null, .null, .null, .null, .null, .null, .null, .null, .int 0, .int 0, .int 0, .null, .int 0, .int 0, .int 0, .int 0, .int 0, .null, .int 0, .null, .int 0, .int 0, .null, .null, .null, .int 0, .int 0, .null]) (ty := tyX10 32) tyX10 tyX10_ok nmX10 rfl uw_10 32 (by decide) rfl rfl (tyX10_ok 32 (by decide)) rfl rfl (Nat.le_of_ble_eq_true rfl) rfl (Nat.le_of_ble_eq_true rfl) wF_X10_76 dX10_init_212 ?_
  refine b_aload_n F dX10_init_215 rfl 0 rfl ?_
  refine b_sipush (y := (160 : Int32)) F dX10_init_216 rfl ?_
  refine b_newa F (atype := .int) (ty := .int) (a0 := (160, (.inl (fun _ => 0)))) 0 rfl rfl (by intro C q; cases q) zac_int (fun _ => rfl) (by decide) (by decide) (Nat.le_of_ble_eq_true rfl) ⟨Nat.le_trans (Nat.le_of_ble_eq_true rfl) hcs.1, Nat.le_trans (Nat.le_of_ble_eq_true rfl) hcs.2⟩ dX10_init_219 ?_
  refine b_putF F hini (c := 10) (C := RX10) (T := TX10) (N := 60) (fs := [.int 0, .int 0, .int 0, .int (-1 : Int32), .int 0, .int 0, .int 0, .int 0, .int 0, zr G 117, zr G 118, zr G 119, zr G 120, zr G 121, zr G 122, zr G 123, zr G 124, zr G 125, zr G 126, zr G 127, zr G 144, zr G 161, zr G 174, zr G 187, zr G 200, .int 0, .int 0, .int 0, zr G 213, zr G 374, zr G 535, zr G 548, zr G 561, .null, .null, .null, .null, .null, .null, .null, .int 0, .int 0, .int 0, .null, .int 0, .int 0, .int 0, .int 0, .int 0, .null, .int 0, .null, .int 0, .int 0, .null, .null, .null, .int 0, .int 0, .null]) (ty := tyX10 33) tyX10 tyX10_ok nmX10 rfl uw_10 33 (by decide) rfl rfl (tyX10_ok 33 (by decide)) rfl rfl (Nat.le_of_ble_eq_true rfl) rfl (Nat.le_of_ble_eq_true rfl) wF_X10_79 dX10_init_221 ?_
  refine b_aload_n F dX10_init_224 rfl 0 rfl ?_
  refine b_bipush (y := (7 : Int32)) F dX10_init_225 rfl ?_
  refine b_newa F (atype := .int) (ty := .int) (a0 := (7, (.inl (fun _ => 0)))) 0 rfl rfl (by intro C q; cases q) zac_int (fun _ => rfl) (by decide) (by decide) (Nat.le_of_ble_eq_true rfl) ⟨Nat.le_trans (Nat.le_of_ble_eq_true rfl) hcs.1, Nat.le_trans (Nat.le_of_ble_eq_true rfl) hcs.2⟩ dX10_init_227 ?_
  refine b_putF F hini (c := 10) (C := RX10) (T := TX10) (N := 60) (fs := [.int 0, .int 0, .int 0, .int (-1 : Int32), .int 0, .int 0, .int 0, .int 0, .int 0, zr G 117, zr G 118, zr G 119, zr G 120, zr G 121, zr G 122, zr G 123, zr G 124, zr G 125, zr G 126, zr G 127, zr G 144, zr G 161, zr G 174, zr G 187, zr G 200, .int 0, .int 0, .int 0, zr G 213, zr G 374, zr G 535, zr G 548, zr G 561, zr G 565, .null, .null, .null, .null, .null, .null, .int 0, .int 0, .int 0, .null, .int 0, .int 0, .int 0, .int 0, .int 0, .null, .int 0, .null, .int 0, .int 0, .null, .null, .null, .int 0, .int 0, .null]) (ty := tyX10 34) tyX10 tyX10_ok nmX10 rfl uw_10 34 (by decide) rfl rfl (tyX10_ok 34 (by decide)) rfl rfl (Nat.le_of_ble_eq_true rfl) rfl (Nat.le_of_ble_eq_true rfl) wF_X10_82 dX10_init_229 ?_
  refine b_aload_n F dX10_init_232 rfl 0 rfl ?_
  refine b_sipush (y := (305 : Int32)) F dX10_init_233 rfl ?_
  refine b_newa F (atype := .int) (ty := .int) (a0 := (305, (.inl (fun _ => 0)))) 0 rfl rfl (by intro C q; cases q) zac_int (fun _ => rfl) (by decide) (by decide) (Nat.le_of_ble_eq_true rfl) ⟨Nat.le_trans (Nat.le_of_ble_eq_true rfl) hcs.1, Nat.le_trans (Nat.le_of_ble_eq_true rfl) hcs.2⟩ dX10_init_236 ?_
  refine b_putF F hini (c := 10) (C := RX10) (T := TX10) (N := 60) (fs := [.int 0, .int 0, .int 0, .int (-1 : Int32), .int 0, .int 0, .int 0, .int 0, .int 0, zr G 117, zr G 118, zr G 119, zr G 120, zr G 121, zr G 122, zr G 123, zr G 124, zr G 125, zr G 126, zr G 127, zr G 144, zr G 161, zr G 174, zr G 187, zr G 200, .int 0, .int 0, .int 0, zr G 213, zr G 374, zr G 535, zr G 548, zr G 561, zr G 565, zr G 566, .null, .null, .null, .null, .null, .int 0, .int 0, .int 0, .null, .int 0, .int 0, .int 0, .int 0, .int 0, .null, .int 0, .null, .int 0, .int 0, .null, .null, .null, .int 0, .int 0, .null]) (ty := tyX10 35) tyX10 tyX10_ok nmX10 rfl uw_10 35 (by decide) rfl rfl (tyX10_ok 35 (by decide)) rfl rfl (Nat.le_of_ble_eq_true rfl) rfl (Nat.le_of_ble_eq_true rfl) wF_X10_85 dX10_init_238 ?_
  refine b_aload_n F dX10_init_241 rfl 0 rfl ?_
  refine b_sipush (y := (305 : Int32)) F dX10_init_242 rfl ?_
  refine b_newa F (atype := .int) (ty := .int) (a0 := (305, (.inl (fun _ => 0)))) 0 rfl rfl (by intro C q; cases q) zac_int (fun _ => rfl) (by decide) (by decide) (Nat.le_of_ble_eq_true rfl) ⟨Nat.le_trans (Nat.le_of_ble_eq_true rfl) hcs.1, Nat.le_trans (Nat.le_of_ble_eq_true rfl) hcs.2⟩ dX10_init_245 ?_
  refine b_putF F hini (c := 10) (C := RX10) (T := TX10) (N := 60) (fs := [.int 0, .int 0, .int 0, .int (-1 : Int32), .int 0, .int 0, .int 0, .int 0, .int 0, zr G 117, zr G 118, zr G 119, zr G 120, zr G 121, zr G 122, zr G 123, zr G 124, zr G 125, zr G 126, zr G 127, zr G 144, zr G 161, zr G 174, zr G 187, zr G 200, .int 0, .int 0, .int 0, zr G 213, zr G 374, zr G 535, zr G 548, zr G 561, zr G 565, zr G 566, zr G 567, .null, .null, .null, .null, .int 0, .int 0, .int 0, .null, .int 0, .int 0, .int 0, .int 0, .int 0, .null, .int 0, .null, .int 0, .int 0, .null, .null, .null, .int 0, .int 0, .null]) (ty := tyX10 36) tyX10 tyX10_ok nmX10 rfl uw_10 36 (by decide) rfl rfl (tyX10_ok 36 (by decide)) rfl rfl (Nat.le_of_ble_eq_true rfl) rfl (Nat.le_of_ble_eq_true rfl) wF_X10_88 dX10_init_247 ?_
  refine b_aload_n F dX10_init_250 rfl 0 rfl ?_
  refine b_sipush (y := (305 : Int32)) F dX10_init_251 rfl ?_
  refine b_newa F (atype := .int) (ty := .int) (a0 := (305, (.inl (fun _ => 0)))) 0 rfl rfl (by intro C q; cases q) zac_int (fun _ => rfl) (by decide) (by decide) (Nat.le_of_ble_eq_true rfl) ⟨Nat.le_trans (Nat.le_of_ble_eq_true rfl) hcs.1, Nat.le_trans (Nat.le_of_ble_eq_true rfl) hcs.2⟩ dX10_init_254 ?_
  refine b_putF F hini (c := 10) (C := RX10) (T := TX10) (N := 60) (fs := [.int 0, .int 0, .int 0, .int (-1 : Int32), .int 0, .int 0, .int 0, .int 0, .int 0, zr G 117, zr G 118, zr G 119, zr G 120, zr G 121, zr G 122, zr G 123, zr G 124, zr G 125, zr G 126, zr G 127, zr G 144, zr G 161, zr G 174, zr G 187, zr G 200, .int 0, .int 0, .int 0, zr G 213, zr G 374, zr G 535, zr G 548, zr G 561, zr G 565, zr G 566, zr G 567, zr G 568, .null, .null, .null, .int 0, .int 0, .int 0, .null, .int 0, .int 0, .int 0, .int 0, .int 0, .null, .int 0, .null, .int 0, .int 0, .null, .null, .null, .int 0, .int 0, .null]) (ty := tyX10 37) tyX10 tyX10_ok nmX10 rfl uw_10 37 (by decide) rfl rfl (tyX10_ok 37 (by decide)) rfl rfl (Nat.le_of_ble_eq_true rfl) rfl (Nat.le_of_ble_eq_true rfl) wF_X10_91 dX10_init_256 ?_
  refine b_aload_n F dX10_init_259 rfl 0 rfl ?_
  refine b_sipush (y := (305 : Int32)) F dX10_init_260 rfl ?_
  refine b_newa F (atype := .int) (ty := .int) (a0 := (305, (.inl (fun _ => 0)))) 0 rfl rfl (by intro C q; cases q) zac_int (fun _ => rfl) (by decide) (by decide) (Nat.le_of_ble_eq_true rfl) ⟨Nat.le_trans (Nat.le_of_ble_eq_true rfl) hcs.1, Nat.le_trans (Nat.le_of_ble_eq_true rfl) hcs.2⟩ dX10_init_263 ?_
  refine b_putF F hini (c := 10) (C := RX10) (T := TX10) (N := 60) (fs := [.int 0, .int 0, .int 0, .int (-1 : Int32), .int 0, .int 0, .int 0, .int 0, .int 0, zr G 117, zr G 118, zr G 119, zr G 120, zr G 121, zr G 122, zr G 123, zr G 124, zr G 125, zr G 126, zr G 127, zr G 144, zr G 161, zr G 174, zr G 187, zr G 200, .int 0, .int 0, .int 0, zr G 213, zr G 374, zr G 535, zr G 548, zr G 561, zr G 565, zr G 566, zr G 567, zr G 568, zr G 569, .null, .null, .int 0, .int 0, .int 0, .null, .int 0, .int 0, .int 0, .int 0, .int 0, .null, .int 0, .null, .int 0, .int 0, .null, .null, .null, .int 0, .int 0, .null]) (ty := tyX10 38) tyX10 tyX10_ok nmX10 rfl uw_10 38 (by decide) rfl rfl (tyX10_ok 38 (by decide)) rfl rfl (Nat.le_of_ble_eq_true rfl) rfl (Nat.le_of_ble_eq_true rfl) wF_X10_94 dX10_init_265 ?_
  refine b_aload_n F dX10_init_268 rfl 0 rfl ?_
  refine b_sipush (y := (305 : Int32)) F dX10_init_269 rfl ?_
  refine b_newa F (atype := .int) (ty := .int) (a0 := (305, (.inl (fun _ => 0)))) 0 rfl rfl (by intro C q; cases q) zac_int (fun _ => rfl) (by decide) (by decide) (Nat.le_of_ble_eq_true rfl) ⟨Nat.le_trans (Nat.le_of_ble_eq_true rfl) hcs.1, Nat.le_trans (Nat.le_of_ble_eq_true rfl) hcs.2⟩ dX10_init_272 ?_
  refine b_putF F hini (c := 10) (C := RX10) (T := TX10) (N := 60) (fs := [.int 0, .int 0, .int 0, .int (-1 : Int32), .int 0, .int 0, .int 0, .int 0, .int 0, zr G 117, zr G 118, zr G 119, zr G 120, zr G 121, zr G 122, zr G 123, zr G 124, zr G 125, zr G 126, zr G 127, zr G 144, zr G 161, zr G 174, zr G 187, zr G 200, .int 0, .int 0, .int 0, zr G 213, zr G 374, zr G 535, zr G 548, zr G 561, zr G 565, zr G 566, zr G 567, zr G 568, zr G 569, zr G 570, .null, .int 0, .int 0, .int 0, .null, .int 0, .int 0, .int 0, .int 0, .int 0, .null, .int 0, .null, .int 0, .int 0, .null, .null, .null, .int 0, .int 0, .null]) (ty := tyX10 39) tyX10 tyX10_ok nmX10 rfl uw_10 39 (by decide) rfl rfl (tyX10_ok 39 (by decide)) rfl rfl (Nat.le_of_ble_eq_true rfl) rfl (Nat.le_of_ble_eq_true rfl) wF_X10_97 dX10_init_274 ?_
  refine b_aload_n F dX10_init_277 rfl 0 rfl ?_
  refine b_iconst (y := (3 : Int32)) F dX10_init_278 rfl ?_
  refine b_iconst (y := (3 : Int32)) F dX10_init_279 rfl ?_
  refine b_mna F zcl_X10_44 zao_int zac_int (N' := 3) (K' := 3) (by decide) (by decide) (by decide) (by decide) (Nat.le_of_ble_eq_true rfl) (Nat.le_of_ble_eq_true rfl) (Nat.le_of_ble_eq_true rfl) ⟨Nat.le_trans (Nat.le_of_ble_eq_true rfl) hcs.1, Nat.le_trans (Nat.le_of_ble_eq_true rfl) hcs.2⟩ dX10_init_280 ?_
  refine b_putF F hini (c := 10) (C := RX10) (T := TX10) (N := 60) (fs := [.int 0, .int 0, .int 0, .int (-1 : Int32), .int 0, .int 0, .int 0, .int 0, .int 0, zr G 117, zr G 118, zr G 119, zr G 120, zr G 121, zr G 122, zr G 123, zr G 124, zr G 125, zr G 126, zr G 127, zr G 144, zr G 161, zr G 174, zr G 187, zr G 200, .int 0, .int 0, .int 0, zr G 213, zr G 374, zr G 535, zr G 548, zr G 561, zr G 565, zr G 566, zr G 567, zr G 568, zr G 569, zr G 570, zr G 571, .int 0, .int 0, .int 0, .null, .int 0, .int 0, .int 0, .int 0, .int 0, .null, .int 0, .null, .int 0, .int 0, .null, .null, .null, .int 0, .int 0, .null]) (ty := tyX10 43) tyX10 tyX10_ok nmX10 rfl uw_10 43 (by decide) rfl rfl (tyX10_ok 43 (by decide)) rfl rfl (Nat.le_of_ble_eq_true rfl) rfl (Nat.le_of_ble_eq_true rfl) wF_X10_100 dX10_init_284 ?_
  refine b_aload_n F dX10_init_287 rfl 0 rfl ?_
  refine b_iconst (y := (-1 : Int32)) F dX10_init_288 rfl ?_
  refine b_put F (c := 10) (C := RX10) (T := TX10) (N := 60) (fs := [.int 0, .int 0, .int 0, .int (-1 : Int32), .int 0, .int 0, .int 0, .int 0, .int 0, zr G 117, zr G 118, zr G 119, zr G 120, zr G 121, zr G 122, zr G 123, zr G 124, zr G 125, zr G 126, zr G 127, zr G 144, zr G 161, zr G 174, zr G 187, zr G 200, .int 0, .int 0, .int 0, zr G 213, zr G 374, zr G 535, zr G 548, zr G 561, zr G 565, zr G 566, zr G 567, zr G 568, zr G 569, zr G 570, zr G 571, .int 0, .int 0, .int 0, zr G 572, .int 0, .int 0, .int 0, .int 0, .int 0, .null, .int 0, .null, .int 0, .int 0, .null, .null, .null, .int 0, .int 0, .null]) (ty := tyX10 46) tyX10 tyX10_ok nmX10 rfl uw_10 46 (by decide) rfl (tyX10_ok 46 (by decide)) rfl rfl (Nat.le_of_ble_eq_true rfl) rfl (Nat.le_of_ble_eq_true rfl) wF_X10_103 dX10_init_289 ?_
  refine b_aload_n F dX10_init_292 rfl 0 rfl ?_
  refine b_bipush (y := (13 : Int32)) F dX10_init_293 rfl ?_
  refine b_newa F (atype := .int) (ty := .int) (a0 := (13, (.inl (fun _ => 0)))) 0 rfl rfl (by intro C q; cases q) zac_int (fun _ => rfl) (by decide) (by decide) (Nat.le_of_ble_eq_true rfl) ⟨Nat.le_trans (Nat.le_of_ble_eq_true rfl) hcs.1, Nat.le_trans (Nat.le_of_ble_eq_true rfl) hcs.2⟩ dX10_init_295 ?_
  refine b_putF F hini (c := 10) (C := RX10) (T := TX10) (N := 60) (fs := [.int 0, .int 0, .int 0, .int (-1 : Int32), .int 0, .int 0, .int 0, .int 0, .int 0, zr G 117, zr G 118, zr G 119, zr G 120, zr G 121, zr G 122, zr G 123, zr G 124, zr G 125, zr G 126, zr G 127, zr G 144, zr G 161, zr G 174, zr G 187, zr G 200, .int 0, .int 0, .int 0, zr G 213, zr G 374, zr G 535, zr G 548, zr G 561, zr G 565, zr G 566, zr G 567, zr G 568, zr G 569, zr G 570, zr G 571, .int 0, .int 0, .int 0, zr G 572, .int 0, .int 0, .int (-1 : Int32), .int 0, .int 0, .null, .int 0, .null, .int 0, .int 0, .null, .null, .null, .int 0, .int 0, .null]) (ty := tyX10 49) tyX10 tyX10_ok nmX10 rfl uw_10 49 (by decide) rfl rfl (tyX10_ok 49 (by decide)) rfl rfl (Nat.le_of_ble_eq_true rfl) rfl (Nat.le_of_ble_eq_true rfl) wF_X10_106 dX10_init_297 ?_
  refine b_aload_n F dX10_init_300 rfl 0 rfl ?_
  refine b_iconst (y := (4 : Int32)) F dX10_init_301 rfl ?_
  refine b_sipush (y := (305 : Int32)) F dX10_init_302 rfl ?_
  refine b_mna F zcl_X10_44 zao_int zac_int (N' := 4) (K' := 305) (by decide) (by decide) (by decide) (by decide) (Nat.le_of_ble_eq_true rfl) (Nat.le_of_ble_eq_true rfl) (Nat.le_of_ble_eq_true rfl) ⟨Nat.le_trans (Nat.le_of_ble_eq_true rfl) hcs.1, Nat.le_trans (Nat.le_of_ble_eq_true rfl) hcs.2⟩ dX10_init_305 ?_
  refine b_putF F hini (c := 10) (C := RX10) (T := TX10) (N := 60) (fs := [.int 0, .int 0, .int 0, .int (-1 : Int32), .int 0, .int 0, .int 0, .int 0, .int 0, zr G 117, zr G 118, zr G 119, zr G 120, zr G 121, zr G 122, zr G 123, zr G 124, zr G 125, zr G 126, zr G 127, zr G 144, zr G 161, zr G 174, zr G 187, zr G 200, .int 0, .int 0, .int 0, zr G 213, zr G 374, zr G 535, zr G 548, zr G 561, zr G 565, zr G 566, zr G 567, zr G 568, zr G 569, zr G 570, zr G 571, .int 0, .int 0, .int 0, zr G 572, .int 0, .int 0, .int (-1 : Int32), .int 0, .int 0, zr G 576, .int 0, .null, .int 0, .int 0, .null, .null, .null, .int 0, .int 0, .null]) (ty := tyX10 51) tyX10 tyX10_ok nmX10 rfl uw_10 51 (by decide) rfl rfl (tyX10_ok 51 (by decide)) rfl rfl (Nat.le_of_ble_eq_true rfl) rfl (Nat.le_of_ble_eq_true rfl) wF_X10_109 dX10_init_309 ?_
  refine b_aload_n F dX10_init_312 rfl 0 rfl ?_
  refine b_bipush (y := (17 : Int32)) F dX10_init_313 rfl ?_
  refine b_bipush (y := (17 : Int32)) F dX10_init_315 rfl ?_
  refine b_mna F zcl_X10_44 zao_int zac_int (N' := 17) (K' := 17) (by decide) (by decide) (by decide) (by decide) (Nat.le_of_ble_eq_true rfl) (Nat.le_of_ble_eq_true rfl) (Nat.le_of_ble_eq_true rfl) ⟨Nat.le_trans (Nat.le_of_ble_eq_true rfl) hcs.1, Nat.le_trans (Nat.le_of_ble_eq_true rfl) hcs.2⟩ dX10_init_317 ?_
  refine b_putF F hini (c := 10) (C := RX10) (T := TX10) (N := 60) (fs := [.int 0, .int 0, .int 0, .int (-1 : Int32), .int 0, .int 0, .int 0, .int 0, .int 0, zr G 117, zr G 118, zr G 119, zr G 120, zr G 121, zr G 122, zr G 123, zr G 124, zr G 125, zr G 126, zr G 127, zr G 144, zr G 161, zr G 174, zr G 187, zr G 200, .int 0, .int 0, .int 0, zr G 213, zr G 374, zr G 535, zr G 548, zr G 561, zr G 565, zr G 566, zr G 567, zr G 568, zr G 569, zr G 570, zr G 571, .int 0, .int 0, .int 0, zr G 572, .int 0, .int 0, .int (-1 : Int32), .int 0, .int 0, zr G 576, .int 0, zr G 577, .int 0, .int 0, .null, .null, .null, .int 0, .int 0, .null]) (ty := tyX10 54) tyX10 tyX10_ok nmX10 rfl uw_10 54 (by decide) rfl rfl (tyX10_ok 54 (by decide)) rfl rfl (Nat.le_of_ble_eq_true rfl) rfl (Nat.le_of_ble_eq_true rfl) wF_X10_112 dX10_init_321 ?_
  refine b_aload_n F dX10_init_324 rfl 0 rfl ?_
  refine b_bipush (y := (6 : Int32)) F dX10_init_325 rfl ?_
  refine b_newa F (atype := .int) (ty := .int) (a0 := (6, (.inl (fun _ => 0)))) 0 rfl rfl (by intro C q; cases q) zac_int (fun _ => rfl) (by decide) (by decide) (Nat.le_of_ble_eq_true rfl) ⟨Nat.le_trans (Nat.le_of_ble_eq_true rfl) hcs.1, Nat.le_trans (Nat.le_of_ble_eq_true rfl) hcs.2⟩ dX10_init_327 ?_
  refine b_putF F hini (c := 10) (C := RX10) (T := TX10) (N := 60) (fs := [.int 0, .int 0, .int 0, .int (-1 : Int32), .int 0, .int 0, .int 0, .int 0, .int 0, zr G 117, zr G 118, zr G 119, zr G 120, zr G 121, zr G 122, zr G 123, zr G 124, zr G 125, zr G 126, zr G 127, zr G 144, zr G 161, zr G 174, zr G 187, zr G 200, .int 0, .int 0, .int 0, zr G 213, zr G 374, zr G 535, zr G 548, zr G 561, zr G 565, zr G 566, zr G 567, zr G 568, zr G 569, zr G 570, zr G 571, .int 0, .int 0, .int 0, zr G 572, .int 0, .int 0, .int (-1 : Int32), .int 0, .int 0, zr G 576, .int 0, zr G 577, .int 0, .int 0, zr G 582, .null, .null, .int 0, .int 0, .null]) (ty := tyX10 55) tyX10 tyX10_ok nmX10 rfl uw_10 55 (by decide) rfl rfl (tyX10_ok 55 (by decide)) rfl rfl (Nat.le_of_ble_eq_true rfl) rfl (Nat.le_of_ble_eq_true rfl) wF_X10_115 dX10_init_329 ?_
  refine b_aload_n F dX10_init_332 rfl 0 rfl ?_
  refine b_bipush (y := (6 : Int32)) F dX10_init_333 rfl ?_
  refine b_newa F (atype := .int) (ty := .int) (a0 := (6, (.inl (fun _ => 0)))) 0 rfl rfl (by intro C q; cases q) zac_int (fun _ => rfl) (by decide) (by decide) (Nat.le_of_ble_eq_true rfl) ⟨Nat.le_trans (Nat.le_of_ble_eq_true rfl) hcs.1, Nat.le_trans (Nat.le_of_ble_eq_true rfl) hcs.2⟩ dX10_init_335 ?_
  refine b_putF F hini (c := 10) (C := RX10) (T := TX10) (N := 60) (fs := [.int 0, .int 0, .int 0, .int (-1 : Int32), .int 0, .int 0, .int 0, .int 0, .int 0, zr G 117, zr G 118, zr G 119, zr G 120, zr G 121, zr G 122, zr G 123, zr G 124, zr G 125, zr G 126, zr G 127, zr G 144, zr G 161, zr G 174, zr G 187, zr G 200, .int 0, .int 0, .int 0, zr G 213, zr G 374, zr G 535, zr G 548, zr G 561, zr G 565, zr G 566, zr G 567, zr G 568, zr G 569, zr G 570, zr G 571, .int 0, .int 0, .int 0, zr G 572, .int 0, .int 0, .int (-1 : Int32), .int 0, .int 0, zr G 576, .int 0, zr G 577, .int 0, .int 0, zr G 582, zr G 600, .null, .int 0, .int 0, .null]) (ty := tyX10 56) tyX10 tyX10_ok nmX10 rfl uw_10 56 (by decide) rfl rfl (tyX10_ok 56 (by decide)) rfl rfl (Nat.le_of_ble_eq_true rfl) rfl (Nat.le_of_ble_eq_true rfl) wF_X10_118 dX10_init_337 ?_
  refine b_aload_n F dX10_init_340 rfl 0 rfl ?_
  refine b_iconst (y := (3 : Int32)) F dX10_init_341 rfl ?_
  refine b_newa F (atype := .int) (ty := .int) (a0 := (3, (.inl (fun _ => 0)))) 0 rfl rfl (by intro C q; cases q) zac_int (fun _ => rfl) (by decide) (by decide) (Nat.le_of_ble_eq_true rfl) ⟨Nat.le_trans (Nat.le_of_ble_eq_true rfl) hcs.1, Nat.le_trans (Nat.le_of_ble_eq_true rfl) hcs.2⟩ dX10_init_342 ?_
  refine b_putF F hini (c := 10) (C := RX10) (T := TX10) (N := 60) (fs := [.int 0, .int 0, .int 0, .int (-1 : Int32), .int 0, .int 0, .int 0, .int 0, .int 0, zr G 117, zr G 118, zr G 119, zr G 120, zr G 121, zr G 122, zr G 123, zr G 124, zr G 125, zr G 126, zr G 127, zr G 144, zr G 161, zr G 174, zr G 187, zr G 200, .int 0, .int 0, .int 0, zr G 213, zr G 374, zr G 535, zr G 548, zr G 561, zr G 565, zr G 566, zr G 567, zr G 568, zr G 569, zr G 570, zr G 571, .int 0, .int 0, .int 0, zr G 572, .int 0, .int 0, .int (-1 : Int32), .int 0, .int 0, zr G 576, .int 0, zr G 577, .int 0, .int 0, zr G 582, zr G 600, zr G 601, .int 0, .int 0, .null]) (ty := tyX10 59) tyX10 tyX10_ok nmX10 rfl uw_10 59 (by decide) rfl rfl (tyX10_ok 59 (by decide)) rfl rfl (Nat.le_of_ble_eq_true rfl) rfl (Nat.le_of_ble_eq_true rfl) wF_X10_121 dX10_init_344 ?_
  refine b_aload_n F dX10_init_347 rfl 0 rfl ?_
  refine zB_J hN (v := zV0) (ceX10_all G) ?_
  refine z_callVv F [] [] (kX10_tellsNothing x.2.1 G 116 t0 zV0 v1 h1) mI_X10_tellsNothing (c := 10) rfl t0 wM_X10_124 mi_X10_tellsNothing sl_X10_tellsNothing dX10_init_348 rfl ⟨Nat.le_of_ble_eq_true rfl, Nat.le_of_ble_eq_true rfl⟩ rfl (Nat.le_of_ble_eq_true rfl) ⟨Nat.le_trans (Nat.le_of_ble_eq_true rfl) hcs.1, Nat.le_trans (Nat.le_of_ble_eq_true rfl) hcs.2⟩ ?_
  refine z_aload_n F dX10_init_351 rfl 0 rfl ?_
  refine z_callVv F [] [] (kX10_stands x.2.1 G 116 t0 v1 w h2) mI_X10_stands (c := 10) rfl t0 wM_X10_127 mi_X10_stands sl_X10_stands dX10_init_352 rfl ⟨Nat.le_of_ble_eq_true rfl, Nat.le_of_ble_eq_true rfl⟩ rfl (Nat.le_of_ble_eq_true rfl) ⟨Nat.le_trans (Nat.le_of_ble_eq_true rfl) hcs.1, Nat.le_trans (Nat.le_of_ble_eq_true rfl) hcs.2⟩ ?_
  refine z_ls [] [] rfl ?_
  exact b_retJ F hr hk dX10_init_355
end
