theorem dL_law__264 : decode cL_law_ 264 = .ok (.aload_n 1, 1) := by decide +kernel
theorem dL_law__265 : decode cL_law_ 265 = .ok (.aload_n 0, 1) := by decide +kernel
theorem dL_law__266 : decode cL_law_ 266 = .ok (.iload 4, 2) := by decide +kernel
theorem dL_law__268 : decode cL_law_ 268 = .ok (.iconst 1, 1) := by decide +kernel
theorem dL_law__269 : decode cL_law_ 269 = .ok (.iadd, 1) := by decide +kernel
theorem dL_law__270 : decode cL_law_ 270 = .ok (.iaload, 1) := by decide +kernel
theorem dL_law__271 : decode cL_law_ 271 = .ok (.aload_n 0, 1) := by decide +kernel
theorem dL_law__272 : decode cL_law_ 272 = .ok (.iload 4, 2) := by decide +kernel
theorem dL_law__274 : decode cL_law_ 274 = .ok (.iconst 2, 1) := by decide +kernel
theorem dL_law__275 : decode cL_law_ 275 = .ok (.iadd, 1) := by decide +kernel
theorem dL_law__276 : decode cL_law_ 276 = .ok (.iaload, 1) := by decide +kernel
theorem dL_law__277 : decode cL_law_ 277 = .ok (.aload_n 0, 1) := by decide +kernel
theorem dL_law__278 : decode cL_law_ 278 = .ok (.iload 4, 2) := by decide +kernel
theorem dL_law__280 : decode cL_law_ 280 = .ok (.iconst 3, 1) := by decide +kernel
theorem dL_law__281 : decode cL_law_ 281 = .ok (.iadd, 1) := by decide +kernel
theorem dL_law__282 : decode cL_law_ 282 = .ok (.iaload, 1) := by decide +kernel
theorem dL_law__283 : decode cL_law_ 283 = .ok (.aload_n 0, 1) := by decide +kernel
theorem dL_law__284 : decode cL_law_ 284 = .ok (.iload 4, 2) := by decide +kernel
theorem dL_law__286 : decode cL_law_ 286 = .ok (.iconst 4, 1) := by decide +kernel
theorem dL_law__287 : decode cL_law_ 287 = .ok (.iadd, 1) := by decide +kernel
theorem dL_law__288 : decode cL_law_ 288 = .ok (.iaload, 1) := by decide +kernel
theorem dL_law__289 : decode cL_law_ 289 = .ok (.aload_n 0, 1) := by decide +kernel
theorem dL_law__290 : decode cL_law_ 290 = .ok (.iload 4, 2) := by decide +kernel
theorem dL_law__292 : decode cL_law_ 292 = .ok (.iconst 5, 1) := by decide +kernel
theorem dL_law__293 : decode cL_law_ 293 = .ok (.iadd, 1) := by decide +kernel
theorem dL_law__294 : decode cL_law_ 294 = .ok (.iaload, 1) := by decide +kernel
theorem dL_law__295 : decode cL_law_ 295 = .ok (.invokevirtual 133, 3) := by decide +kernel
theorem dL_law__298 : decode cL_law_ 298 = .ok (.aload_n 2, 1) := by decide +kernel
theorem dL_law__299 : decode cL_law_ 299 = .ok (.aload_n 0, 1) := by decide +kernel
theorem dL_law__300 : decode cL_law_ 300 = .ok (.iload 4, 2) := by decide +kernel
theorem dL_law__302 : decode cL_law_ 302 = .ok (.iconst 1, 1) := by decide +kernel
theorem dL_law__303 : decode cL_law_ 303 = .ok (.iadd, 1) := by decide +kernel
theorem dL_law__304 : decode cL_law_ 304 = .ok (.iaload, 1) := by decide +kernel
theorem dL_law__305 : decode cL_law_ 305 = .ok (.aload_n 0, 1) := by decide +kernel
theorem dL_law__306 : decode cL_law_ 306 = .ok (.iload 4, 2) := by decide +kernel
theorem dL_law__308 : decode cL_law_ 308 = .ok (.iconst 2, 1) := by decide +kernel
theorem dL_law__309 : decode cL_law_ 309 = .ok (.iadd, 1) := by decide +kernel
theorem dL_law__310 : decode cL_law_ 310 = .ok (.iaload, 1) := by decide +kernel
theorem dL_law__311 : decode cL_law_ 311 = .ok (.aload_n 0, 1) := by decide +kernel
theorem dL_law__312 : decode cL_law_ 312 = .ok (.iload 4, 2) := by decide +kernel
theorem dL_law__314 : decode cL_law_ 314 = .ok (.iconst 3, 1) := by decide +kernel
theorem dL_law__315 : decode cL_law_ 315 = .ok (.iadd, 1) := by decide +kernel
theorem dL_law__316 : decode cL_law_ 316 = .ok (.iaload, 1) := by decide +kernel
theorem dL_law__317 : decode cL_law_ 317 = .ok (.aload_n 0, 1) := by decide +kernel
theorem dL_law__318 : decode cL_law_ 318 = .ok (.iload 4, 2) := by decide +kernel
theorem dL_law__320 : decode cL_law_ 320 = .ok (.iconst 4, 1) := by decide +kernel
theorem dL_law__321 : decode cL_law_ 321 = .ok (.iadd, 1) := by decide +kernel
theorem dL_law__322 : decode cL_law_ 322 = .ok (.iaload, 1) := by decide +kernel
theorem dL_law__323 : decode cL_law_ 323 = .ok (.aload_n 0, 1) := by decide +kernel
theorem dL_law__324 : decode cL_law_ 324 = .ok (.iload 4, 2) := by decide +kernel
theorem dL_law__326 : decode cL_law_ 326 = .ok (.iconst 5, 1) := by decide +kernel
theorem dL_law__327 : decode cL_law_ 327 = .ok (.iadd, 1) := by decide +kernel
theorem dL_law__328 : decode cL_law_ 328 = .ok (.iaload, 1) := by decide +kernel
theorem dL_law__329 : decode cL_law_ 329 = .ok (.invokevirtual 137, 3) := by decide +kernel
theorem dL_law__332 : decode cL_law_ 332 = .ok (.if_icmp .eq 2585, 3) := by decide +kernel
theorem dL_law__335 : decode cL_law_ 335 = .ok (.iconst 0, 1) := by decide +kernel
theorem dL_law__336 : decode cL_law_ 336 = .ok (.ireturn, 1) := by decide +kernel
def fLc_0 (p1 : Int32) (p2 : Int32) (p3 : Int32) (p4 : Int32) (p5 : Int32) (v : zV) : Option zV :=
  zbind (fX9_feed 0 p1 p2 p3 p4 p5 v) fun r_2 v_1 =>
  zbind (fX10_feed 116 p1 p2 p3 p4 p5 v_1) fun r_4 v_3 =>
  if r_2 = r_4 then
    some v_3
  else
    none
set_option maxRecDepth 8000 in
set_option maxHeartbeats 1000000 in
theorem jLc_0 {x : zCx} {G : zG} {fr lo b L : Nat} {xs : Nat → Int32} {Q : State → Prop} (F : zF x G cL_law_ 7 RL fr lo) (hfr : 400 ≤ fr ∧ 20000 ≤ lo) (hfl : x.2.1.stackTraces = false) (hX : va_X b L xs x.2.2.2.2.1 x.2.2.2.2.1.heap) (hbl : b < x.2.2.2.2.1.heap.size) (hbA : ¬ zA G b) (t0 : zty G 0 1 9) (t1 : zty G 116 1 10) (t3 : zty G 603 2 2) {j : Nat} (hj : j + 7 ≤ L) (hL : L < 2 ^ 31) {cs sl : Nat} (hcs : cs + 5 ≤ x.2.2.2.1.cells ∧ sl + 30 ≤ x.2.2.2.1.slots) (v w : zV) (h : fLc_0 (xs (j + 1)) (xs (j + 2)) (xs (j + 3)) (xs (j + 4)) (xs (j + 5)) v = some w) (kk : zJ x G 7 Q (cs + 5) (sl + 30) 2917 [(0, .ref b), (1, zr G 0), (2, zr G 116), (3, zr G 603), (4, .int (nI j))] [] w) : zJ x G 7 Q cs sl 264 [(0, .ref b), (1, zr G 0), (2, zr G 116), (3, zr G 603), (4, .int (nI j))] [] v := by
  obtain ⟨hfr1, hfr2⟩ := hfr
  obtain ⟨hcs1, hcs2⟩ := hcs
  unfold fLc_0 at h
  refine z_aload_n F dL_law__264 rfl 1 rfl ?_
  refine z_aload_n F dL_law__265 rfl 0 rfl ?_
  refine z_iload F dL_law__266 4 rfl ?_
  refine z_iconst (y := (1 : Int32)) F dL_law__268 rfl ?_
  refine z_iadd F dL_law__269 ?_
  refine z_sld F hX hbl hbA (nI_add j 1) (by omega) hL dL_law__270 ?_
  refine z_aload_n F dL_law__271 rfl 0 rfl ?_
  refine z_iload F dL_law__272 4 rfl ?_
  refine z_iconst (y := (2 : Int32)) F dL_law__274 rfl ?_
  refine z_iadd F dL_law__275 ?_
  refine z_sld F hX hbl hbA (nI_add j 2) (by omega) hL dL_law__276 ?_
  refine z_aload_n F dL_law__277 rfl 0 rfl ?_
  refine z_iload F dL_law__278 4 rfl ?_
  refine z_iconst (y := (3 : Int32)) F dL_law__280 rfl ?_
  refine z_iadd F dL_law__281 ?_
  refine z_sld F hX hbl hbA (nI_add j 3) (by omega) hL dL_law__282 ?_
  refine z_aload_n F dL_law__283 rfl 0 rfl ?_
  refine z_iload F dL_law__284 4 rfl ?_
  refine z_iconst (y := (4 : Int32)) F dL_law__286 rfl ?_
  refine z_iadd F dL_law__287 ?_
  refine z_sld F hX hbl hbA (nI_add j 4) (by omega) hL dL_law__288 ?_
  refine z_aload_n F dL_law__289 rfl 0 rfl ?_
  refine z_iload F dL_law__290 4 rfl ?_
  refine z_iconst (y := (5 : Int32)) F dL_law__292 rfl ?_
  refine z_iadd F dL_law__293 ?_
  refine z_sld F hX hbl hbA (nI_add j 5) (by omega) hL dL_law__294 ?_
  obtain ⟨r_2, v_1, hq295, h⟩ := zbind_ex h
  refine z_callVi F [.int (xs (j + 1)), .int (xs (j + 2)), .int (xs (j + 3)), .int (xs (j + 4)), .int (xs (j + 5))] [] (kX9_feed x.2.1 G 0 t0 (xs (j + 1)) (xs (j + 2)) (xs (j + 3)) (xs (j + 4)) (xs (j + 5)) v r_2 v_1 hq295) mI_X9_feed (c := 9) rfl t0 wM_L_133 mi_X9_feed sl_X9_feed dL_law__295 rfl ⟨by omega, by omega⟩ rfl (Nat.le_of_ble_eq_true rfl) ⟨by omega, by omega⟩ ?_
  refine z_aload_n F dL_law__298 rfl 2 rfl ?_
  refine z_aload_n F dL_law__299 rfl 0 rfl ?_
  refine z_iload F dL_law__300 4 rfl ?_
  refine z_iconst (y := (1 : Int32)) F dL_law__302 rfl ?_
  refine z_iadd F dL_law__303 ?_
  refine z_sld F hX hbl hbA (nI_add j 1) (by omega) hL dL_law__304 ?_
  refine z_aload_n F dL_law__305 rfl 0 rfl ?_
  refine z_iload F dL_law__306 4 rfl ?_
  refine z_iconst (y := (2 : Int32)) F dL_law__308 rfl ?_
  refine z_iadd F dL_law__309 ?_
  refine z_sld F hX hbl hbA (nI_add j 2) (by omega) hL dL_law__310 ?_
  refine z_aload_n F dL_law__311 rfl 0 rfl ?_
  refine z_iload F dL_law__312 4 rfl ?_
  refine z_iconst (y := (3 : Int32)) F dL_law__314 rfl ?_
  refine z_iadd F dL_law__315 ?_
  refine z_sld F hX hbl hbA (nI_add j 3) (by omega) hL dL_law__316 ?_
  refine z_aload_n F dL_law__317 rfl 0 rfl ?_
  refine z_iload F dL_law__318 4 rfl ?_
  refine z_iconst (y := (4 : Int32)) F dL_law__320 rfl ?_
  refine z_iadd F dL_law__321 ?_
  refine z_sld F hX hbl hbA (nI_add j 4) (by omega) hL dL_law__322 ?_
  refine z_aload_n F dL_law__323 rfl 0 rfl ?_
  refine z_iload F dL_law__324 4 rfl ?_
  refine z_iconst (y := (5 : Int32)) F dL_law__326 rfl ?_
  refine z_iadd F dL_law__327 ?_
  refine z_sld F hX hbl hbA (nI_add j 5) (by omega) hL dL_law__328 ?_
  obtain ⟨r_4, v_3, hq329, h⟩ := zbind_ex h
  refine z_callVi F [.int (xs (j + 1)), .int (xs (j + 2)), .int (xs (j + 3)), .int (xs (j + 4)), .int (xs (j + 5))] [.int r_2] (kX10_feed x.2.1 G 116 t1 (xs (j + 1)) (xs (j + 2)) (xs (j + 3)) (xs (j + 4)) (xs (j + 5)) v_1 r_4 v_3 hq329) mI_X10_feed (c := 10) rfl t1 wM_L_137 mi_X10_feed sl_X10_feed dL_law__329 rfl ⟨by omega, by omega⟩ rfl (Nat.le_of_ble_eq_true rfl) ⟨by omega, by omega⟩ ?_
  refine z_icmp_eq F 2917 dL_law__332 rfl (fun hc => ?_) (fun hc => ?_)
  · replace h := zif_t hc h
    cases h
    refine z_ls [(0, .ref b), (1, zr G 0), (2, zr G 116), (3, zr G 603), (4, .int (nI j))] [0, 1, 2, 3, 4] rfl ?_
    exact z_wide (cs' := cs + 5) (sl' := sl + 30) (by omega) (by omega) kk
  · replace h := zif_f hc h
    exact absurd h (by intro q; cases q)

theorem dL_law__337 : decode cL_law_ 337 = .ok (.aload_n 1, 1) := by decide +kernel
theorem dL_law__338 : decode cL_law_ 338 = .ok (.aload_n 0, 1) := by decide +kernel
theorem dL_law__339 : decode cL_law_ 339 = .ok (.iload 4, 2) := by decide +kernel
theorem dL_law__341 : decode cL_law_ 341 = .ok (.iconst 1, 1) := by decide +kernel
theorem dL_law__342 : decode cL_law_ 342 = .ok (.iadd, 1) := by decide +kernel
theorem dL_law__343 : decode cL_law_ 343 = .ok (.iaload, 1) := by decide +kernel
theorem dL_law__344 : decode cL_law_ 344 = .ok (.aload_n 3, 1) := by decide +kernel
theorem dL_law__345 : decode cL_law_ 345 = .ok (.invokestatic 138, 3) := by decide +kernel
theorem dL_law__348 : decode cL_law_ 348 = .ok (.istore 5, 2) := by decide +kernel
theorem dL_law__350 : decode cL_law_ 350 = .ok (.aload_n 2, 1) := by decide +kernel
theorem dL_law__351 : decode cL_law_ 351 = .ok (.aload_n 0, 1) := by decide +kernel
theorem dL_law__352 : decode cL_law_ 352 = .ok (.iload 4, 2) := by decide +kernel
theorem dL_law__354 : decode cL_law_ 354 = .ok (.iconst 1, 1) := by decide +kernel
theorem dL_law__355 : decode cL_law_ 355 = .ok (.iadd, 1) := by decide +kernel
theorem dL_law__356 : decode cL_law_ 356 = .ok (.iaload, 1) := by decide +kernel
theorem dL_law__357 : decode cL_law_ 357 = .ok (.invokevirtual 143, 3) := by decide +kernel
theorem dL_law__360 : decode cL_law_ 360 = .ok (.istore 6, 2) := by decide +kernel
theorem dL_law__362 : decode cL_law_ 362 = .ok (.aload_n 2, 1) := by decide +kernel
theorem dL_law__363 : decode cL_law_ 363 = .ok (.invokevirtual 144, 3) := by decide +kernel
theorem dL_law__366 : decode cL_law_ 366 = .ok (.iload 5, 2) := by decide +kernel
theorem dL_law__368 : decode cL_law_ 368 = .ok (.if_icmp .eq 5, 3) := by decide +kernel
theorem dL_law__371 : decode cL_law_ 371 = .ok (.iconst 0, 1) := by decide +kernel
theorem dL_law__372 : decode cL_law_ 372 = .ok (.ireturn, 1) := by decide +kernel
theorem dL_law__373 : decode cL_law_ 373 = .ok (.iload 5, 2) := by decide +kernel
theorem dL_law__375 : decode cL_law_ 375 = .ok (.ifCond .ne 15, 3) := by decide +kernel
theorem dL_law__378 : decode cL_law_ 378 = .ok (.aload_n 3, 1) := by decide +kernel
theorem dL_law__379 : decode cL_law_ 379 = .ok (.iconst 0, 1) := by decide +kernel
theorem dL_law__380 : decode cL_law_ 380 = .ok (.laload, 1) := by decide +kernel
theorem dL_law__381 : decode cL_law_ 381 = .ok (.iload 6, 2) := by decide +kernel
theorem dL_law__383 : decode cL_law_ 383 = .ok (.i2l, 1) := by decide +kernel
theorem dL_law__384 : decode cL_law_ 384 = .ok (.lcmp, 1) := by decide +kernel
theorem dL_law__385 : decode cL_law_ 385 = .ok (.ifCond .eq 5, 3) := by decide +kernel
theorem dL_law__388 : decode cL_law_ 388 = .ok (.iconst 0, 1) := by decide +kernel
theorem dL_law__389 : decode cL_law_ 389 = .ok (.ireturn, 1) := by decide +kernel
theorem dL_law__390 : decode cL_law_ 390 = .ok (.goto 2527, 3) := by decide +kernel
def fLc_1 (p1 : Int32) (v : zV) : Option zV :=
  zbind (fL_academy 0 p1 603 v) fun r_2 v_1 =>
  zbind (fX10_academy 116 p1 v_1) fun r_4 v_3 =>
  zbind (fX10_thrown 116 v_3) fun r_6 v_5 =>
  if r_6 = r_2 then
    if r_2 = (0 : Int32) then
      zix (0 : Int32) (zlen 603) <|
      if (lg_cmp ((v_5 603 (0 : Int32).toNatClampNeg).toInt64) ((r_4).toInt64)) = (0 : Int32) then
        some v_5
      else
        none
    else
      some v_5
  else
    none
set_option maxRecDepth 8000 in
set_option maxHeartbeats 1000000 in
theorem jLc_1 {x : zCx} {G : zG} {fr lo b L : Nat} {xs : Nat → Int32} {Q : State → Prop} (F : zF x G cL_law_ 7 RL fr lo) (hfr : 400 ≤ fr ∧ 20000 ≤ lo) (hfl : x.2.1.stackTraces = false) (hX : va_X b L xs x.2.2.2.2.1 x.2.2.2.2.1.heap) (hbl : b < x.2.2.2.2.1.heap.size) (hbA : ¬ zA G b) (t0 : zty G 0 1 9) (t1 : zty G 116 1 10) (t3 : zty G 603 2 2) {j : Nat} (hj : j + 7 ≤ L) (hL : L < 2 ^ 31) {cs sl : Nat} (hcs : cs + 5 ≤ x.2.2.2.1.cells ∧ sl + 30 ≤ x.2.2.2.1.slots) (v w : zV) (h : fLc_1 (xs (j + 1)) v = some w) (kk : zJ x G 7 Q (cs + 5) (sl + 30) 2917 [(0, .ref b), (1, zr G 0), (2, zr G 116), (3, zr G 603), (4, .int (nI j))] [] w) : zJ x G 7 Q cs sl 337 [(0, .ref b), (1, zr G 0), (2, zr G 116), (3, zr G 603), (4, .int (nI j))] [] v := by
  obtain ⟨hfr1, hfr2⟩ := hfr
  obtain ⟨hcs1, hcs2⟩ := hcs
  unfold fLc_1 at h
  refine z_aload_n F dL_law__337 rfl 1 rfl ?_
  refine z_aload_n F dL_law__338 rfl 0 rfl ?_
  refine z_iload F dL_law__339 4 rfl ?_
  refine z_iconst (y := (1 : Int32)) F dL_law__341 rfl ?_
  refine z_iadd F dL_law__342 ?_
  refine z_sld F hX hbl hbA (nI_add j 1) (by omega) hL dL_law__343 ?_
  refine z_aload_n F dL_law__344 rfl 3 rfl ?_
  obtain ⟨r_2, v_1, hq345, h⟩ := zbind_ex h
  refine z_callSW (n := 3) F [zr G 0, .int (xs (j + 1)), zr G 603] [] (kL_academy x.2.1 G 0 t0 (xs (j + 1)) 603 t3 v r_2 v_1 hfl hq345) kw_L_academy wM_L_138 ms_L_academy dL_law__345 rfl (by decide +kernel) ⟨by omega, by omega⟩ rfl (Nat.le_of_ble_eq_true rfl) ⟨by omega, by omega⟩ ?_
  refine z_istore (n := 0) F [(5, .int r_2), (0, .ref b), (1, zr G 0), (2, zr G 116), (3, zr G 603), (4, .int (nI j))] dL_law__348 (Nat.le_of_ble_eq_true rfl) rfl ?_
  refine z_aload_n F dL_law__350 rfl 3 rfl ?_
  refine z_aload_n F dL_law__351 rfl 1 rfl ?_
  refine z_iload F dL_law__352 5 rfl ?_
  refine z_iconst (y := (1 : Int32)) F dL_law__354 rfl ?_
  refine z_iadd F dL_law__355 ?_
  refine z_sld F hX hbl hbA (nI_add j 1) (by omega) hL dL_law__356 ?_
  obtain ⟨r_4, v_3, hq357, h⟩ := zbind_ex h
  refine z_callVi F [.int (xs (j + 1))] [] (kX10_academy x.2.1 G 116 t1 (xs (j + 1)) v_1 r_4 v_3 hq357) mI_X10_academy (c := 10) rfl t1 wM_L_143 mi_X10_academy sl_X10_academy dL_law__357 rfl ⟨by omega, by omega⟩ rfl (Nat.le_of_ble_eq_true rfl) ⟨by omega, by omega⟩ ?_
  refine z_istore (n := 0) F [(6, .int r_4), (5, .int r_2), (0, .ref b), (1, zr G 0), (2, zr G 116), (3, zr G 603), (4, .int (nI j))] dL_law__360 (Nat.le_of_ble_eq_true rfl) rfl ?_
  refine z_aload_n F dL_law__362 rfl 4 rfl ?_
  obtain ⟨r_6, v_5, hq363, h⟩ := zbind_ex h
  refine z_callVi F [] [] (kX10_thrown x.2.1 G 116 t1 v_3 r_6 v_5 hq363) mI_X10_thrown (c := 10) rfl t1 wM_L_144 mi_X10_thrown sl_X10_thrown dL_law__363 rfl ⟨by omega, by omega⟩ rfl (Nat.le_of_ble_eq_true rfl) ⟨by omega, by omega⟩ ?_
  refine z_iload F dL_law__366 1 rfl ?_
  refine z_icmp_eq F 373 dL_law__368 rfl (fun hc => ?_) (fun hc => ?_)
  · replace h := zif_t hc h
    refine z_iload F dL_law__373 1 rfl ?_
    refine z_if_ne F 390 dL_law__375 rfl (fun hc => ?_) (fun hc => ?_)
    · replace h := zif_f hc h
      refine z_goto F 2917 dL_law__390 rfl ?_
      cases h
      refine z_ls [(0, .ref b), (1, zr G 0), (2, zr G 116), (3, zr G 603), (4, .int (nI j))] [2, 3, 4, 5, 6] rfl ?_
      exact z_wide (cs' := cs + 5) (sl' := sl + 30) (by omega) (by omega) kk
    · replace h := zif_t hc h
      refine z_aload_n F dL_law__378 rfl 5 rfl ?_
      refine z_iconst (y := (0 : Int32)) F dL_law__379 rfl ?_
      obtain ⟨hi380, h⟩ := zix_ex h
      refine z_lald F t3 dL_law__380 hi380 ?_
      refine z_iload F dL_law__381 0 rfl ?_
      refine z_i2l F dL_law__383 ?_
      refine z_lcmp F dL_law__384 ?_
      refine z_if_eq F 390 dL_law__385 rfl (fun hc => ?_) (fun hc => ?_)
      · replace h := zif_t hc h
        refine z_goto F 2917 dL_law__390 rfl ?_
        cases h
        refine z_ls [(0, .ref b), (1, zr G 0), (2, zr G 116), (3, zr G 603), (4, .int (nI j))] [2, 3, 4, 5, 6] rfl ?_
        exact z_wide (cs' := cs + 5) (sl' := sl + 30) (by omega) (by omega) kk
      · replace h := zif_f hc h
        exact absurd h (by intro q; cases q)
  · replace h := zif_f hc h
    exact absurd h (by intro q; cases q)

theorem dL_law__393 : decode cL_law_ 393 = .ok (.aload_n 1, 1) := by decide +kernel
theorem dL_law__394 : decode cL_law_ 394 = .ok (.aload_n 0, 1) := by decide +kernel
theorem dL_law__395 : decode cL_law_ 395 = .ok (.iload 4, 2) := by decide +kernel
theorem dL_law__397 : decode cL_law_ 397 = .ok (.iconst 1, 1) := by decide +kernel
theorem dL_law__398 : decode cL_law_ 398 = .ok (.iadd, 1) := by decide +kernel
theorem dL_law__399 : decode cL_law_ 399 = .ok (.iaload, 1) := by decide +kernel
theorem dL_law__400 : decode cL_law_ 400 = .ok (.aload_n 3, 1) := by decide +kernel
theorem dL_law__401 : decode cL_law_ 401 = .ok (.invokestatic 148, 3) := by decide +kernel
theorem dL_law__404 : decode cL_law_ 404 = .ok (.istore 5, 2) := by decide +kernel
theorem dL_law__406 : decode cL_law_ 406 = .ok (.aload_n 2, 1) := by decide +kernel
theorem dL_law__407 : decode cL_law_ 407 = .ok (.aload_n 0, 1) := by decide +kernel
theorem dL_law__408 : decode cL_law_ 408 = .ok (.iload 4, 2) := by decide +kernel
theorem dL_law__410 : decode cL_law_ 410 = .ok (.iconst 1, 1) := by decide +kernel
theorem dL_law__411 : decode cL_law_ 411 = .ok (.iadd, 1) := by decide +kernel
theorem dL_law__412 : decode cL_law_ 412 = .ok (.iaload, 1) := by decide +kernel
theorem dL_law__413 : decode cL_law_ 413 = .ok (.invokevirtual 150, 3) := by decide +kernel
theorem dL_law__416 : decode cL_law_ 416 = .ok (.istore 6, 2) := by decide +kernel
theorem dL_law__418 : decode cL_law_ 418 = .ok (.aload_n 2, 1) := by decide +kernel
theorem dL_law__419 : decode cL_law_ 419 = .ok (.invokevirtual 144, 3) := by decide +kernel
theorem dL_law__422 : decode cL_law_ 422 = .ok (.iload 5, 2) := by decide +kernel
theorem dL_law__424 : decode cL_law_ 424 = .ok (.if_icmp .eq 5, 3) := by decide +kernel
theorem dL_law__427 : decode cL_law_ 427 = .ok (.iconst 0, 1) := by decide +kernel
theorem dL_law__428 : decode cL_law_ 428 = .ok (.ireturn, 1) := by decide +kernel
theorem dL_law__429 : decode cL_law_ 429 = .ok (.iload 5, 2) := by decide +kernel
theorem dL_law__431 : decode cL_law_ 431 = .ok (.ifCond .ne 15, 3) := by decide +kernel
theorem dL_law__434 : decode cL_law_ 434 = .ok (.aload_n 3, 1) := by decide +kernel
theorem dL_law__435 : decode cL_law_ 435 = .ok (.iconst 0, 1) := by decide +kernel
theorem dL_law__436 : decode cL_law_ 436 = .ok (.laload, 1) := by decide +kernel
theorem dL_law__437 : decode cL_law_ 437 = .ok (.iload 6, 2) := by decide +kernel
theorem dL_law__439 : decode cL_law_ 439 = .ok (.i2l, 1) := by decide +kernel
theorem dL_law__440 : decode cL_law_ 440 = .ok (.lcmp, 1) := by decide +kernel
theorem dL_law__441 : decode cL_law_ 441 = .ok (.ifCond .eq 5, 3) := by decide +kernel
theorem dL_law__444 : decode cL_law_ 444 = .ok (.iconst 0, 1) := by decide +kernel
theorem dL_law__445 : decode cL_law_ 445 = .ok (.ireturn, 1) := by decide +kernel
theorem dL_law__446 : decode cL_law_ 446 = .ok (.goto 2471, 3) := by decide +kernel
def fLc_2 (p1 : Int32) (v : zV) : Option zV :=
  zbind (fL_law 0 p1 603 v) fun r_2 v_1 =>
  zbind (fX10_law 116 p1 v_1) fun r_4 v_3 =>
  zbind (fX10_thrown 116 v_3) fun r_6 v_5 =>
  if r_6 = r_2 then
    if r_2 = (0 : Int32) then
      zix (0 : Int32) (zlen 603) <|
      if (lg_cmp ((v_5 603 (0 : Int32).toNatClampNeg).toInt64) ((r_4).toInt64)) = (0 : Int32) then
        some v_5
      else
        none
    else
      some v_5
  else
    none
set_option maxRecDepth 8000 in
set_option maxHeartbeats 1000000 in
theorem jLc_2 {x : zCx} {G : zG} {fr lo b L : Nat} {xs : Nat → Int32} {Q : State → Prop} (F : zF x G cL_law_ 7 RL fr lo) (hfr : 400 ≤ fr ∧ 20000 ≤ lo) (hfl : x.2.1.stackTraces = false) (hX : va_X b L xs x.2.2.2.2.1 x.2.2.2.2.1.heap) (hbl : b < x.2.2.2.2.1.heap.size) (hbA : ¬ zA G b) (t0 : zty G 0 1 9) (t1 : zty G 116 1 10) (t3 : zty G 603 2 2) {j : Nat} (hj : j + 7 ≤ L) (hL : L < 2 ^ 31) {cs sl : Nat} (hcs : cs + 5 ≤ x.2.2.2.1.cells ∧ sl + 30 ≤ x.2.2.2.1.slots) (v w : zV) (h : fLc_2 (xs (j + 1)) v = some w) (kk : zJ x G 7 Q (cs + 5) (sl + 30) 2917 [(0, .ref b), (1, zr G 0), (2, zr G 116), (3, zr G 603), (4, .int (nI j))] [] w) : zJ x G 7 Q cs sl 393 [(0, .ref b), (1, zr G 0), (2, zr G 116), (3, zr G 603), (4, .int (nI j))] [] v := by
  obtain ⟨hfr1, hfr2⟩ := hfr
  obtain ⟨hcs1, hcs2⟩ := hcs
  unfold fLc_2 at h
  refine z_aload_n F dL_law__393 rfl 1 rfl ?_
  refine z_aload_n F dL_law__394 rfl 0 rfl ?_
  refine z_iload F dL_law__395 4 rfl ?_
  refine z_iconst (y := (1 : Int32)) F dL_law__397 rfl ?_
  refine z_iadd F dL_law__398 ?_
  refine z_sld F hX hbl hbA (nI_add j 1) (by omega) hL dL_law__399 ?_
  refine z_aload_n F dL_law__400 rfl 3 rfl ?_
  obtain ⟨r_2, v_1, hq401, h⟩ := zbind_ex h
  refine z_callSW (n := 3) F [zr G 0, .int (xs (j + 1)), zr G 603] [] (kL_law x.2.1 G 0 t0 (xs (j + 1)) 603 t3 v r_2 v_1 hfl hq401) kw_L_law wM_L_148 ms_L_law dL_law__401 rfl (by decide +kernel) ⟨by omega, by omega⟩ rfl (Nat.le_of_ble_eq_true rfl) ⟨by omega, by omega⟩ ?_
  refine z_istore (n := 0) F [(5, .int r_2), (0, .ref b), (1, zr G 0), (2, zr G 116), (3, zr G 603), (4, .int (nI j))] dL_law__404 (Nat.le_of_ble_eq_true rfl) rfl ?_
  refine z_aload_n F dL_law__406 rfl 3 rfl ?_
  refine z_aload_n F dL_law__407 rfl 1 rfl ?_
  refine z_iload F dL_law__408 5 rfl ?_
  refine z_iconst (y := (1 : Int32)) F dL_law__410 rfl ?_
  refine z_iadd F dL_law__411 ?_
  refine z_sld F hX hbl hbA (nI_add j 1) (by omega) hL dL_law__412 ?_
  obtain ⟨r_4, v_3, hq413, h⟩ := zbind_ex h
  refine z_callVi F [.int (xs (j + 1))] [] (kX10_law x.2.1 G 116 t1 (xs (j + 1)) v_1 r_4 v_3 hq413) mI_X10_law (c := 10) rfl t1 wM_L_150 mi_X10_law sl_X10_law dL_law__413 rfl ⟨by omega, by omega⟩ rfl (Nat.le_of_ble_eq_true rfl) ⟨by omega, by omega⟩ ?_
  refine z_istore (n := 0) F [(6, .int r_4), (5, .int r_2), (0, .ref b), (1, zr G 0), (2, zr G 116), (3, zr G 603), (4, .int (nI j))] dL_law__416 (Nat.le_of_ble_eq_true rfl) rfl ?_
  refine z_aload_n F dL_law__418 rfl 4 rfl ?_
  obtain ⟨r_6, v_5, hq419, h⟩ := zbind_ex h
  refine z_callVi F [] [] (kX10_thrown x.2.1 G 116 t1 v_3 r_6 v_5 hq419) mI_X10_thrown (c := 10) rfl t1 wM_L_144 mi_X10_thrown sl_X10_thrown dL_law__419 rfl ⟨by omega, by omega⟩ rfl (Nat.le_of_ble_eq_true rfl) ⟨by omega, by omega⟩ ?_
  refine z_iload F dL_law__422 1 rfl ?_
  refine z_icmp_eq F 429 dL_law__424 rfl (fun hc => ?_) (fun hc => ?_)
  · replace h := zif_t hc h
    refine z_iload F dL_law__429 1 rfl ?_
    refine z_if_ne F 446 dL_law__431 rfl (fun hc => ?_) (fun hc => ?_)
    · replace h := zif_f hc h
      refine z_goto F 2917 dL_law__446 rfl ?_
      cases h
      refine z_ls [(0, .ref b), (1, zr G 0), (2, zr G 116), (3, zr G 603), (4, .int (nI j))] [2, 3, 4, 5, 6] rfl ?_
      exact z_wide (cs' := cs + 5) (sl' := sl + 30) (by omega) (by omega) kk
    · replace h := zif_t hc h
      refine z_aload_n F dL_law__434 rfl 5 rfl ?_
      refine z_iconst (y := (0 : Int32)) F dL_law__435 rfl ?_
      obtain ⟨hi436, h⟩ := zix_ex h
      refine z_lald F t3 dL_law__436 hi436 ?_
      refine z_iload F dL_law__437 0 rfl ?_
      refine z_i2l F dL_law__439 ?_
      refine z_lcmp F dL_law__440 ?_
      refine z_if_eq F 446 dL_law__441 rfl (fun hc => ?_) (fun hc => ?_)
      · replace h := zif_t hc h
        refine z_goto F 2917 dL_law__446 rfl ?_
        cases h
        refine z_ls [(0, .ref b), (1, zr G 0), (2, zr G 116), (3, zr G 603), (4, .int (nI j))] [2, 3, 4, 5, 6] rfl ?_
        exact z_wide (cs' := cs + 5) (sl' := sl + 30) (by omega) (by omega) kk
      · replace h := zif_f hc h
        exact absurd h (by intro q; cases q)
  · replace h := zif_f hc h
    exact absurd h (by intro q; cases q)

theorem dL_law__449 : decode cL_law_ 449 = .ok (.aload_n 1, 1) := by decide +kernel
theorem dL_law__450 : decode cL_law_ 450 = .ok (.aload_n 0, 1) := by decide +kernel
theorem dL_law__451 : decode cL_law_ 451 = .ok (.iload 4, 2) := by decide +kernel
theorem dL_law__453 : decode cL_law_ 453 = .ok (.iconst 1, 1) := by decide +kernel
theorem dL_law__454 : decode cL_law_ 454 = .ok (.iadd, 1) := by decide +kernel
theorem dL_law__455 : decode cL_law_ 455 = .ok (.iaload, 1) := by decide +kernel
theorem dL_law__456 : decode cL_law_ 456 = .ok (.aload_n 3, 1) := by decide +kernel
theorem dL_law__457 : decode cL_law_ 457 = .ok (.invokestatic 151, 3) := by decide +kernel
theorem dL_law__460 : decode cL_law_ 460 = .ok (.istore 5, 2) := by decide +kernel
theorem dL_law__462 : decode cL_law_ 462 = .ok (.aload_n 2, 1) := by decide +kernel
theorem dL_law__463 : decode cL_law_ 463 = .ok (.aload_n 0, 1) := by decide +kernel
theorem dL_law__464 : decode cL_law_ 464 = .ok (.iload 4, 2) := by decide +kernel
theorem dL_law__466 : decode cL_law_ 466 = .ok (.iconst 1, 1) := by decide +kernel
theorem dL_law__467 : decode cL_law_ 467 = .ok (.iadd, 1) := by decide +kernel
theorem dL_law__468 : decode cL_law_ 468 = .ok (.iaload, 1) := by decide +kernel
theorem dL_law__469 : decode cL_law_ 469 = .ok (.invokevirtual 153, 3) := by decide +kernel
theorem dL_law__472 : decode cL_law_ 472 = .ok (.istore 6, 2) := by decide +kernel
theorem dL_law__474 : decode cL_law_ 474 = .ok (.aload_n 2, 1) := by decide +kernel
theorem dL_law__475 : decode cL_law_ 475 = .ok (.invokevirtual 144, 3) := by decide +kernel
theorem dL_law__478 : decode cL_law_ 478 = .ok (.iload 5, 2) := by decide +kernel
theorem dL_law__480 : decode cL_law_ 480 = .ok (.if_icmp .eq 5, 3) := by decide +kernel
theorem dL_law__483 : decode cL_law_ 483 = .ok (.iconst 0, 1) := by decide +kernel
theorem dL_law__484 : decode cL_law_ 484 = .ok (.ireturn, 1) := by decide +kernel
theorem dL_law__485 : decode cL_law_ 485 = .ok (.iload 5, 2) := by decide +kernel
theorem dL_law__487 : decode cL_law_ 487 = .ok (.ifCond .ne 15, 3) := by decide +kernel
theorem dL_law__490 : decode cL_law_ 490 = .ok (.aload_n 3, 1) := by decide +kernel
theorem dL_law__491 : decode cL_law_ 491 = .ok (.iconst 0, 1) := by decide +kernel
theorem dL_law__492 : decode cL_law_ 492 = .ok (.laload, 1) := by decide +kernel
theorem dL_law__493 : decode cL_law_ 493 = .ok (.iload 6, 2) := by decide +kernel
theorem dL_law__495 : decode cL_law_ 495 = .ok (.i2l, 1) := by decide +kernel
theorem dL_law__496 : decode cL_law_ 496 = .ok (.lcmp, 1) := by decide +kernel
theorem dL_law__497 : decode cL_law_ 497 = .ok (.ifCond .eq 5, 3) := by decide +kernel
theorem dL_law__500 : decode cL_law_ 500 = .ok (.iconst 0, 1) := by decide +kernel
theorem dL_law__501 : decode cL_law_ 501 = .ok (.ireturn, 1) := by decide +kernel
theorem dL_law__502 : decode cL_law_ 502 = .ok (.goto 2415, 3) := by decide +kernel
def fLc_3 (p1 : Int32) (v : zV) : Option zV :=
  zbind (fL_book 0 p1 603 v) fun r_2 v_1 =>
  zbind (fX10_book 116 p1 v_1) fun r_4 v_3 =>
  zbind (fX10_thrown 116 v_3) fun r_6 v_5 =>
  if r_6 = r_2 then
    if r_2 = (0 : Int32) then
      zix (0 : Int32) (zlen 603) <|
      if (lg_cmp ((v_5 603 (0 : Int32).toNatClampNeg).toInt64) ((r_4).toInt64)) = (0 : Int32) then
        some v_5
      else
        none
    else
      some v_5
  else
    none
set_option maxRecDepth 8000 in
set_option maxHeartbeats 1000000 in
theorem jLc_3 {x : zCx} {G : zG} {fr lo b L : Nat} {xs : Nat → Int32} {Q : State → Prop} (F : zF x G cL_law_ 7 RL fr lo) (hfr : 400 ≤ fr ∧ 20000 ≤ lo) (hfl : x.2.1.stackTraces = false) (hX : va_X b L xs x.2.2.2.2.1 x.2.2.2.2.1.heap) (hbl : b < x.2.2.2.2.1.heap.size) (hbA : ¬ zA G b) (t0 : zty G 0 1 9) (t1 : zty G 116 1 10) (t3 : zty G 603 2 2) {j : Nat} (hj : j + 7 ≤ L) (hL : L < 2 ^ 31) {cs sl : Nat} (hcs : cs + 5 ≤ x.2.2.2.1.cells ∧ sl + 30 ≤ x.2.2.2.1.slots) (v w : zV) (h : fLc_3 (xs (j + 1)) v = some w) (kk : zJ x G 7 Q (cs + 5) (sl + 30) 2917 [(0, .ref b), (1, zr G 0), (2, zr G 116), (3, zr G 603), (4, .int (nI j))] [] w) : zJ x G 7 Q cs sl 449 [(0, .ref b), (1, zr G 0), (2, zr G 116), (3, zr G 603), (4, .int (nI j))] [] v := by
  obtain ⟨hfr1, hfr2⟩ := hfr
  obtain ⟨hcs1, hcs2⟩ := hcs
  unfold fLc_3 at h
  refine z_aload_n F dL_law__449 rfl 1 rfl ?_
  refine z_aload_n F dL_law__450 rfl 0 rfl ?_
  refine z_iload F dL_law__451 4 rfl ?_
  refine z_iconst (y := (1 : Int32)) F dL_law__453 rfl ?_
  refine z_iadd F dL_law__454 ?_
  refine z_sld F hX hbl hbA (nI_add j 1) (by omega) hL dL_law__455 ?_
  refine z_aload_n F dL_law__456 rfl 3 rfl ?_
  obtain ⟨r_2, v_1, hq457, h⟩ := zbind_ex h
  refine z_callSW (n := 3) F [zr G 0, .int (xs (j + 1)), zr G 603] [] (kL_book x.2.1 G 0 t0 (xs (j + 1)) 603 t3 v r_2 v_1 hfl hq457) kw_L_book wM_L_151 ms_L_book dL_law__457 rfl (by decide +kernel) ⟨by omega, by omega⟩ rfl (Nat.le_of_ble_eq_true rfl) ⟨by omega, by omega⟩ ?_
  refine z_istore (n := 0) F [(5, .int r_2), (0, .ref b), (1, zr G 0), (2, zr G 116), (3, zr G 603), (4, .int (nI j))] dL_law__460 (Nat.le_of_ble_eq_true rfl) rfl ?_
  refine z_aload_n F dL_law__462 rfl 3 rfl ?_
  refine z_aload_n F dL_law__463 rfl 1 rfl ?_
  refine z_iload F dL_law__464 5 rfl ?_
  refine z_iconst (y := (1 : Int32)) F dL_law__466 rfl ?_
  refine z_iadd F dL_law__467 ?_
  refine z_sld F hX hbl hbA (nI_add j 1) (by omega) hL dL_law__468 ?_
  obtain ⟨r_4, v_3, hq469, h⟩ := zbind_ex h
  refine z_callVi F [.int (xs (j + 1))] [] (kX10_book x.2.1 G 116 t1 (xs (j + 1)) v_1 r_4 v_3 hq469) mI_X10_book (c := 10) rfl t1 wM_L_153 mi_X10_book sl_X10_book dL_law__469 rfl ⟨by omega, by omega⟩ rfl (Nat.le_of_ble_eq_true rfl) ⟨by omega, by omega⟩ ?_
  refine z_istore (n := 0) F [(6, .int r_4), (5, .int r_2), (0, .ref b), (1, zr G 0), (2, zr G 116), (3, zr G 603), (4, .int (nI j))] dL_law__472 (Nat.le_of_ble_eq_true rfl) rfl ?_
  refine z_aload_n F dL_law__474 rfl 4 rfl ?_
  obtain ⟨r_6, v_5, hq475, h⟩ := zbind_ex h
  refine z_callVi F [] [] (kX10_thrown x.2.1 G 116 t1 v_3 r_6 v_5 hq475) mI_X10_thrown (c := 10) rfl t1 wM_L_144 mi_X10_thrown sl_X10_thrown dL_law__475 rfl ⟨by omega, by omega⟩ rfl (Nat.le_of_ble_eq_true rfl) ⟨by omega, by omega⟩ ?_
  refine z_iload F dL_law__478 1 rfl ?_
  refine z_icmp_eq F 485 dL_law__480 rfl (fun hc => ?_) (fun hc => ?_)
  · replace h := zif_t hc h
    refine z_iload F dL_law__485 1 rfl ?_
    refine z_if_ne F 502 dL_law__487 rfl (fun hc => ?_) (fun hc => ?_)
    · replace h := zif_f hc h
      refine z_goto F 2917 dL_law__502 rfl ?_
      cases h
      refine z_ls [(0, .ref b), (1, zr G 0), (2, zr G 116), (3, zr G 603), (4, .int (nI j))] [2, 3, 4, 5, 6] rfl ?_
      exact z_wide (cs' := cs + 5) (sl' := sl + 30) (by omega) (by omega) kk
    · replace h := zif_t hc h
      refine z_aload_n F dL_law__490 rfl 5 rfl ?_
      refine z_iconst (y := (0 : Int32)) F dL_law__491 rfl ?_
      obtain ⟨hi492, h⟩ := zix_ex h
      refine z_lald F t3 dL_law__492 hi492 ?_
      refine z_iload F dL_law__493 0 rfl ?_
      refine z_i2l F dL_law__495 ?_
      refine z_lcmp F dL_law__496 ?_
      refine z_if_eq F 502 dL_law__497 rfl (fun hc => ?_) (fun hc => ?_)
      · replace h := zif_t hc h
        refine z_goto F 2917 dL_law__502 rfl ?_
        cases h
        refine z_ls [(0, .ref b), (1, zr G 0), (2, zr G 116), (3, zr G 603), (4, .int (nI j))] [2, 3, 4, 5, 6] rfl ?_
        exact z_wide (cs' := cs + 5) (sl' := sl + 30) (by omega) (by omega) kk
      · replace h := zif_f hc h
        exact absurd h (by intro q; cases q)
  · replace h := zif_f hc h
    exact absurd h (by intro q; cases q)

theorem dL_law__505 : decode cL_law_ 505 = .ok (.aload_n 1, 1) := by decide +kernel
theorem dL_law__506 : decode cL_law_ 506 = .ok (.invokevirtual 154, 3) := by decide +kernel
theorem dL_law__509 : decode cL_law_ 509 = .ok (.aload_n 2, 1) := by decide +kernel
theorem dL_law__510 : decode cL_law_ 510 = .ok (.invokevirtual 157, 3) := by decide +kernel
theorem dL_law__513 : decode cL_law_ 513 = .ok (.if_icmp .eq 2404, 3) := by decide +kernel
theorem dL_law__516 : decode cL_law_ 516 = .ok (.iconst 0, 1) := by decide +kernel
theorem dL_law__517 : decode cL_law_ 517 = .ok (.ireturn, 1) := by decide +kernel
def fLc_4 (v : zV) : Option zV :=
  zbind (fX9_fault 0 v) fun r_2 v_1 =>
  zbind (fX10_fault 116 v_1) fun r_4 v_3 =>
  if r_2 = r_4 then
    some v_3
  else
    none
set_option maxRecDepth 8000 in
set_option maxHeartbeats 1000000 in
theorem jLc_4 {x : zCx} {G : zG} {fr lo b L : Nat} {xs : Nat → Int32} {Q : State → Prop} (F : zF x G cL_law_ 7 RL fr lo) (hfr : 400 ≤ fr ∧ 20000 ≤ lo) (hfl : x.2.1.stackTraces = false) (hX : va_X b L xs x.2.2.2.2.1 x.2.2.2.2.1.heap) (hbl : b < x.2.2.2.2.1.heap.size) (hbA : ¬ zA G b) (t0 : zty G 0 1 9) (t1 : zty G 116 1 10) (t3 : zty G 603 2 2) {j : Nat} (hj : j + 7 ≤ L) (hL : L < 2 ^ 31) {cs sl : Nat} (hcs : cs + 5 ≤ x.2.2.2.1.cells ∧ sl + 30 ≤ x.2.2.2.1.slots) (v w : zV) (h : fLc_4 v = some w) (kk : zJ x G 7 Q (cs + 5) (sl + 30) 2917 [(0, .ref b), (1, zr G 0), (2, zr G 116), (3, zr G 603), (4, .int (nI j))] [] w) : zJ x G 7 Q cs sl 505 [(0, .ref b), (1, zr G 0), (2, zr G 116), (3, zr G 603), (4, .int (nI j))] [] v := by
  obtain ⟨hfr1, hfr2⟩ := hfr
  obtain ⟨hcs1, hcs2⟩ := hcs
  unfold fLc_4 at h
  refine z_aload_n F dL_law__505 rfl 1 rfl ?_
  obtain ⟨r_2, v_1, hq506, h⟩ := zbind_ex h
  refine z_callVi F [] [] (kX9_fault x.2.1 G 0 t0 v r_2 v_1 hq506) mI_X9_fault (c := 9) rfl t0 wM_L_154 mi_X9_fault sl_X9_fault dL_law__506 rfl ⟨by omega, by omega⟩ rfl (Nat.le_of_ble_eq_true rfl) ⟨by omega, by omega⟩ ?_
  refine z_aload_n F dL_law__509 rfl 2 rfl ?_
  obtain ⟨r_4, v_3, hq510, h⟩ := zbind_ex h
  refine z_callVi F [] [.int r_2] (kX10_fault x.2.1 G 116 t1 v_1 r_4 v_3 hq510) mI_X10_fault (c := 10) rfl t1 wM_L_157 mi_X10_fault sl_X10_fault dL_law__510 rfl ⟨by omega, by omega⟩ rfl (Nat.le_of_ble_eq_true rfl) ⟨by omega, by omega⟩ ?_
  refine z_icmp_eq F 2917 dL_law__513 rfl (fun hc => ?_) (fun hc => ?_)
  · replace h := zif_t hc h
    cases h
    refine z_ls [(0, .ref b), (1, zr G 0), (2, zr G 116), (3, zr G 603), (4, .int (nI j))] [0, 1, 2, 3, 4] rfl ?_
    exact z_wide (cs' := cs + 5) (sl' := sl + 30) (by omega) (by omega) kk
  · replace h := zif_f hc h
    exact absurd h (by intro q; cases q)

theorem dL_law__518 : decode cL_law_ 518 = .ok (.aload_n 1, 1) := by decide +kernel
theorem dL_law__519 : decode cL_law_ 519 = .ok (.aload_n 0, 1) := by decide +kernel
theorem dL_law__520 : decode cL_law_ 520 = .ok (.iload 4, 2) := by decide +kernel
theorem dL_law__522 : decode cL_law_ 522 = .ok (.iconst 1, 1) := by decide +kernel
theorem dL_law__523 : decode cL_law_ 523 = .ok (.iadd, 1) := by decide +kernel
theorem dL_law__524 : decode cL_law_ 524 = .ok (.iaload, 1) := by decide +kernel
theorem dL_law__525 : decode cL_law_ 525 = .ok (.aload_n 3, 1) := by decide +kernel
theorem dL_law__526 : decode cL_law_ 526 = .ok (.invokestatic 158, 3) := by decide +kernel
theorem dL_law__529 : decode cL_law_ 529 = .ok (.istore 5, 2) := by decide +kernel
theorem dL_law__531 : decode cL_law_ 531 = .ok (.aload_n 2, 1) := by decide +kernel
theorem dL_law__532 : decode cL_law_ 532 = .ok (.aload_n 0, 1) := by decide +kernel
theorem dL_law__533 : decode cL_law_ 533 = .ok (.iload 4, 2) := by decide +kernel
theorem dL_law__535 : decode cL_law_ 535 = .ok (.iconst 1, 1) := by decide +kernel
theorem dL_law__536 : decode cL_law_ 536 = .ok (.iadd, 1) := by decide +kernel
theorem dL_law__537 : decode cL_law_ 537 = .ok (.iaload, 1) := by decide +kernel
theorem dL_law__538 : decode cL_law_ 538 = .ok (.invokevirtual 160, 3) := by decide +kernel
theorem dL_law__541 : decode cL_law_ 541 = .ok (.istore 6, 2) := by decide +kernel
theorem dL_law__543 : decode cL_law_ 543 = .ok (.aload_n 2, 1) := by decide +kernel
theorem dL_law__544 : decode cL_law_ 544 = .ok (.invokevirtual 144, 3) := by decide +kernel
theorem dL_law__547 : decode cL_law_ 547 = .ok (.iload 5, 2) := by decide +kernel
theorem dL_law__549 : decode cL_law_ 549 = .ok (.if_icmp .eq 5, 3) := by decide +kernel
theorem dL_law__552 : decode cL_law_ 552 = .ok (.iconst 0, 1) := by decide +kernel
theorem dL_law__553 : decode cL_law_ 553 = .ok (.ireturn, 1) := by decide +kernel
theorem dL_law__554 : decode cL_law_ 554 = .ok (.iload 5, 2) := by decide +kernel
theorem dL_law__556 : decode cL_law_ 556 = .ok (.ifCond .ne 15, 3) := by decide +kernel
theorem dL_law__559 : decode cL_law_ 559 = .ok (.aload_n 3, 1) := by decide +kernel
theorem dL_law__560 : decode cL_law_ 560 = .ok (.iconst 0, 1) := by decide +kernel
theorem dL_law__561 : decode cL_law_ 561 = .ok (.laload, 1) := by decide +kernel
theorem dL_law__562 : decode cL_law_ 562 = .ok (.iload 6, 2) := by decide +kernel
theorem dL_law__564 : decode cL_law_ 564 = .ok (.i2l, 1) := by decide +kernel
theorem dL_law__565 : decode cL_law_ 565 = .ok (.lcmp, 1) := by decide +kernel
theorem dL_law__566 : decode cL_law_ 566 = .ok (.ifCond .eq 5, 3) := by decide +kernel
theorem dL_law__569 : decode cL_law_ 569 = .ok (.iconst 0, 1) := by decide +kernel
theorem dL_law__570 : decode cL_law_ 570 = .ok (.ireturn, 1) := by decide +kernel
theorem dL_law__571 : decode cL_law_ 571 = .ok (.goto 2346, 3) := by decide +kernel
def fLc_5 (p1 : Int32) (v : zV) : Option zV :=
  zbind (fL_told 0 p1 603 v) fun r_2 v_1 =>
  zbind (fX10_told 116 p1 v_1) fun r_4 v_3 =>
  zbind (fX10_thrown 116 v_3) fun r_6 v_5 =>
  if r_6 = r_2 then
    if r_2 = (0 : Int32) then
      zix (0 : Int32) (zlen 603) <|
      if (lg_cmp ((v_5 603 (0 : Int32).toNatClampNeg).toInt64) ((r_4).toInt64)) = (0 : Int32) then
        some v_5
      else
        none
    else
      some v_5
  else
    none
set_option maxRecDepth 8000 in
set_option maxHeartbeats 1000000 in
theorem jLc_5 {x : zCx} {G : zG} {fr lo b L : Nat} {xs : Nat → Int32} {Q : State → Prop} (F : zF x G cL_law_ 7 RL fr lo) (hfr : 400 ≤ fr ∧ 20000 ≤ lo) (hfl : x.2.1.stackTraces = false) (hX : va_X b L xs x.2.2.2.2.1 x.2.2.2.2.1.heap) (hbl : b < x.2.2.2.2.1.heap.size) (hbA : ¬ zA G b) (t0 : zty G 0 1 9) (t1 : zty G 116 1 10) (t3 : zty G 603 2 2) {j : Nat} (hj : j + 7 ≤ L) (hL : L < 2 ^ 31) {cs sl : Nat} (hcs : cs + 5 ≤ x.2.2.2.1.cells ∧ sl + 30 ≤ x.2.2.2.1.slots) (v w : zV) (h : fLc_5 (xs (j + 1)) v = some w) (kk : zJ x G 7 Q (cs + 5) (sl + 30) 2917 [(0, .ref b), (1, zr G 0), (2, zr G 116), (3, zr G 603), (4, .int (nI j))] [] w) : zJ x G 7 Q cs sl 518 [(0, .ref b), (1, zr G 0), (2, zr G 116), (3, zr G 603), (4, .int (nI j))] [] v := by
  obtain ⟨hfr1, hfr2⟩ := hfr
  obtain ⟨hcs1, hcs2⟩ := hcs
  unfold fLc_5 at h
  refine z_aload_n F dL_law__518 rfl 1 rfl ?_
  refine z_aload_n F dL_law__519 rfl 0 rfl ?_
  refine z_iload F dL_law__520 4 rfl ?_
  refine z_iconst (y := (1 : Int32)) F dL_law__522 rfl ?_
  refine z_iadd F dL_law__523 ?_
  refine z_sld F hX hbl hbA (nI_add j 1) (by omega) hL dL_law__524 ?_
  refine z_aload_n F dL_law__525 rfl 3 rfl ?_
  obtain ⟨r_2, v_1, hq526, h⟩ := zbind_ex h
  refine z_callSW (n := 3) F [zr G 0, .int (xs (j + 1)), zr G 603] [] (kL_told x.2.1 G 0 t0 (xs (j + 1)) 603 t3 v r_2 v_1 hfl hq526) kw_L_told wM_L_158 ms_L_told dL_law__526 rfl (by decide +kernel) ⟨by omega, by omega⟩ rfl (Nat.le_of_ble_eq_true rfl) ⟨by omega, by omega⟩ ?_
  refine z_istore (n := 0) F [(5, .int r_2), (0, .ref b), (1, zr G 0), (2, zr G 116), (3, zr G 603), (4, .int (nI j))] dL_law__529 (Nat.le_of_ble_eq_true rfl) rfl ?_
  refine z_aload_n F dL_law__531 rfl 3 rfl ?_
  refine z_aload_n F dL_law__532 rfl 1 rfl ?_
  refine z_iload F dL_law__533 5 rfl ?_
  refine z_iconst (y := (1 : Int32)) F dL_law__535 rfl ?_
  refine z_iadd F dL_law__536 ?_
  refine z_sld F hX hbl hbA (nI_add j 1) (by omega) hL dL_law__537 ?_
  obtain ⟨r_4, v_3, hq538, h⟩ := zbind_ex h
  refine z_callVi F [.int (xs (j + 1))] [] (kX10_told x.2.1 G 116 t1 (xs (j + 1)) v_1 r_4 v_3 hq538) mI_X10_told (c := 10) rfl t1 wM_L_160 mi_X10_told sl_X10_told dL_law__538 rfl ⟨by omega, by omega⟩ rfl (Nat.le_of_ble_eq_true rfl) ⟨by omega, by omega⟩ ?_
  refine z_istore (n := 0) F [(6, .int r_4), (5, .int r_2), (0, .ref b), (1, zr G 0), (2, zr G 116), (3, zr G 603), (4, .int (nI j))] dL_law__541 (Nat.le_of_ble_eq_true rfl) rfl ?_
  refine z_aload_n F dL_law__543 rfl 4 rfl ?_
  obtain ⟨r_6, v_5, hq544, h⟩ := zbind_ex h
  refine z_callVi F [] [] (kX10_thrown x.2.1 G 116 t1 v_3 r_6 v_5 hq544) mI_X10_thrown (c := 10) rfl t1 wM_L_144 mi_X10_thrown sl_X10_thrown dL_law__544 rfl ⟨by omega, by omega⟩ rfl (Nat.le_of_ble_eq_true rfl) ⟨by omega, by omega⟩ ?_
  refine z_iload F dL_law__547 1 rfl ?_
  refine z_icmp_eq F 554 dL_law__549 rfl (fun hc => ?_) (fun hc => ?_)
  · replace h := zif_t hc h
    refine z_iload F dL_law__554 1 rfl ?_
    refine z_if_ne F 571 dL_law__556 rfl (fun hc => ?_) (fun hc => ?_)
    · replace h := zif_f hc h
      refine z_goto F 2917 dL_law__571 rfl ?_
      cases h
      refine z_ls [(0, .ref b), (1, zr G 0), (2, zr G 116), (3, zr G 603), (4, .int (nI j))] [2, 3, 4, 5, 6] rfl ?_
      exact z_wide (cs' := cs + 5) (sl' := sl + 30) (by omega) (by omega) kk
    · replace h := zif_t hc h
      refine z_aload_n F dL_law__559 rfl 5 rfl ?_
      refine z_iconst (y := (0 : Int32)) F dL_law__560 rfl ?_
      obtain ⟨hi561, h⟩ := zix_ex h
      refine z_lald F t3 dL_law__561 hi561 ?_
      refine z_iload F dL_law__562 0 rfl ?_
      refine z_i2l F dL_law__564 ?_
      refine z_lcmp F dL_law__565 ?_
      refine z_if_eq F 571 dL_law__566 rfl (fun hc => ?_) (fun hc => ?_)
      · replace h := zif_t hc h
        refine z_goto F 2917 dL_law__571 rfl ?_
        cases h
        refine z_ls [(0, .ref b), (1, zr G 0), (2, zr G 116), (3, zr G 603), (4, .int (nI j))] [2, 3, 4, 5, 6] rfl ?_
        exact z_wide (cs' := cs + 5) (sl' := sl + 30) (by omega) (by omega) kk
      · replace h := zif_f hc h
        exact absurd h (by intro q; cases q)
  · replace h := zif_f hc h
    exact absurd h (by intro q; cases q)

theorem dL_law__574 : decode cL_law_ 574 = .ok (.aload_n 1, 1) := by decide +kernel
theorem dL_law__575 : decode cL_law_ 575 = .ok (.aload_n 0, 1) := by decide +kernel
theorem dL_law__576 : decode cL_law_ 576 = .ok (.iload 4, 2) := by decide +kernel
theorem dL_law__578 : decode cL_law_ 578 = .ok (.iconst 1, 1) := by decide +kernel
theorem dL_law__579 : decode cL_law_ 579 = .ok (.iadd, 1) := by decide +kernel
theorem dL_law__580 : decode cL_law_ 580 = .ok (.iaload, 1) := by decide +kernel
theorem dL_law__581 : decode cL_law_ 581 = .ok (.aload_n 0, 1) := by decide +kernel
theorem dL_law__582 : decode cL_law_ 582 = .ok (.iload 4, 2) := by decide +kernel
theorem dL_law__584 : decode cL_law_ 584 = .ok (.iconst 2, 1) := by decide +kernel
theorem dL_law__585 : decode cL_law_ 585 = .ok (.iadd, 1) := by decide +kernel
theorem dL_law__586 : decode cL_law_ 586 = .ok (.iaload, 1) := by decide +kernel
theorem dL_law__587 : decode cL_law_ 587 = .ok (.aload_n 3, 1) := by decide +kernel
theorem dL_law__588 : decode cL_law_ 588 = .ok (.invokestatic 161, 3) := by decide +kernel
theorem dL_law__591 : decode cL_law_ 591 = .ok (.istore 5, 2) := by decide +kernel
theorem dL_law__593 : decode cL_law_ 593 = .ok (.aload_n 2, 1) := by decide +kernel
theorem dL_law__594 : decode cL_law_ 594 = .ok (.aload_n 0, 1) := by decide +kernel
theorem dL_law__595 : decode cL_law_ 595 = .ok (.iload 4, 2) := by decide +kernel
theorem dL_law__597 : decode cL_law_ 597 = .ok (.iconst 1, 1) := by decide +kernel
theorem dL_law__598 : decode cL_law_ 598 = .ok (.iadd, 1) := by decide +kernel
theorem dL_law__599 : decode cL_law_ 599 = .ok (.iaload, 1) := by decide +kernel
theorem dL_law__600 : decode cL_law_ 600 = .ok (.aload_n 0, 1) := by decide +kernel
theorem dL_law__601 : decode cL_law_ 601 = .ok (.iload 4, 2) := by decide +kernel
theorem dL_law__603 : decode cL_law_ 603 = .ok (.iconst 2, 1) := by decide +kernel
theorem dL_law__604 : decode cL_law_ 604 = .ok (.iadd, 1) := by decide +kernel
theorem dL_law__605 : decode cL_law_ 605 = .ok (.iaload, 1) := by decide +kernel
theorem dL_law__606 : decode cL_law_ 606 = .ok (.invokevirtual 164, 3) := by decide +kernel
theorem dL_law__609 : decode cL_law_ 609 = .ok (.istore 6, 2) := by decide +kernel
theorem dL_law__611 : decode cL_law_ 611 = .ok (.aload_n 2, 1) := by decide +kernel
theorem dL_law__612 : decode cL_law_ 612 = .ok (.invokevirtual 144, 3) := by decide +kernel
theorem dL_law__615 : decode cL_law_ 615 = .ok (.iload 5, 2) := by decide +kernel
theorem dL_law__617 : decode cL_law_ 617 = .ok (.if_icmp .eq 5, 3) := by decide +kernel
theorem dL_law__620 : decode cL_law_ 620 = .ok (.iconst 0, 1) := by decide +kernel
theorem dL_law__621 : decode cL_law_ 621 = .ok (.ireturn, 1) := by decide +kernel
theorem dL_law__622 : decode cL_law_ 622 = .ok (.iload 5, 2) := by decide +kernel
theorem dL_law__624 : decode cL_law_ 624 = .ok (.ifCond .ne 15, 3) := by decide +kernel
theorem dL_law__627 : decode cL_law_ 627 = .ok (.aload_n 3, 1) := by decide +kernel
theorem dL_law__628 : decode cL_law_ 628 = .ok (.iconst 0, 1) := by decide +kernel
theorem dL_law__629 : decode cL_law_ 629 = .ok (.laload, 1) := by decide +kernel
theorem dL_law__630 : decode cL_law_ 630 = .ok (.iload 6, 2) := by decide +kernel
theorem dL_law__632 : decode cL_law_ 632 = .ok (.i2l, 1) := by decide +kernel
theorem dL_law__633 : decode cL_law_ 633 = .ok (.lcmp, 1) := by decide +kernel
theorem dL_law__634 : decode cL_law_ 634 = .ok (.ifCond .eq 5, 3) := by decide +kernel
theorem dL_law__637 : decode cL_law_ 637 = .ok (.iconst 0, 1) := by decide +kernel
theorem dL_law__638 : decode cL_law_ 638 = .ok (.ireturn, 1) := by decide +kernel
theorem dL_law__639 : decode cL_law_ 639 = .ok (.goto 2278, 3) := by decide +kernel
def fLc_6 (p1 : Int32) (p2 : Int32) (v : zV) : Option zV :=
  zbind (fL_man 0 p1 p2 603 v) fun r_2 v_1 =>
  zbind (fX10_man 116 p1 p2 v_1) fun r_4 v_3 =>
  zbind (fX10_thrown 116 v_3) fun r_6 v_5 =>
  if r_6 = r_2 then
    if r_2 = (0 : Int32) then
      zix (0 : Int32) (zlen 603) <|
      if (lg_cmp ((v_5 603 (0 : Int32).toNatClampNeg).toInt64) ((r_4).toInt64)) = (0 : Int32) then
        some v_5
      else
        none
    else
      some v_5
  else
    none
set_option maxRecDepth 8000 in
set_option maxHeartbeats 1000000 in
theorem jLc_6 {x : zCx} {G : zG} {fr lo b L : Nat} {xs : Nat → Int32} {Q : State → Prop} (F : zF x G cL_law_ 7 RL fr lo) (hfr : 400 ≤ fr ∧ 20000 ≤ lo) (hfl : x.2.1.stackTraces = false) (hX : va_X b L xs x.2.2.2.2.1 x.2.2.2.2.1.heap) (hbl : b < x.2.2.2.2.1.heap.size) (hbA : ¬ zA G b) (t0 : zty G 0 1 9) (t1 : zty G 116 1 10) (t3 : zty G 603 2 2) {j : Nat} (hj : j + 7 ≤ L) (hL : L < 2 ^ 31) {cs sl : Nat} (hcs : cs + 5 ≤ x.2.2.2.1.cells ∧ sl + 30 ≤ x.2.2.2.1.slots) (v w : zV) (h : fLc_6 (xs (j + 1)) (xs (j + 2)) v = some w) (kk : zJ x G 7 Q (cs + 5) (sl + 30) 2917 [(0, .ref b), (1, zr G 0), (2, zr G 116), (3, zr G 603), (4, .int (nI j))] [] w) : zJ x G 7 Q cs sl 574 [(0, .ref b), (1, zr G 0), (2, zr G 116), (3, zr G 603), (4, .int (nI j))] [] v := by
  obtain ⟨hfr1, hfr2⟩ := hfr
  obtain ⟨hcs1, hcs2⟩ := hcs
  unfold fLc_6 at h
  refine z_aload_n F dL_law__574 rfl 1 rfl ?_
  refine z_aload_n F dL_law__575 rfl 0 rfl ?_
  refine z_iload F dL_law__576 4 rfl ?_
  refine z_iconst (y := (1 : Int32)) F dL_law__578 rfl ?_
  refine z_iadd F dL_law__579 ?_
  refine z_sld F hX hbl hbA (nI_add j 1) (by omega) hL dL_law__580 ?_
  refine z_aload_n F dL_law__581 rfl 0 rfl ?_
  refine z_iload F dL_law__582 4 rfl ?_
  refine z_iconst (y := (2 : Int32)) F dL_law__584 rfl ?_
  refine z_iadd F dL_law__585 ?_
  refine z_sld F hX hbl hbA (nI_add j 2) (by omega) hL dL_law__586 ?_
  refine z_aload_n F dL_law__587 rfl 3 rfl ?_
  obtain ⟨r_2, v_1, hq588, h⟩ := zbind_ex h
  refine z_callSW (n := 4) F [zr G 0, .int (xs (j + 1)), .int (xs (j + 2)), zr G 603] [] (kL_man x.2.1 G 0 t0 (xs (j + 1)) (xs (j + 2)) 603 t3 v r_2 v_1 hfl hq588) kw_L_man wM_L_161 ms_L_man dL_law__588 rfl (by decide +kernel) ⟨by omega, by omega⟩ rfl (Nat.le_of_ble_eq_true rfl) ⟨by omega, by omega⟩ ?_
  refine z_istore (n := 0) F [(5, .int r_2), (0, .ref b), (1, zr G 0), (2, zr G 116), (3, zr G 603), (4, .int (nI j))] dL_law__591 (Nat.le_of_ble_eq_true rfl) rfl ?_
  refine z_aload_n F dL_law__593 rfl 3 rfl ?_
  refine z_aload_n F dL_law__594 rfl 1 rfl ?_
  refine z_iload F dL_law__595 5 rfl ?_
  refine z_iconst (y := (1 : Int32)) F dL_law__597 rfl ?_
  refine z_iadd F dL_law__598 ?_
  refine z_sld F hX hbl hbA (nI_add j 1) (by omega) hL dL_law__599 ?_
  refine z_aload_n F dL_law__600 rfl 1 rfl ?_
  refine z_iload F dL_law__601 5 rfl ?_
  refine z_iconst (y := (2 : Int32)) F dL_law__603 rfl ?_
  refine z_iadd F dL_law__604 ?_
  refine z_sld F hX hbl hbA (nI_add j 2) (by omega) hL dL_law__605 ?_
  obtain ⟨r_4, v_3, hq606, h⟩ := zbind_ex h
  refine z_callVi F [.int (xs (j + 1)), .int (xs (j + 2))] [] (kX10_man x.2.1 G 116 t1 (xs (j + 1)) (xs (j + 2)) v_1 r_4 v_3 hq606) mI_X10_man (c := 10) rfl t1 wM_L_164 mi_X10_man sl_X10_man dL_law__606 rfl ⟨by omega, by omega⟩ rfl (Nat.le_of_ble_eq_true rfl) ⟨by omega, by omega⟩ ?_
  refine z_istore (n := 0) F [(6, .int r_4), (5, .int r_2), (0, .ref b), (1, zr G 0), (2, zr G 116), (3, zr G 603), (4, .int (nI j))] dL_law__609 (Nat.le_of_ble_eq_true rfl) rfl ?_
  refine z_aload_n F dL_law__611 rfl 4 rfl ?_
  obtain ⟨r_6, v_5, hq612, h⟩ := zbind_ex h
  refine z_callVi F [] [] (kX10_thrown x.2.1 G 116 t1 v_3 r_6 v_5 hq612) mI_X10_thrown (c := 10) rfl t1 wM_L_144 mi_X10_thrown sl_X10_thrown dL_law__612 rfl ⟨by omega, by omega⟩ rfl (Nat.le_of_ble_eq_true rfl) ⟨by omega, by omega⟩ ?_
  refine z_iload F dL_law__615 1 rfl ?_
  refine z_icmp_eq F 622 dL_law__617 rfl (fun hc => ?_) (fun hc => ?_)
  · replace h := zif_t hc h
    refine z_iload F dL_law__622 1 rfl ?_
    refine z_if_ne F 639 dL_law__624 rfl (fun hc => ?_) (fun hc => ?_)
    · replace h := zif_f hc h
      refine z_goto F 2917 dL_law__639 rfl ?_
      cases h
      refine z_ls [(0, .ref b), (1, zr G 0), (2, zr G 116), (3, zr G 603), (4, .int (nI j))] [2, 3, 4, 5, 6] rfl ?_
      exact z_wide (cs' := cs + 5) (sl' := sl + 30) (by omega) (by omega) kk
    · replace h := zif_t hc h
      refine z_aload_n F dL_law__627 rfl 5 rfl ?_
      refine z_iconst (y := (0 : Int32)) F dL_law__628 rfl ?_
      obtain ⟨hi629, h⟩ := zix_ex h
      refine z_lald F t3 dL_law__629 hi629 ?_
      refine z_iload F dL_law__630 0 rfl ?_
      refine z_i2l F dL_law__632 ?_
      refine z_lcmp F dL_law__633 ?_
      refine z_if_eq F 639 dL_law__634 rfl (fun hc => ?_) (fun hc => ?_)
      · replace h := zif_t hc h
        refine z_goto F 2917 dL_law__639 rfl ?_
        cases h
        refine z_ls [(0, .ref b), (1, zr G 0), (2, zr G 116), (3, zr G 603), (4, .int (nI j))] [2, 3, 4, 5, 6] rfl ?_
        exact z_wide (cs' := cs + 5) (sl' := sl + 30) (by omega) (by omega) kk
      · replace h := zif_f hc h
        exact absurd h (by intro q; cases q)
  · replace h := zif_f hc h
    exact absurd h (by intro q; cases q)

theorem dL_law__642 : decode cL_law_ 642 = .ok (.aload_n 1, 1) := by decide +kernel
theorem dL_law__643 : decode cL_law_ 643 = .ok (.aload_n 0, 1) := by decide +kernel
theorem dL_law__644 : decode cL_law_ 644 = .ok (.iload 4, 2) := by decide +kernel
theorem dL_law__646 : decode cL_law_ 646 = .ok (.iconst 1, 1) := by decide +kernel
theorem dL_law__647 : decode cL_law_ 647 = .ok (.iadd, 1) := by decide +kernel
theorem dL_law__648 : decode cL_law_ 648 = .ok (.iaload, 1) := by decide +kernel
theorem dL_law__649 : decode cL_law_ 649 = .ok (.aload_n 3, 1) := by decide +kernel
theorem dL_law__650 : decode cL_law_ 650 = .ok (.invokestatic 165, 3) := by decide +kernel
theorem dL_law__653 : decode cL_law_ 653 = .ok (.istore 5, 2) := by decide +kernel
theorem dL_law__655 : decode cL_law_ 655 = .ok (.aload_n 2, 1) := by decide +kernel
theorem dL_law__656 : decode cL_law_ 656 = .ok (.aload_n 0, 1) := by decide +kernel
theorem dL_law__657 : decode cL_law_ 657 = .ok (.iload 4, 2) := by decide +kernel
theorem dL_law__659 : decode cL_law_ 659 = .ok (.iconst 1, 1) := by decide +kernel
theorem dL_law__660 : decode cL_law_ 660 = .ok (.iadd, 1) := by decide +kernel
theorem dL_law__661 : decode cL_law_ 661 = .ok (.iaload, 1) := by decide +kernel
theorem dL_law__662 : decode cL_law_ 662 = .ok (.invokevirtual 167, 3) := by decide +kernel
theorem dL_law__665 : decode cL_law_ 665 = .ok (.istore 6, 2) := by decide +kernel
theorem dL_law__667 : decode cL_law_ 667 = .ok (.aload_n 2, 1) := by decide +kernel
theorem dL_law__668 : decode cL_law_ 668 = .ok (.invokevirtual 144, 3) := by decide +kernel
theorem dL_law__671 : decode cL_law_ 671 = .ok (.iload 5, 2) := by decide +kernel
theorem dL_law__673 : decode cL_law_ 673 = .ok (.if_icmp .eq 5, 3) := by decide +kernel
theorem dL_law__676 : decode cL_law_ 676 = .ok (.iconst 0, 1) := by decide +kernel
theorem dL_law__677 : decode cL_law_ 677 = .ok (.ireturn, 1) := by decide +kernel
theorem dL_law__678 : decode cL_law_ 678 = .ok (.iload 5, 2) := by decide +kernel
theorem dL_law__680 : decode cL_law_ 680 = .ok (.ifCond .ne 15, 3) := by decide +kernel
theorem dL_law__683 : decode cL_law_ 683 = .ok (.aload_n 3, 1) := by decide +kernel
theorem dL_law__684 : decode cL_law_ 684 = .ok (.iconst 0, 1) := by decide +kernel
theorem dL_law__685 : decode cL_law_ 685 = .ok (.laload, 1) := by decide +kernel
theorem dL_law__686 : decode cL_law_ 686 = .ok (.iload 6, 2) := by decide +kernel
theorem dL_law__688 : decode cL_law_ 688 = .ok (.i2l, 1) := by decide +kernel
theorem dL_law__689 : decode cL_law_ 689 = .ok (.lcmp, 1) := by decide +kernel
theorem dL_law__690 : decode cL_law_ 690 = .ok (.ifCond .eq 5, 3) := by decide +kernel
theorem dL_law__693 : decode cL_law_ 693 = .ok (.iconst 0, 1) := by decide +kernel
theorem dL_law__694 : decode cL_law_ 694 = .ok (.ireturn, 1) := by decide +kernel
theorem dL_law__695 : decode cL_law_ 695 = .ok (.goto 2222, 3) := by decide +kernel
def fLc_7 (p1 : Int32) (v : zV) : Option zV :=
  zbind (fL_sides 0 p1 603 v) fun r_2 v_1 =>
  zbind (fX10_sides 116 p1 v_1) fun r_4 v_3 =>
  zbind (fX10_thrown 116 v_3) fun r_6 v_5 =>
  if r_6 = r_2 then
    if r_2 = (0 : Int32) then
      zix (0 : Int32) (zlen 603) <|
      if (lg_cmp ((v_5 603 (0 : Int32).toNatClampNeg).toInt64) ((r_4).toInt64)) = (0 : Int32) then
        some v_5
      else
        none
    else
      some v_5
  else
    none
set_option maxRecDepth 8000 in
set_option maxHeartbeats 1000000 in
theorem jLc_7 {x : zCx} {G : zG} {fr lo b L : Nat} {xs : Nat → Int32} {Q : State → Prop} (F : zF x G cL_law_ 7 RL fr lo) (hfr : 400 ≤ fr ∧ 20000 ≤ lo) (hfl : x.2.1.stackTraces = false) (hX : va_X b L xs x.2.2.2.2.1 x.2.2.2.2.1.heap) (hbl : b < x.2.2.2.2.1.heap.size) (hbA : ¬ zA G b) (t0 : zty G 0 1 9) (t1 : zty G 116 1 10) (t3 : zty G 603 2 2) {j : Nat} (hj : j + 7 ≤ L) (hL : L < 2 ^ 31) {cs sl : Nat} (hcs : cs + 5 ≤ x.2.2.2.1.cells ∧ sl + 30 ≤ x.2.2.2.1.slots) (v w : zV) (h : fLc_7 (xs (j + 1)) v = some w) (kk : zJ x G 7 Q (cs + 5) (sl + 30) 2917 [(0, .ref b), (1, zr G 0), (2, zr G 116), (3, zr G 603), (4, .int (nI j))] [] w) : zJ x G 7 Q cs sl 642 [(0, .ref b), (1, zr G 0), (2, zr G 116), (3, zr G 603), (4, .int (nI j))] [] v := by
  obtain ⟨hfr1, hfr2⟩ := hfr
  obtain ⟨hcs1, hcs2⟩ := hcs
  unfold fLc_7 at h
  refine z_aload_n F dL_law__642 rfl 1 rfl ?_
  refine z_aload_n F dL_law__643 rfl 0 rfl ?_
  refine z_iload F dL_law__644 4 rfl ?_
  refine z_iconst (y := (1 : Int32)) F dL_law__646 rfl ?_
  refine z_iadd F dL_law__647 ?_
  refine z_sld F hX hbl hbA (nI_add j 1) (by omega) hL dL_law__648 ?_
  refine z_aload_n F dL_law__649 rfl 3 rfl ?_
  obtain ⟨r_2, v_1, hq650, h⟩ := zbind_ex h
  refine z_callSW (n := 3) F [zr G 0, .int (xs (j + 1)), zr G 603] [] (kL_sides x.2.1 G 0 t0 (xs (j + 1)) 603 t3 v r_2 v_1 hfl hq650) kw_L_sides wM_L_165 ms_L_sides dL_law__650 rfl (by decide +kernel) ⟨by omega, by omega⟩ rfl (Nat.le_of_ble_eq_true rfl) ⟨by omega, by omega⟩ ?_
  refine z_istore (n := 0) F [(5, .int r_2), (0, .ref b), (1, zr G 0), (2, zr G 116), (3, zr G 603), (4, .int (nI j))] dL_law__653 (Nat.le_of_ble_eq_true rfl) rfl ?_
  refine z_aload_n F dL_law__655 rfl 3 rfl ?_
  refine z_aload_n F dL_law__656 rfl 1 rfl ?_
  refine z_iload F dL_law__657 5 rfl ?_
  refine z_iconst (y := (1 : Int32)) F dL_law__659 rfl ?_
  refine z_iadd F dL_law__660 ?_
  refine z_sld F hX hbl hbA (nI_add j 1) (by omega) hL dL_law__661 ?_
  obtain ⟨r_4, v_3, hq662, h⟩ := zbind_ex h
  refine z_callVi F [.int (xs (j + 1))] [] (kX10_sides x.2.1 G 116 t1 (xs (j + 1)) v_1 r_4 v_3 hq662) mI_X10_sides (c := 10) rfl t1 wM_L_167 mi_X10_sides sl_X10_sides dL_law__662 rfl ⟨by omega, by omega⟩ rfl (Nat.le_of_ble_eq_true rfl) ⟨by omega, by omega⟩ ?_
  refine z_istore (n := 0) F [(6, .int r_4), (5, .int r_2), (0, .ref b), (1, zr G 0), (2, zr G 116), (3, zr G 603), (4, .int (nI j))] dL_law__665 (Nat.le_of_ble_eq_true rfl) rfl ?_
  refine z_aload_n F dL_law__667 rfl 4 rfl ?_
  obtain ⟨r_6, v_5, hq668, h⟩ := zbind_ex h
  refine z_callVi F [] [] (kX10_thrown x.2.1 G 116 t1 v_3 r_6 v_5 hq668) mI_X10_thrown (c := 10) rfl t1 wM_L_144 mi_X10_thrown sl_X10_thrown dL_law__668 rfl ⟨by omega, by omega⟩ rfl (Nat.le_of_ble_eq_true rfl) ⟨by omega, by omega⟩ ?_
  refine z_iload F dL_law__671 1 rfl ?_
  refine z_icmp_eq F 678 dL_law__673 rfl (fun hc => ?_) (fun hc => ?_)
  · replace h := zif_t hc h
    refine z_iload F dL_law__678 1 rfl ?_
    refine z_if_ne F 695 dL_law__680 rfl (fun hc => ?_) (fun hc => ?_)
    · replace h := zif_f hc h
      refine z_goto F 2917 dL_law__695 rfl ?_
      cases h
      refine z_ls [(0, .ref b), (1, zr G 0), (2, zr G 116), (3, zr G 603), (4, .int (nI j))] [2, 3, 4, 5, 6] rfl ?_
      exact z_wide (cs' := cs + 5) (sl' := sl + 30) (by omega) (by omega) kk
    · replace h := zif_t hc h
      refine z_aload_n F dL_law__683 rfl 5 rfl ?_
      refine z_iconst (y := (0 : Int32)) F dL_law__684 rfl ?_
      obtain ⟨hi685, h⟩ := zix_ex h
      refine z_lald F t3 dL_law__685 hi685 ?_
      refine z_iload F dL_law__686 0 rfl ?_
      refine z_i2l F dL_law__688 ?_
      refine z_lcmp F dL_law__689 ?_
      refine z_if_eq F 695 dL_law__690 rfl (fun hc => ?_) (fun hc => ?_)
      · replace h := zif_t hc h
        refine z_goto F 2917 dL_law__695 rfl ?_
        cases h
        refine z_ls [(0, .ref b), (1, zr G 0), (2, zr G 116), (3, zr G 603), (4, .int (nI j))] [2, 3, 4, 5, 6] rfl ?_
        exact z_wide (cs' := cs + 5) (sl' := sl + 30) (by omega) (by omega) kk
      · replace h := zif_f hc h
        exact absurd h (by intro q; cases q)
  · replace h := zif_f hc h
    exact absurd h (by intro q; cases q)

theorem dL_law__698 : decode cL_law_ 698 = .ok (.aload_n 1, 1) := by decide +kernel
theorem dL_law__699 : decode cL_law_ 699 = .ok (.aload_n 0, 1) := by decide +kernel
theorem dL_law__700 : decode cL_law_ 700 = .ok (.iload 4, 2) := by decide +kernel
theorem dL_law__702 : decode cL_law_ 702 = .ok (.iconst 1, 1) := by decide +kernel
theorem dL_law__703 : decode cL_law_ 703 = .ok (.iadd, 1) := by decide +kernel
theorem dL_law__704 : decode cL_law_ 704 = .ok (.iaload, 1) := by decide +kernel
theorem dL_law__705 : decode cL_law_ 705 = .ok (.aload_n 0, 1) := by decide +kernel
theorem dL_law__706 : decode cL_law_ 706 = .ok (.iload 4, 2) := by decide +kernel
theorem dL_law__708 : decode cL_law_ 708 = .ok (.iconst 2, 1) := by decide +kernel
theorem dL_law__709 : decode cL_law_ 709 = .ok (.iadd, 1) := by decide +kernel
theorem dL_law__710 : decode cL_law_ 710 = .ok (.iaload, 1) := by decide +kernel
theorem dL_law__711 : decode cL_law_ 711 = .ok (.aload_n 3, 1) := by decide +kernel
theorem dL_law__712 : decode cL_law_ 712 = .ok (.invokestatic 168, 3) := by decide +kernel
theorem dL_law__715 : decode cL_law_ 715 = .ok (.istore 5, 2) := by decide +kernel
theorem dL_law__717 : decode cL_law_ 717 = .ok (.aload_n 2, 1) := by decide +kernel
theorem dL_law__718 : decode cL_law_ 718 = .ok (.aload_n 0, 1) := by decide +kernel
theorem dL_law__719 : decode cL_law_ 719 = .ok (.iload 4, 2) := by decide +kernel
theorem dL_law__721 : decode cL_law_ 721 = .ok (.iconst 1, 1) := by decide +kernel
theorem dL_law__722 : decode cL_law_ 722 = .ok (.iadd, 1) := by decide +kernel
theorem dL_law__723 : decode cL_law_ 723 = .ok (.iaload, 1) := by decide +kernel
theorem dL_law__724 : decode cL_law_ 724 = .ok (.aload_n 0, 1) := by decide +kernel
theorem dL_law__725 : decode cL_law_ 725 = .ok (.iload 4, 2) := by decide +kernel
theorem dL_law__727 : decode cL_law_ 727 = .ok (.iconst 2, 1) := by decide +kernel
theorem dL_law__728 : decode cL_law_ 728 = .ok (.iadd, 1) := by decide +kernel
theorem dL_law__729 : decode cL_law_ 729 = .ok (.iaload, 1) := by decide +kernel
theorem dL_law__730 : decode cL_law_ 730 = .ok (.invokevirtual 170, 3) := by decide +kernel
theorem dL_law__733 : decode cL_law_ 733 = .ok (.istore 6, 2) := by decide +kernel
theorem dL_law__735 : decode cL_law_ 735 = .ok (.aload_n 2, 1) := by decide +kernel
theorem dL_law__736 : decode cL_law_ 736 = .ok (.invokevirtual 144, 3) := by decide +kernel
theorem dL_law__739 : decode cL_law_ 739 = .ok (.iload 5, 2) := by decide +kernel
theorem dL_law__741 : decode cL_law_ 741 = .ok (.if_icmp .eq 5, 3) := by decide +kernel
theorem dL_law__744 : decode cL_law_ 744 = .ok (.iconst 0, 1) := by decide +kernel
theorem dL_law__745 : decode cL_law_ 745 = .ok (.ireturn, 1) := by decide +kernel
theorem dL_law__746 : decode cL_law_ 746 = .ok (.iload 5, 2) := by decide +kernel
theorem dL_law__748 : decode cL_law_ 748 = .ok (.ifCond .ne 15, 3) := by decide +kernel
theorem dL_law__751 : decode cL_law_ 751 = .ok (.aload_n 3, 1) := by decide +kernel
theorem dL_law__752 : decode cL_law_ 752 = .ok (.iconst 0, 1) := by decide +kernel
theorem dL_law__753 : decode cL_law_ 753 = .ok (.laload, 1) := by decide +kernel
theorem dL_law__754 : decode cL_law_ 754 = .ok (.iload 6, 2) := by decide +kernel
theorem dL_law__756 : decode cL_law_ 756 = .ok (.i2l, 1) := by decide +kernel
theorem dL_law__757 : decode cL_law_ 757 = .ok (.lcmp, 1) := by decide +kernel
theorem dL_law__758 : decode cL_law_ 758 = .ok (.ifCond .eq 5, 3) := by decide +kernel
theorem dL_law__761 : decode cL_law_ 761 = .ok (.iconst 0, 1) := by decide +kernel
theorem dL_law__762 : decode cL_law_ 762 = .ok (.ireturn, 1) := by decide +kernel
theorem dL_law__763 : decode cL_law_ 763 = .ok (.goto 2154, 3) := by decide +kernel
def fLc_8 (p1 : Int32) (p2 : Int32) (v : zV) : Option zV :=
  zbind (fL_believes 0 p1 p2 603 v) fun r_2 v_1 =>
  zbind (fX10_believes 116 p1 p2 v_1) fun r_4 v_3 =>
  zbind (fX10_thrown 116 v_3) fun r_6 v_5 =>
  if r_6 = r_2 then
    if r_2 = (0 : Int32) then
      zix (0 : Int32) (zlen 603) <|
      if (lg_cmp ((v_5 603 (0 : Int32).toNatClampNeg).toInt64) ((r_4).toInt64)) = (0 : Int32) then
        some v_5
      else
        none
    else
      some v_5
  else
    none
set_option maxRecDepth 8000 in
set_option maxHeartbeats 1000000 in
theorem jLc_8 {x : zCx} {G : zG} {fr lo b L : Nat} {xs : Nat → Int32} {Q : State → Prop} (F : zF x G cL_law_ 7 RL fr lo) (hfr : 400 ≤ fr ∧ 20000 ≤ lo) (hfl : x.2.1.stackTraces = false) (hX : va_X b L xs x.2.2.2.2.1 x.2.2.2.2.1.heap) (hbl : b < x.2.2.2.2.1.heap.size) (hbA : ¬ zA G b) (t0 : zty G 0 1 9) (t1 : zty G 116 1 10) (t3 : zty G 603 2 2) {j : Nat} (hj : j + 7 ≤ L) (hL : L < 2 ^ 31) {cs sl : Nat} (hcs : cs + 5 ≤ x.2.2.2.1.cells ∧ sl + 30 ≤ x.2.2.2.1.slots) (v w : zV) (h : fLc_8 (xs (j + 1)) (xs (j + 2)) v = some w) (kk : zJ x G 7 Q (cs + 5) (sl + 30) 2917 [(0, .ref b), (1, zr G 0), (2, zr G 116), (3, zr G 603), (4, .int (nI j))] [] w) : zJ x G 7 Q cs sl 698 [(0, .ref b), (1, zr G 0), (2, zr G 116), (3, zr G 603), (4, .int (nI j))] [] v := by
  obtain ⟨hfr1, hfr2⟩ := hfr
  obtain ⟨hcs1, hcs2⟩ := hcs
  unfold fLc_8 at h
  refine z_aload_n F dL_law__698 rfl 1 rfl ?_
  refine z_aload_n F dL_law__699 rfl 0 rfl ?_
  refine z_iload F dL_law__700 4 rfl ?_
  refine z_iconst (y := (1 : Int32)) F dL_law__702 rfl ?_
  refine z_iadd F dL_law__703 ?_
  refine z_sld F hX hbl hbA (nI_add j 1) (by omega) hL dL_law__704 ?_
  refine z_aload_n F dL_law__705 rfl 0 rfl ?_
  refine z_iload F dL_law__706 4 rfl ?_
  refine z_iconst (y := (2 : Int32)) F dL_law__708 rfl ?_
  refine z_iadd F dL_law__709 ?_
  refine z_sld F hX hbl hbA (nI_add j 2) (by omega) hL dL_law__710 ?_
  refine z_aload_n F dL_law__711 rfl 3 rfl ?_
  obtain ⟨r_2, v_1, hq712, h⟩ := zbind_ex h
  refine z_callSW (n := 4) F [zr G 0, .int (xs (j + 1)), .int (xs (j + 2)), zr G 603] [] (kL_believes x.2.1 G 0 t0 (xs (j + 1)) (xs (j + 2)) 603 t3 v r_2 v_1 hfl hq712) kw_L_believes wM_L_168 ms_L_believes dL_law__712 rfl (by decide +kernel) ⟨by omega, by omega⟩ rfl (Nat.le_of_ble_eq_true rfl) ⟨by omega, by omega⟩ ?_
  refine z_istore (n := 0) F [(5, .int r_2), (0, .ref b), (1, zr G 0), (2, zr G 116), (3, zr G 603), (4, .int (nI j))] dL_law__715 (Nat.le_of_ble_eq_true rfl) rfl ?_
  refine z_aload_n F dL_law__717 rfl 3 rfl ?_
  refine z_aload_n F dL_law__718 rfl 1 rfl ?_
  refine z_iload F dL_law__719 5 rfl ?_
  refine z_iconst (y := (1 : Int32)) F dL_law__721 rfl ?_
  refine z_iadd F dL_law__722 ?_
  refine z_sld F hX hbl hbA (nI_add j 1) (by omega) hL dL_law__723 ?_
  refine z_aload_n F dL_law__724 rfl 1 rfl ?_
  refine z_iload F dL_law__725 5 rfl ?_
  refine z_iconst (y := (2 : Int32)) F dL_law__727 rfl ?_
  refine z_iadd F dL_law__728 ?_
  refine z_sld F hX hbl hbA (nI_add j 2) (by omega) hL dL_law__729 ?_
  obtain ⟨r_4, v_3, hq730, h⟩ := zbind_ex h
  refine z_callVi F [.int (xs (j + 1)), .int (xs (j + 2))] [] (kX10_believes x.2.1 G 116 t1 (xs (j + 1)) (xs (j + 2)) v_1 r_4 v_3 hq730) mI_X10_believes (c := 10) rfl t1 wM_L_170 mi_X10_believes sl_X10_believes dL_law__730 rfl ⟨by omega, by omega⟩ rfl (Nat.le_of_ble_eq_true rfl) ⟨by omega, by omega⟩ ?_
  refine z_istore (n := 0) F [(6, .int r_4), (5, .int r_2), (0, .ref b), (1, zr G 0), (2, zr G 116), (3, zr G 603), (4, .int (nI j))] dL_law__733 (Nat.le_of_ble_eq_true rfl) rfl ?_
  refine z_aload_n F dL_law__735 rfl 4 rfl ?_
  obtain ⟨r_6, v_5, hq736, h⟩ := zbind_ex h
  refine z_callVi F [] [] (kX10_thrown x.2.1 G 116 t1 v_3 r_6 v_5 hq736) mI_X10_thrown (c := 10) rfl t1 wM_L_144 mi_X10_thrown sl_X10_thrown dL_law__736 rfl ⟨by omega, by omega⟩ rfl (Nat.le_of_ble_eq_true rfl) ⟨by omega, by omega⟩ ?_
  refine z_iload F dL_law__739 1 rfl ?_
  refine z_icmp_eq F 746 dL_law__741 rfl (fun hc => ?_) (fun hc => ?_)
  · replace h := zif_t hc h
    refine z_iload F dL_law__746 1 rfl ?_
    refine z_if_ne F 763 dL_law__748 rfl (fun hc => ?_) (fun hc => ?_)
    · replace h := zif_f hc h
      refine z_goto F 2917 dL_law__763 rfl ?_
      cases h
      refine z_ls [(0, .ref b), (1, zr G 0), (2, zr G 116), (3, zr G 603), (4, .int (nI j))] [2, 3, 4, 5, 6] rfl ?_
      exact z_wide (cs' := cs + 5) (sl' := sl + 30) (by omega) (by omega) kk
    · replace h := zif_t hc h
      refine z_aload_n F dL_law__751 rfl 5 rfl ?_
      refine z_iconst (y := (0 : Int32)) F dL_law__752 rfl ?_
      obtain ⟨hi753, h⟩ := zix_ex h
      refine z_lald F t3 dL_law__753 hi753 ?_
      refine z_iload F dL_law__754 0 rfl ?_
      refine z_i2l F dL_law__756 ?_
      refine z_lcmp F dL_law__757 ?_
      refine z_if_eq F 763 dL_law__758 rfl (fun hc => ?_) (fun hc => ?_)
      · replace h := zif_t hc h
        refine z_goto F 2917 dL_law__763 rfl ?_
        cases h
        refine z_ls [(0, .ref b), (1, zr G 0), (2, zr G 116), (3, zr G 603), (4, .int (nI j))] [2, 3, 4, 5, 6] rfl ?_
        exact z_wide (cs' := cs + 5) (sl' := sl + 30) (by omega) (by omega) kk
      · replace h := zif_f hc h
        exact absurd h (by intro q; cases q)
  · replace h := zif_f hc h
    exact absurd h (by intro q; cases q)

