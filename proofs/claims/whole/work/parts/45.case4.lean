theorem dL_law__2243 : decode cL_law_ 2243 = .ok (.aload_n 1, 1) := by decide +kernel
theorem dL_law__2244 : decode cL_law_ 2244 = .ok (.invokevirtual 259, 3) := by decide +kernel
theorem dL_law__2247 : decode cL_law_ 2247 = .ok (.aload_n 2, 1) := by decide +kernel
theorem dL_law__2248 : decode cL_law_ 2248 = .ok (.invokevirtual 262, 3) := by decide +kernel
theorem dL_law__2251 : decode cL_law_ 2251 = .ok (.if_icmp .eq 666, 3) := by decide +kernel
theorem dL_law__2254 : decode cL_law_ 2254 = .ok (.iconst 0, 1) := by decide +kernel
theorem dL_law__2255 : decode cL_law_ 2255 = .ok (.ireturn, 1) := by decide +kernel
def fLc_36 (v : zV) : Option zV :=
  zbind (fX9_lead 0 v) fun r_2 v_1 =>
  zbind (fX10_lead 116 v_1) fun r_4 v_3 =>
  if r_2 = r_4 then
    some v_3
  else
    none
set_option maxRecDepth 8000 in
set_option maxHeartbeats 1000000 in
theorem jLc_36 {x : zCx} {G : zG} {fr lo b L : Nat} {xs : Nat → Int32} {Q : State → Prop} (F : zF x G cL_law_ 7 RL fr lo) (hfr : 400 ≤ fr ∧ 20000 ≤ lo) (hfl : x.2.1.stackTraces = false) (hX : va_X b L xs x.2.2.2.2.1 x.2.2.2.2.1.heap) (hbl : b < x.2.2.2.2.1.heap.size) (hbA : ¬ zA G b) (t0 : zty G 0 1 9) (t1 : zty G 116 1 10) (t3 : zty G 603 2 2) {j : Nat} (hj : j + 7 ≤ L) (hL : L < 2 ^ 31) {cs sl : Nat} (hcs : cs + 5 ≤ x.2.2.2.1.cells ∧ sl + 30 ≤ x.2.2.2.1.slots) (v w : zV) (h : fLc_36 v = some w) (kk : zJ x G 7 Q (cs + 5) (sl + 30) 2917 [(0, .ref b), (1, zr G 0), (2, zr G 116), (3, zr G 603), (4, .int (nI j))] [] w) : zJ x G 7 Q cs sl 2243 [(0, .ref b), (1, zr G 0), (2, zr G 116), (3, zr G 603), (4, .int (nI j))] [] v := by
  obtain ⟨hfr1, hfr2⟩ := hfr
  obtain ⟨hcs1, hcs2⟩ := hcs
  unfold fLc_36 at h
  refine z_aload_n F dL_law__2243 rfl 1 rfl ?_
  obtain ⟨r_2, v_1, hq2244, h⟩ := zbind_ex h
  refine z_callVi F [] [] (kX9_lead x.2.1 G 0 t0 v r_2 v_1 hq2244) mI_X9_lead (c := 9) rfl t0 wM_L_259 mi_X9_lead sl_X9_lead dL_law__2244 rfl ⟨by omega, by omega⟩ rfl (Nat.le_of_ble_eq_true rfl) ⟨by omega, by omega⟩ ?_
  refine z_aload_n F dL_law__2247 rfl 2 rfl ?_
  obtain ⟨r_4, v_3, hq2248, h⟩ := zbind_ex h
  refine z_callVi F [] [.int r_2] (kX10_lead x.2.1 G 116 t1 v_1 r_4 v_3 hq2248) mI_X10_lead (c := 10) rfl t1 wM_L_262 mi_X10_lead sl_X10_lead dL_law__2248 rfl ⟨by omega, by omega⟩ rfl (Nat.le_of_ble_eq_true rfl) ⟨by omega, by omega⟩ ?_
  refine z_icmp_eq F 2917 dL_law__2251 rfl (fun hc => ?_) (fun hc => ?_)
  · replace h := zif_t hc h
    cases h
    refine z_ls [(0, .ref b), (1, zr G 0), (2, zr G 116), (3, zr G 603), (4, .int (nI j))] [0, 1, 2, 3, 4] rfl ?_
    exact z_wide (cs' := cs + 5) (sl' := sl + 30) (by omega) (by omega) kk
  · replace h := zif_f hc h
    exact absurd h (by intro q; cases q)

theorem dL_law__2256 : decode cL_law_ 2256 = .ok (.aload_n 1, 1) := by decide +kernel
theorem dL_law__2257 : decode cL_law_ 2257 = .ok (.aload_n 0, 1) := by decide +kernel
theorem dL_law__2258 : decode cL_law_ 2258 = .ok (.iload 4, 2) := by decide +kernel
theorem dL_law__2260 : decode cL_law_ 2260 = .ok (.iconst 1, 1) := by decide +kernel
theorem dL_law__2261 : decode cL_law_ 2261 = .ok (.iadd, 1) := by decide +kernel
theorem dL_law__2262 : decode cL_law_ 2262 = .ok (.iaload, 1) := by decide +kernel
theorem dL_law__2263 : decode cL_law_ 2263 = .ok (.aload_n 3, 1) := by decide +kernel
theorem dL_law__2264 : decode cL_law_ 2264 = .ok (.invokestatic 263, 3) := by decide +kernel
theorem dL_law__2267 : decode cL_law_ 2267 = .ok (.istore 5, 2) := by decide +kernel
theorem dL_law__2269 : decode cL_law_ 2269 = .ok (.aload_n 2, 1) := by decide +kernel
theorem dL_law__2270 : decode cL_law_ 2270 = .ok (.aload_n 0, 1) := by decide +kernel
theorem dL_law__2271 : decode cL_law_ 2271 = .ok (.iload 4, 2) := by decide +kernel
theorem dL_law__2273 : decode cL_law_ 2273 = .ok (.iconst 1, 1) := by decide +kernel
theorem dL_law__2274 : decode cL_law_ 2274 = .ok (.iadd, 1) := by decide +kernel
theorem dL_law__2275 : decode cL_law_ 2275 = .ok (.iaload, 1) := by decide +kernel
theorem dL_law__2276 : decode cL_law_ 2276 = .ok (.invokevirtual 265, 3) := by decide +kernel
theorem dL_law__2279 : decode cL_law_ 2279 = .ok (.istore 6, 2) := by decide +kernel
theorem dL_law__2281 : decode cL_law_ 2281 = .ok (.aload_n 2, 1) := by decide +kernel
theorem dL_law__2282 : decode cL_law_ 2282 = .ok (.invokevirtual 144, 3) := by decide +kernel
theorem dL_law__2285 : decode cL_law_ 2285 = .ok (.iload 5, 2) := by decide +kernel
theorem dL_law__2287 : decode cL_law_ 2287 = .ok (.if_icmp .eq 5, 3) := by decide +kernel
theorem dL_law__2290 : decode cL_law_ 2290 = .ok (.iconst 0, 1) := by decide +kernel
theorem dL_law__2291 : decode cL_law_ 2291 = .ok (.ireturn, 1) := by decide +kernel
theorem dL_law__2292 : decode cL_law_ 2292 = .ok (.iload 5, 2) := by decide +kernel
theorem dL_law__2294 : decode cL_law_ 2294 = .ok (.ifCond .ne 15, 3) := by decide +kernel
theorem dL_law__2297 : decode cL_law_ 2297 = .ok (.aload_n 3, 1) := by decide +kernel
theorem dL_law__2298 : decode cL_law_ 2298 = .ok (.iconst 0, 1) := by decide +kernel
theorem dL_law__2299 : decode cL_law_ 2299 = .ok (.laload, 1) := by decide +kernel
theorem dL_law__2300 : decode cL_law_ 2300 = .ok (.iload 6, 2) := by decide +kernel
theorem dL_law__2302 : decode cL_law_ 2302 = .ok (.i2l, 1) := by decide +kernel
theorem dL_law__2303 : decode cL_law_ 2303 = .ok (.lcmp, 1) := by decide +kernel
theorem dL_law__2304 : decode cL_law_ 2304 = .ok (.ifCond .eq 5, 3) := by decide +kernel
theorem dL_law__2307 : decode cL_law_ 2307 = .ok (.iconst 0, 1) := by decide +kernel
theorem dL_law__2308 : decode cL_law_ 2308 = .ok (.ireturn, 1) := by decide +kernel
theorem dL_law__2309 : decode cL_law_ 2309 = .ok (.goto 608, 3) := by decide +kernel
def fLc_37 (p1 : Int32) (v : zV) : Option zV :=
  zbind (fL_wants 0 p1 603 v) fun r_2 v_1 =>
  zbind (fX10_wants 116 p1 v_1) fun r_4 v_3 =>
  zbind (fX10_thrown 116 v_3) fun r_6 v_5 =>
  if r_6 = r_2 then
    if r_2 = (0 : Int32) then
      zix (0 : Int32) (zlen 603) <|
      if (lg_cmp ((v_5 603 (0 : Int32).toNatClampNeg).toInt64) ((r_4).toInt64)) = (0 : Int32) then
        some v_5
      else
        none
    else
      some v_5
  else
    none
set_option maxRecDepth 8000 in
set_option maxHeartbeats 1000000 in
theorem jLc_37 {x : zCx} {G : zG} {fr lo b L : Nat} {xs : Nat → Int32} {Q : State → Prop} (F : zF x G cL_law_ 7 RL fr lo) (hfr : 400 ≤ fr ∧ 20000 ≤ lo) (hfl : x.2.1.stackTraces = false) (hX : va_X b L xs x.2.2.2.2.1 x.2.2.2.2.1.heap) (hbl : b < x.2.2.2.2.1.heap.size) (hbA : ¬ zA G b) (t0 : zty G 0 1 9) (t1 : zty G 116 1 10) (t3 : zty G 603 2 2) {j : Nat} (hj : j + 7 ≤ L) (hL : L < 2 ^ 31) {cs sl : Nat} (hcs : cs + 5 ≤ x.2.2.2.1.cells ∧ sl + 30 ≤ x.2.2.2.1.slots) (v w : zV) (h : fLc_37 (xs (j + 1)) v = some w) (kk : zJ x G 7 Q (cs + 5) (sl + 30) 2917 [(0, .ref b), (1, zr G 0), (2, zr G 116), (3, zr G 603), (4, .int (nI j))] [] w) : zJ x G 7 Q cs sl 2256 [(0, .ref b), (1, zr G 0), (2, zr G 116), (3, zr G 603), (4, .int (nI j))] [] v := by
  obtain ⟨hfr1, hfr2⟩ := hfr
  obtain ⟨hcs1, hcs2⟩ := hcs
  unfold fLc_37 at h
  refine z_aload_n F dL_law__2256 rfl 1 rfl ?_
  refine z_aload_n F dL_law__2257 rfl 0 rfl ?_
  refine z_iload F dL_law__2258 4 rfl ?_
  refine z_iconst (y := (1 : Int32)) F dL_law__2260 rfl ?_
  refine z_iadd F dL_law__2261 ?_
  refine z_sld F hX hbl hbA (nI_add j 1) (by omega) hL dL_law__2262 ?_
  refine z_aload_n F dL_law__2263 rfl 3 rfl ?_
  obtain ⟨r_2, v_1, hq2264, h⟩ := zbind_ex h
  refine z_callSW (n := 3) F [zr G 0, .int (xs (j + 1)), zr G 603] [] (kL_wants x.2.1 G 0 t0 (xs (j + 1)) 603 t3 v r_2 v_1 hfl hq2264) kw_L_wants wM_L_263 ms_L_wants dL_law__2264 rfl (by decide +kernel) ⟨by omega, by omega⟩ rfl (Nat.le_of_ble_eq_true rfl) ⟨by omega, by omega⟩ ?_
  refine z_istore (n := 0) F [(5, .int r_2), (0, .ref b), (1, zr G 0), (2, zr G 116), (3, zr G 603), (4, .int (nI j))] dL_law__2267 (Nat.le_of_ble_eq_true rfl) rfl ?_
  refine z_aload_n F dL_law__2269 rfl 3 rfl ?_
  refine z_aload_n F dL_law__2270 rfl 1 rfl ?_
  refine z_iload F dL_law__2271 5 rfl ?_
  refine z_iconst (y := (1 : Int32)) F dL_law__2273 rfl ?_
  refine z_iadd F dL_law__2274 ?_
  refine z_sld F hX hbl hbA (nI_add j 1) (by omega) hL dL_law__2275 ?_
  obtain ⟨r_4, v_3, hq2276, h⟩ := zbind_ex h
  refine z_callVi F [.int (xs (j + 1))] [] (kX10_wants x.2.1 G 116 t1 (xs (j + 1)) v_1 r_4 v_3 hq2276) mI_X10_wants (c := 10) rfl t1 wM_L_265 mi_X10_wants sl_X10_wants dL_law__2276 rfl ⟨by omega, by omega⟩ rfl (Nat.le_of_ble_eq_true rfl) ⟨by omega, by omega⟩ ?_
  refine z_istore (n := 0) F [(6, .int r_4), (5, .int r_2), (0, .ref b), (1, zr G 0), (2, zr G 116), (3, zr G 603), (4, .int (nI j))] dL_law__2279 (Nat.le_of_ble_eq_true rfl) rfl ?_
  refine z_aload_n F dL_law__2281 rfl 4 rfl ?_
  obtain ⟨r_6, v_5, hq2282, h⟩ := zbind_ex h
  refine z_callVi F [] [] (kX10_thrown x.2.1 G 116 t1 v_3 r_6 v_5 hq2282) mI_X10_thrown (c := 10) rfl t1 wM_L_144 mi_X10_thrown sl_X10_thrown dL_law__2282 rfl ⟨by omega, by omega⟩ rfl (Nat.le_of_ble_eq_true rfl) ⟨by omega, by omega⟩ ?_
  refine z_iload F dL_law__2285 1 rfl ?_
  refine z_icmp_eq F 2292 dL_law__2287 rfl (fun hc => ?_) (fun hc => ?_)
  · replace h := zif_t hc h
    refine z_iload F dL_law__2292 1 rfl ?_
    refine z_if_ne F 2309 dL_law__2294 rfl (fun hc => ?_) (fun hc => ?_)
    · replace h := zif_f hc h
      refine z_goto F 2917 dL_law__2309 rfl ?_
      cases h
      refine z_ls [(0, .ref b), (1, zr G 0), (2, zr G 116), (3, zr G 603), (4, .int (nI j))] [2, 3, 4, 5, 6] rfl ?_
      exact z_wide (cs' := cs + 5) (sl' := sl + 30) (by omega) (by omega) kk
    · replace h := zif_t hc h
      refine z_aload_n F dL_law__2297 rfl 5 rfl ?_
      refine z_iconst (y := (0 : Int32)) F dL_law__2298 rfl ?_
      obtain ⟨hi2299, h⟩ := zix_ex h
      refine z_lald F t3 dL_law__2299 hi2299 ?_
      refine z_iload F dL_law__2300 0 rfl ?_
      refine z_i2l F dL_law__2302 ?_
      refine z_lcmp F dL_law__2303 ?_
      refine z_if_eq F 2309 dL_law__2304 rfl (fun hc => ?_) (fun hc => ?_)
      · replace h := zif_t hc h
        refine z_goto F 2917 dL_law__2309 rfl ?_
        cases h
        refine z_ls [(0, .ref b), (1, zr G 0), (2, zr G 116), (3, zr G 603), (4, .int (nI j))] [2, 3, 4, 5, 6] rfl ?_
        exact z_wide (cs' := cs + 5) (sl' := sl + 30) (by omega) (by omega) kk
      · replace h := zif_f hc h
        exact absurd h (by intro q; cases q)
  · replace h := zif_f hc h
    exact absurd h (by intro q; cases q)

theorem dL_law__2312 : decode cL_law_ 2312 = .ok (.aload_n 1, 1) := by decide +kernel
theorem dL_law__2313 : decode cL_law_ 2313 = .ok (.aload_n 0, 1) := by decide +kernel
theorem dL_law__2314 : decode cL_law_ 2314 = .ok (.iload 4, 2) := by decide +kernel
theorem dL_law__2316 : decode cL_law_ 2316 = .ok (.iconst 1, 1) := by decide +kernel
theorem dL_law__2317 : decode cL_law_ 2317 = .ok (.iadd, 1) := by decide +kernel
theorem dL_law__2318 : decode cL_law_ 2318 = .ok (.iaload, 1) := by decide +kernel
theorem dL_law__2319 : decode cL_law_ 2319 = .ok (.aload_n 3, 1) := by decide +kernel
theorem dL_law__2320 : decode cL_law_ 2320 = .ok (.invokestatic 266, 3) := by decide +kernel
theorem dL_law__2323 : decode cL_law_ 2323 = .ok (.istore 5, 2) := by decide +kernel
theorem dL_law__2325 : decode cL_law_ 2325 = .ok (.aload_n 2, 1) := by decide +kernel
theorem dL_law__2326 : decode cL_law_ 2326 = .ok (.aload_n 0, 1) := by decide +kernel
theorem dL_law__2327 : decode cL_law_ 2327 = .ok (.iload 4, 2) := by decide +kernel
theorem dL_law__2329 : decode cL_law_ 2329 = .ok (.iconst 1, 1) := by decide +kernel
theorem dL_law__2330 : decode cL_law_ 2330 = .ok (.iadd, 1) := by decide +kernel
theorem dL_law__2331 : decode cL_law_ 2331 = .ok (.iaload, 1) := by decide +kernel
theorem dL_law__2332 : decode cL_law_ 2332 = .ok (.invokevirtual 268, 3) := by decide +kernel
theorem dL_law__2335 : decode cL_law_ 2335 = .ok (.istore 6, 2) := by decide +kernel
theorem dL_law__2337 : decode cL_law_ 2337 = .ok (.aload_n 2, 1) := by decide +kernel
theorem dL_law__2338 : decode cL_law_ 2338 = .ok (.invokevirtual 144, 3) := by decide +kernel
theorem dL_law__2341 : decode cL_law_ 2341 = .ok (.iload 5, 2) := by decide +kernel
theorem dL_law__2343 : decode cL_law_ 2343 = .ok (.if_icmp .eq 5, 3) := by decide +kernel
theorem dL_law__2346 : decode cL_law_ 2346 = .ok (.iconst 0, 1) := by decide +kernel
theorem dL_law__2347 : decode cL_law_ 2347 = .ok (.ireturn, 1) := by decide +kernel
theorem dL_law__2348 : decode cL_law_ 2348 = .ok (.iload 5, 2) := by decide +kernel
theorem dL_law__2350 : decode cL_law_ 2350 = .ok (.ifCond .ne 15, 3) := by decide +kernel
theorem dL_law__2353 : decode cL_law_ 2353 = .ok (.aload_n 3, 1) := by decide +kernel
theorem dL_law__2354 : decode cL_law_ 2354 = .ok (.iconst 0, 1) := by decide +kernel
theorem dL_law__2355 : decode cL_law_ 2355 = .ok (.laload, 1) := by decide +kernel
theorem dL_law__2356 : decode cL_law_ 2356 = .ok (.iload 6, 2) := by decide +kernel
theorem dL_law__2358 : decode cL_law_ 2358 = .ok (.i2l, 1) := by decide +kernel
theorem dL_law__2359 : decode cL_law_ 2359 = .ok (.lcmp, 1) := by decide +kernel
theorem dL_law__2360 : decode cL_law_ 2360 = .ok (.ifCond .eq 5, 3) := by decide +kernel
theorem dL_law__2363 : decode cL_law_ 2363 = .ok (.iconst 0, 1) := by decide +kernel
theorem dL_law__2364 : decode cL_law_ 2364 = .ok (.ireturn, 1) := by decide +kernel
theorem dL_law__2365 : decode cL_law_ 2365 = .ok (.goto 552, 3) := by decide +kernel
def fLc_38 (p1 : Int32) (v : zV) : Option zV :=
  zbind (fL_stays 0 p1 603 v) fun r_2 v_1 =>
  zbind (fX10_stays 116 p1 v_1) fun r_4 v_3 =>
  zbind (fX10_thrown 116 v_3) fun r_6 v_5 =>
  if r_6 = r_2 then
    if r_2 = (0 : Int32) then
      zix (0 : Int32) (zlen 603) <|
      if (lg_cmp ((v_5 603 (0 : Int32).toNatClampNeg).toInt64) ((r_4).toInt64)) = (0 : Int32) then
        some v_5
      else
        none
    else
      some v_5
  else
    none
set_option maxRecDepth 8000 in
set_option maxHeartbeats 1000000 in
theorem jLc_38 {x : zCx} {G : zG} {fr lo b L : Nat} {xs : Nat → Int32} {Q : State → Prop} (F : zF x G cL_law_ 7 RL fr lo) (hfr : 400 ≤ fr ∧ 20000 ≤ lo) (hfl : x.2.1.stackTraces = false) (hX : va_X b L xs x.2.2.2.2.1 x.2.2.2.2.1.heap) (hbl : b < x.2.2.2.2.1.heap.size) (hbA : ¬ zA G b) (t0 : zty G 0 1 9) (t1 : zty G 116 1 10) (t3 : zty G 603 2 2) {j : Nat} (hj : j + 7 ≤ L) (hL : L < 2 ^ 31) {cs sl : Nat} (hcs : cs + 5 ≤ x.2.2.2.1.cells ∧ sl + 30 ≤ x.2.2.2.1.slots) (v w : zV) (h : fLc_38 (xs (j + 1)) v = some w) (kk : zJ x G 7 Q (cs + 5) (sl + 30) 2917 [(0, .ref b), (1, zr G 0), (2, zr G 116), (3, zr G 603), (4, .int (nI j))] [] w) : zJ x G 7 Q cs sl 2312 [(0, .ref b), (1, zr G 0), (2, zr G 116), (3, zr G 603), (4, .int (nI j))] [] v := by
  obtain ⟨hfr1, hfr2⟩ := hfr
  obtain ⟨hcs1, hcs2⟩ := hcs
  unfold fLc_38 at h
  refine z_aload_n F dL_law__2312 rfl 1 rfl ?_
  refine z_aload_n F dL_law__2313 rfl 0 rfl ?_
  refine z_iload F dL_law__2314 4 rfl ?_
  refine z_iconst (y := (1 : Int32)) F dL_law__2316 rfl ?_
  refine z_iadd F dL_law__2317 ?_
  refine z_sld F hX hbl hbA (nI_add j 1) (by omega) hL dL_law__2318 ?_
  refine z_aload_n F dL_law__2319 rfl 3 rfl ?_
  obtain ⟨r_2, v_1, hq2320, h⟩ := zbind_ex h
  refine z_callSW (n := 3) F [zr G 0, .int (xs (j + 1)), zr G 603] [] (kL_stays x.2.1 G 0 t0 (xs (j + 1)) 603 t3 v r_2 v_1 hfl hq2320) kw_L_stays wM_L_266 ms_L_stays dL_law__2320 rfl (by decide +kernel) ⟨by omega, by omega⟩ rfl (Nat.le_of_ble_eq_true rfl) ⟨by omega, by omega⟩ ?_
  refine z_istore (n := 0) F [(5, .int r_2), (0, .ref b), (1, zr G 0), (2, zr G 116), (3, zr G 603), (4, .int (nI j))] dL_law__2323 (Nat.le_of_ble_eq_true rfl) rfl ?_
  refine z_aload_n F dL_law__2325 rfl 3 rfl ?_
  refine z_aload_n F dL_law__2326 rfl 1 rfl ?_
  refine z_iload F dL_law__2327 5 rfl ?_
  refine z_iconst (y := (1 : Int32)) F dL_law__2329 rfl ?_
  refine z_iadd F dL_law__2330 ?_
  refine z_sld F hX hbl hbA (nI_add j 1) (by omega) hL dL_law__2331 ?_
  obtain ⟨r_4, v_3, hq2332, h⟩ := zbind_ex h
  refine z_callVi F [.int (xs (j + 1))] [] (kX10_stays x.2.1 G 116 t1 (xs (j + 1)) v_1 r_4 v_3 hq2332) mI_X10_stays (c := 10) rfl t1 wM_L_268 mi_X10_stays sl_X10_stays dL_law__2332 rfl ⟨by omega, by omega⟩ rfl (Nat.le_of_ble_eq_true rfl) ⟨by omega, by omega⟩ ?_
  refine z_istore (n := 0) F [(6, .int r_4), (5, .int r_2), (0, .ref b), (1, zr G 0), (2, zr G 116), (3, zr G 603), (4, .int (nI j))] dL_law__2335 (Nat.le_of_ble_eq_true rfl) rfl ?_
  refine z_aload_n F dL_law__2337 rfl 4 rfl ?_
  obtain ⟨r_6, v_5, hq2338, h⟩ := zbind_ex h
  refine z_callVi F [] [] (kX10_thrown x.2.1 G 116 t1 v_3 r_6 v_5 hq2338) mI_X10_thrown (c := 10) rfl t1 wM_L_144 mi_X10_thrown sl_X10_thrown dL_law__2338 rfl ⟨by omega, by omega⟩ rfl (Nat.le_of_ble_eq_true rfl) ⟨by omega, by omega⟩ ?_
  refine z_iload F dL_law__2341 1 rfl ?_
  refine z_icmp_eq F 2348 dL_law__2343 rfl (fun hc => ?_) (fun hc => ?_)
  · replace h := zif_t hc h
    refine z_iload F dL_law__2348 1 rfl ?_
    refine z_if_ne F 2365 dL_law__2350 rfl (fun hc => ?_) (fun hc => ?_)
    · replace h := zif_f hc h
      refine z_goto F 2917 dL_law__2365 rfl ?_
      cases h
      refine z_ls [(0, .ref b), (1, zr G 0), (2, zr G 116), (3, zr G 603), (4, .int (nI j))] [2, 3, 4, 5, 6] rfl ?_
      exact z_wide (cs' := cs + 5) (sl' := sl + 30) (by omega) (by omega) kk
    · replace h := zif_t hc h
      refine z_aload_n F dL_law__2353 rfl 5 rfl ?_
      refine z_iconst (y := (0 : Int32)) F dL_law__2354 rfl ?_
      obtain ⟨hi2355, h⟩ := zix_ex h
      refine z_lald F t3 dL_law__2355 hi2355 ?_
      refine z_iload F dL_law__2356 0 rfl ?_
      refine z_i2l F dL_law__2358 ?_
      refine z_lcmp F dL_law__2359 ?_
      refine z_if_eq F 2365 dL_law__2360 rfl (fun hc => ?_) (fun hc => ?_)
      · replace h := zif_t hc h
        refine z_goto F 2917 dL_law__2365 rfl ?_
        cases h
        refine z_ls [(0, .ref b), (1, zr G 0), (2, zr G 116), (3, zr G 603), (4, .int (nI j))] [2, 3, 4, 5, 6] rfl ?_
        exact z_wide (cs' := cs + 5) (sl' := sl + 30) (by omega) (by omega) kk
      · replace h := zif_f hc h
        exact absurd h (by intro q; cases q)
  · replace h := zif_f hc h
    exact absurd h (by intro q; cases q)

theorem dL_law__2368 : decode cL_law_ 2368 = .ok (.aload_n 1, 1) := by decide +kernel
theorem dL_law__2369 : decode cL_law_ 2369 = .ok (.aload_n 0, 1) := by decide +kernel
theorem dL_law__2370 : decode cL_law_ 2370 = .ok (.iload 4, 2) := by decide +kernel
theorem dL_law__2372 : decode cL_law_ 2372 = .ok (.iconst 1, 1) := by decide +kernel
theorem dL_law__2373 : decode cL_law_ 2373 = .ok (.iadd, 1) := by decide +kernel
theorem dL_law__2374 : decode cL_law_ 2374 = .ok (.iaload, 1) := by decide +kernel
theorem dL_law__2375 : decode cL_law_ 2375 = .ok (.aload_n 3, 1) := by decide +kernel
theorem dL_law__2376 : decode cL_law_ 2376 = .ok (.invokestatic 269, 3) := by decide +kernel
theorem dL_law__2379 : decode cL_law_ 2379 = .ok (.istore 5, 2) := by decide +kernel
theorem dL_law__2381 : decode cL_law_ 2381 = .ok (.aload_n 2, 1) := by decide +kernel
theorem dL_law__2382 : decode cL_law_ 2382 = .ok (.aload_n 0, 1) := by decide +kernel
theorem dL_law__2383 : decode cL_law_ 2383 = .ok (.iload 4, 2) := by decide +kernel
theorem dL_law__2385 : decode cL_law_ 2385 = .ok (.iconst 1, 1) := by decide +kernel
theorem dL_law__2386 : decode cL_law_ 2386 = .ok (.iadd, 1) := by decide +kernel
theorem dL_law__2387 : decode cL_law_ 2387 = .ok (.iaload, 1) := by decide +kernel
theorem dL_law__2388 : decode cL_law_ 2388 = .ok (.invokevirtual 271, 3) := by decide +kernel
theorem dL_law__2391 : decode cL_law_ 2391 = .ok (.istore 6, 2) := by decide +kernel
theorem dL_law__2393 : decode cL_law_ 2393 = .ok (.aload_n 2, 1) := by decide +kernel
theorem dL_law__2394 : decode cL_law_ 2394 = .ok (.invokevirtual 144, 3) := by decide +kernel
theorem dL_law__2397 : decode cL_law_ 2397 = .ok (.iload 5, 2) := by decide +kernel
theorem dL_law__2399 : decode cL_law_ 2399 = .ok (.if_icmp .eq 5, 3) := by decide +kernel
theorem dL_law__2402 : decode cL_law_ 2402 = .ok (.iconst 0, 1) := by decide +kernel
theorem dL_law__2403 : decode cL_law_ 2403 = .ok (.ireturn, 1) := by decide +kernel
theorem dL_law__2404 : decode cL_law_ 2404 = .ok (.iload 5, 2) := by decide +kernel
theorem dL_law__2406 : decode cL_law_ 2406 = .ok (.ifCond .ne 15, 3) := by decide +kernel
theorem dL_law__2409 : decode cL_law_ 2409 = .ok (.aload_n 3, 1) := by decide +kernel
theorem dL_law__2410 : decode cL_law_ 2410 = .ok (.iconst 0, 1) := by decide +kernel
theorem dL_law__2411 : decode cL_law_ 2411 = .ok (.laload, 1) := by decide +kernel
theorem dL_law__2412 : decode cL_law_ 2412 = .ok (.iload 6, 2) := by decide +kernel
theorem dL_law__2414 : decode cL_law_ 2414 = .ok (.i2l, 1) := by decide +kernel
theorem dL_law__2415 : decode cL_law_ 2415 = .ok (.lcmp, 1) := by decide +kernel
theorem dL_law__2416 : decode cL_law_ 2416 = .ok (.ifCond .eq 5, 3) := by decide +kernel
theorem dL_law__2419 : decode cL_law_ 2419 = .ok (.iconst 0, 1) := by decide +kernel
theorem dL_law__2420 : decode cL_law_ 2420 = .ok (.ireturn, 1) := by decide +kernel
theorem dL_law__2421 : decode cL_law_ 2421 = .ok (.goto 496, 3) := by decide +kernel
def fLc_39 (p1 : Int32) (v : zV) : Option zV :=
  zbind (fL_doomed 0 p1 603 v) fun r_2 v_1 =>
  zbind (fX10_doomed 116 p1 v_1) fun r_4 v_3 =>
  zbind (fX10_thrown 116 v_3) fun r_6 v_5 =>
  if r_6 = r_2 then
    if r_2 = (0 : Int32) then
      zix (0 : Int32) (zlen 603) <|
      if (lg_cmp ((v_5 603 (0 : Int32).toNatClampNeg).toInt64) ((r_4).toInt64)) = (0 : Int32) then
        some v_5
      else
        none
    else
      some v_5
  else
    none
set_option maxRecDepth 8000 in
set_option maxHeartbeats 1000000 in
theorem jLc_39 {x : zCx} {G : zG} {fr lo b L : Nat} {xs : Nat → Int32} {Q : State → Prop} (F : zF x G cL_law_ 7 RL fr lo) (hfr : 400 ≤ fr ∧ 20000 ≤ lo) (hfl : x.2.1.stackTraces = false) (hX : va_X b L xs x.2.2.2.2.1 x.2.2.2.2.1.heap) (hbl : b < x.2.2.2.2.1.heap.size) (hbA : ¬ zA G b) (t0 : zty G 0 1 9) (t1 : zty G 116 1 10) (t3 : zty G 603 2 2) {j : Nat} (hj : j + 7 ≤ L) (hL : L < 2 ^ 31) {cs sl : Nat} (hcs : cs + 5 ≤ x.2.2.2.1.cells ∧ sl + 30 ≤ x.2.2.2.1.slots) (v w : zV) (h : fLc_39 (xs (j + 1)) v = some w) (kk : zJ x G 7 Q (cs + 5) (sl + 30) 2917 [(0, .ref b), (1, zr G 0), (2, zr G 116), (3, zr G 603), (4, .int (nI j))] [] w) : zJ x G 7 Q cs sl 2368 [(0, .ref b), (1, zr G 0), (2, zr G 116), (3, zr G 603), (4, .int (nI j))] [] v := by
  obtain ⟨hfr1, hfr2⟩ := hfr
  obtain ⟨hcs1, hcs2⟩ := hcs
  unfold fLc_39 at h
  refine z_aload_n F dL_law__2368 rfl 1 rfl ?_
  refine z_aload_n F dL_law__2369 rfl 0 rfl ?_
  refine z_iload F dL_law__2370 4 rfl ?_
  refine z_iconst (y := (1 : Int32)) F dL_law__2372 rfl ?_
  refine z_iadd F dL_law__2373 ?_
  refine z_sld F hX hbl hbA (nI_add j 1) (by omega) hL dL_law__2374 ?_
  refine z_aload_n F dL_law__2375 rfl 3 rfl ?_
  obtain ⟨r_2, v_1, hq2376, h⟩ := zbind_ex h
  refine z_callSW (n := 3) F [zr G 0, .int (xs (j + 1)), zr G 603] [] (kL_doomed x.2.1 G 0 t0 (xs (j + 1)) 603 t3 v r_2 v_1 hfl hq2376) kw_L_doomed wM_L_269 ms_L_doomed dL_law__2376 rfl (by decide +kernel) ⟨by omega, by omega⟩ rfl (Nat.le_of_ble_eq_true rfl) ⟨by omega, by omega⟩ ?_
  refine z_istore (n := 0) F [(5, .int r_2), (0, .ref b), (1, zr G 0), (2, zr G 116), (3, zr G 603), (4, .int (nI j))] dL_law__2379 (Nat.le_of_ble_eq_true rfl) rfl ?_
  refine z_aload_n F dL_law__2381 rfl 3 rfl ?_
  refine z_aload_n F dL_law__2382 rfl 1 rfl ?_
  refine z_iload F dL_law__2383 5 rfl ?_
  refine z_iconst (y := (1 : Int32)) F dL_law__2385 rfl ?_
  refine z_iadd F dL_law__2386 ?_
  refine z_sld F hX hbl hbA (nI_add j 1) (by omega) hL dL_law__2387 ?_
  obtain ⟨r_4, v_3, hq2388, h⟩ := zbind_ex h
  refine z_callVi F [.int (xs (j + 1))] [] (kX10_doomed x.2.1 G 116 t1 (xs (j + 1)) v_1 r_4 v_3 hq2388) mI_X10_doomed (c := 10) rfl t1 wM_L_271 mi_X10_doomed sl_X10_doomed dL_law__2388 rfl ⟨by omega, by omega⟩ rfl (Nat.le_of_ble_eq_true rfl) ⟨by omega, by omega⟩ ?_
  refine z_istore (n := 0) F [(6, .int r_4), (5, .int r_2), (0, .ref b), (1, zr G 0), (2, zr G 116), (3, zr G 603), (4, .int (nI j))] dL_law__2391 (Nat.le_of_ble_eq_true rfl) rfl ?_
  refine z_aload_n F dL_law__2393 rfl 4 rfl ?_
  obtain ⟨r_6, v_5, hq2394, h⟩ := zbind_ex h
  refine z_callVi F [] [] (kX10_thrown x.2.1 G 116 t1 v_3 r_6 v_5 hq2394) mI_X10_thrown (c := 10) rfl t1 wM_L_144 mi_X10_thrown sl_X10_thrown dL_law__2394 rfl ⟨by omega, by omega⟩ rfl (Nat.le_of_ble_eq_true rfl) ⟨by omega, by omega⟩ ?_
  refine z_iload F dL_law__2397 1 rfl ?_
  refine z_icmp_eq F 2404 dL_law__2399 rfl (fun hc => ?_) (fun hc => ?_)
  · replace h := zif_t hc h
    refine z_iload F dL_law__2404 1 rfl ?_
    refine z_if_ne F 2421 dL_law__2406 rfl (fun hc => ?_) (fun hc => ?_)
    · replace h := zif_f hc h
      refine z_goto F 2917 dL_law__2421 rfl ?_
      cases h
      refine z_ls [(0, .ref b), (1, zr G 0), (2, zr G 116), (3, zr G 603), (4, .int (nI j))] [2, 3, 4, 5, 6] rfl ?_
      exact z_wide (cs' := cs + 5) (sl' := sl + 30) (by omega) (by omega) kk
    · replace h := zif_t hc h
      refine z_aload_n F dL_law__2409 rfl 5 rfl ?_
      refine z_iconst (y := (0 : Int32)) F dL_law__2410 rfl ?_
      obtain ⟨hi2411, h⟩ := zix_ex h
      refine z_lald F t3 dL_law__2411 hi2411 ?_
      refine z_iload F dL_law__2412 0 rfl ?_
      refine z_i2l F dL_law__2414 ?_
      refine z_lcmp F dL_law__2415 ?_
      refine z_if_eq F 2421 dL_law__2416 rfl (fun hc => ?_) (fun hc => ?_)
      · replace h := zif_t hc h
        refine z_goto F 2917 dL_law__2421 rfl ?_
        cases h
        refine z_ls [(0, .ref b), (1, zr G 0), (2, zr G 116), (3, zr G 603), (4, .int (nI j))] [2, 3, 4, 5, 6] rfl ?_
        exact z_wide (cs' := cs + 5) (sl' := sl + 30) (by omega) (by omega) kk
      · replace h := zif_f hc h
        exact absurd h (by intro q; cases q)
  · replace h := zif_f hc h
    exact absurd h (by intro q; cases q)

theorem dL_law__2424 : decode cL_law_ 2424 = .ok (.aload_n 1, 1) := by decide +kernel
theorem dL_law__2425 : decode cL_law_ 2425 = .ok (.invokevirtual 272, 3) := by decide +kernel
theorem dL_law__2428 : decode cL_law_ 2428 = .ok (.aload_n 2, 1) := by decide +kernel
theorem dL_law__2429 : decode cL_law_ 2429 = .ok (.invokevirtual 275, 3) := by decide +kernel
theorem dL_law__2432 : decode cL_law_ 2432 = .ok (.if_icmp .eq 485, 3) := by decide +kernel
theorem dL_law__2435 : decode cL_law_ 2435 = .ok (.iconst 0, 1) := by decide +kernel
theorem dL_law__2436 : decode cL_law_ 2436 = .ok (.ireturn, 1) := by decide +kernel
def fLc_40 (v : zV) : Option zV :=
  zbind (fX9_seams 0 v) fun r_2 v_1 =>
  zbind (fX10_seams 116 v_1) fun r_4 v_3 =>
  if r_2 = r_4 then
    some v_3
  else
    none
set_option maxRecDepth 8000 in
set_option maxHeartbeats 1000000 in
theorem jLc_40 {x : zCx} {G : zG} {fr lo b L : Nat} {xs : Nat → Int32} {Q : State → Prop} (F : zF x G cL_law_ 7 RL fr lo) (hfr : 400 ≤ fr ∧ 20000 ≤ lo) (hfl : x.2.1.stackTraces = false) (hX : va_X b L xs x.2.2.2.2.1 x.2.2.2.2.1.heap) (hbl : b < x.2.2.2.2.1.heap.size) (hbA : ¬ zA G b) (t0 : zty G 0 1 9) (t1 : zty G 116 1 10) (t3 : zty G 603 2 2) {j : Nat} (hj : j + 7 ≤ L) (hL : L < 2 ^ 31) {cs sl : Nat} (hcs : cs + 5 ≤ x.2.2.2.1.cells ∧ sl + 30 ≤ x.2.2.2.1.slots) (v w : zV) (h : fLc_40 v = some w) (kk : zJ x G 7 Q (cs + 5) (sl + 30) 2917 [(0, .ref b), (1, zr G 0), (2, zr G 116), (3, zr G 603), (4, .int (nI j))] [] w) : zJ x G 7 Q cs sl 2424 [(0, .ref b), (1, zr G 0), (2, zr G 116), (3, zr G 603), (4, .int (nI j))] [] v := by
  obtain ⟨hfr1, hfr2⟩ := hfr
  obtain ⟨hcs1, hcs2⟩ := hcs
  unfold fLc_40 at h
  refine z_aload_n F dL_law__2424 rfl 1 rfl ?_
  obtain ⟨r_2, v_1, hq2425, h⟩ := zbind_ex h
  refine z_callVi F [] [] (kX9_seams x.2.1 G 0 t0 v r_2 v_1 hq2425) mI_X9_seams (c := 9) rfl t0 wM_L_272 mi_X9_seams sl_X9_seams dL_law__2425 rfl ⟨by omega, by omega⟩ rfl (Nat.le_of_ble_eq_true rfl) ⟨by omega, by omega⟩ ?_
  refine z_aload_n F dL_law__2428 rfl 2 rfl ?_
  obtain ⟨r_4, v_3, hq2429, h⟩ := zbind_ex h
  refine z_callVi F [] [.int r_2] (kX10_seams x.2.1 G 116 t1 v_1 r_4 v_3 hq2429) mI_X10_seams (c := 10) rfl t1 wM_L_275 mi_X10_seams sl_X10_seams dL_law__2429 rfl ⟨by omega, by omega⟩ rfl (Nat.le_of_ble_eq_true rfl) ⟨by omega, by omega⟩ ?_
  refine z_icmp_eq F 2917 dL_law__2432 rfl (fun hc => ?_) (fun hc => ?_)
  · replace h := zif_t hc h
    cases h
    refine z_ls [(0, .ref b), (1, zr G 0), (2, zr G 116), (3, zr G 603), (4, .int (nI j))] [0, 1, 2, 3, 4] rfl ?_
    exact z_wide (cs' := cs + 5) (sl' := sl + 30) (by omega) (by omega) kk
  · replace h := zif_f hc h
    exact absurd h (by intro q; cases q)

theorem dL_law__2437 : decode cL_law_ 2437 = .ok (.aload_n 1, 1) := by decide +kernel
theorem dL_law__2438 : decode cL_law_ 2438 = .ok (.invokevirtual 276, 3) := by decide +kernel
theorem dL_law__2441 : decode cL_law_ 2441 = .ok (.aload_n 2, 1) := by decide +kernel
theorem dL_law__2442 : decode cL_law_ 2442 = .ok (.invokevirtual 279, 3) := by decide +kernel
theorem dL_law__2445 : decode cL_law_ 2445 = .ok (.if_icmp .eq 472, 3) := by decide +kernel
theorem dL_law__2448 : decode cL_law_ 2448 = .ok (.iconst 0, 1) := by decide +kernel
theorem dL_law__2449 : decode cL_law_ 2449 = .ok (.ireturn, 1) := by decide +kernel
def fLc_41 (v : zV) : Option zV :=
  zbind (fX9_ringed 0 v) fun r_2 v_1 =>
  zbind (fX10_ringed 116 v_1) fun r_4 v_3 =>
  if r_2 = r_4 then
    some v_3
  else
    none
set_option maxRecDepth 8000 in
set_option maxHeartbeats 1000000 in
theorem jLc_41 {x : zCx} {G : zG} {fr lo b L : Nat} {xs : Nat → Int32} {Q : State → Prop} (F : zF x G cL_law_ 7 RL fr lo) (hfr : 400 ≤ fr ∧ 20000 ≤ lo) (hfl : x.2.1.stackTraces = false) (hX : va_X b L xs x.2.2.2.2.1 x.2.2.2.2.1.heap) (hbl : b < x.2.2.2.2.1.heap.size) (hbA : ¬ zA G b) (t0 : zty G 0 1 9) (t1 : zty G 116 1 10) (t3 : zty G 603 2 2) {j : Nat} (hj : j + 7 ≤ L) (hL : L < 2 ^ 31) {cs sl : Nat} (hcs : cs + 5 ≤ x.2.2.2.1.cells ∧ sl + 30 ≤ x.2.2.2.1.slots) (v w : zV) (h : fLc_41 v = some w) (kk : zJ x G 7 Q (cs + 5) (sl + 30) 2917 [(0, .ref b), (1, zr G 0), (2, zr G 116), (3, zr G 603), (4, .int (nI j))] [] w) : zJ x G 7 Q cs sl 2437 [(0, .ref b), (1, zr G 0), (2, zr G 116), (3, zr G 603), (4, .int (nI j))] [] v := by
  obtain ⟨hfr1, hfr2⟩ := hfr
  obtain ⟨hcs1, hcs2⟩ := hcs
  unfold fLc_41 at h
  refine z_aload_n F dL_law__2437 rfl 1 rfl ?_
  obtain ⟨r_2, v_1, hq2438, h⟩ := zbind_ex h
  refine z_callVi F [] [] (kX9_ringed x.2.1 G 0 t0 v r_2 v_1 hq2438) mI_X9_ringed (c := 9) rfl t0 wM_L_276 mi_X9_ringed sl_X9_ringed dL_law__2438 rfl ⟨by omega, by omega⟩ rfl (Nat.le_of_ble_eq_true rfl) ⟨by omega, by omega⟩ ?_
  refine z_aload_n F dL_law__2441 rfl 2 rfl ?_
  obtain ⟨r_4, v_3, hq2442, h⟩ := zbind_ex h
  refine z_callVi F [] [.int r_2] (kX10_ringed x.2.1 G 116 t1 v_1 r_4 v_3 hq2442) mI_X10_ringed (c := 10) rfl t1 wM_L_279 mi_X10_ringed sl_X10_ringed dL_law__2442 rfl ⟨by omega, by omega⟩ rfl (Nat.le_of_ble_eq_true rfl) ⟨by omega, by omega⟩ ?_
  refine z_icmp_eq F 2917 dL_law__2445 rfl (fun hc => ?_) (fun hc => ?_)
  · replace h := zif_t hc h
    cases h
    refine z_ls [(0, .ref b), (1, zr G 0), (2, zr G 116), (3, zr G 603), (4, .int (nI j))] [0, 1, 2, 3, 4] rfl ?_
    exact z_wide (cs' := cs + 5) (sl' := sl + 30) (by omega) (by omega) kk
  · replace h := zif_f hc h
    exact absurd h (by intro q; cases q)

theorem dL_law__2450 : decode cL_law_ 2450 = .ok (.aload_n 1, 1) := by decide +kernel
theorem dL_law__2451 : decode cL_law_ 2451 = .ok (.aload_n 0, 1) := by decide +kernel
theorem dL_law__2452 : decode cL_law_ 2452 = .ok (.iload 4, 2) := by decide +kernel
theorem dL_law__2454 : decode cL_law_ 2454 = .ok (.iconst 1, 1) := by decide +kernel
theorem dL_law__2455 : decode cL_law_ 2455 = .ok (.iadd, 1) := by decide +kernel
theorem dL_law__2456 : decode cL_law_ 2456 = .ok (.iaload, 1) := by decide +kernel
theorem dL_law__2457 : decode cL_law_ 2457 = .ok (.aload_n 3, 1) := by decide +kernel
theorem dL_law__2458 : decode cL_law_ 2458 = .ok (.invokestatic 280, 3) := by decide +kernel
theorem dL_law__2461 : decode cL_law_ 2461 = .ok (.istore 5, 2) := by decide +kernel
theorem dL_law__2463 : decode cL_law_ 2463 = .ok (.aload_n 2, 1) := by decide +kernel
theorem dL_law__2464 : decode cL_law_ 2464 = .ok (.aload_n 0, 1) := by decide +kernel
theorem dL_law__2465 : decode cL_law_ 2465 = .ok (.iload 4, 2) := by decide +kernel
theorem dL_law__2467 : decode cL_law_ 2467 = .ok (.iconst 1, 1) := by decide +kernel
theorem dL_law__2468 : decode cL_law_ 2468 = .ok (.iadd, 1) := by decide +kernel
theorem dL_law__2469 : decode cL_law_ 2469 = .ok (.iaload, 1) := by decide +kernel
theorem dL_law__2470 : decode cL_law_ 2470 = .ok (.invokevirtual 282, 3) := by decide +kernel
theorem dL_law__2473 : decode cL_law_ 2473 = .ok (.istore 6, 2) := by decide +kernel
theorem dL_law__2475 : decode cL_law_ 2475 = .ok (.aload_n 2, 1) := by decide +kernel
theorem dL_law__2476 : decode cL_law_ 2476 = .ok (.invokevirtual 144, 3) := by decide +kernel
theorem dL_law__2479 : decode cL_law_ 2479 = .ok (.iload 5, 2) := by decide +kernel
theorem dL_law__2481 : decode cL_law_ 2481 = .ok (.if_icmp .eq 5, 3) := by decide +kernel
theorem dL_law__2484 : decode cL_law_ 2484 = .ok (.iconst 0, 1) := by decide +kernel
theorem dL_law__2485 : decode cL_law_ 2485 = .ok (.ireturn, 1) := by decide +kernel
theorem dL_law__2486 : decode cL_law_ 2486 = .ok (.iload 5, 2) := by decide +kernel
theorem dL_law__2488 : decode cL_law_ 2488 = .ok (.ifCond .ne 15, 3) := by decide +kernel
theorem dL_law__2491 : decode cL_law_ 2491 = .ok (.aload_n 3, 1) := by decide +kernel
theorem dL_law__2492 : decode cL_law_ 2492 = .ok (.iconst 0, 1) := by decide +kernel
theorem dL_law__2493 : decode cL_law_ 2493 = .ok (.laload, 1) := by decide +kernel
theorem dL_law__2494 : decode cL_law_ 2494 = .ok (.iload 6, 2) := by decide +kernel
theorem dL_law__2496 : decode cL_law_ 2496 = .ok (.i2l, 1) := by decide +kernel
theorem dL_law__2497 : decode cL_law_ 2497 = .ok (.lcmp, 1) := by decide +kernel
theorem dL_law__2498 : decode cL_law_ 2498 = .ok (.ifCond .eq 5, 3) := by decide +kernel
theorem dL_law__2501 : decode cL_law_ 2501 = .ok (.iconst 0, 1) := by decide +kernel
theorem dL_law__2502 : decode cL_law_ 2502 = .ok (.ireturn, 1) := by decide +kernel
theorem dL_law__2503 : decode cL_law_ 2503 = .ok (.goto 414, 3) := by decide +kernel
def fLc_42 (p1 : Int32) (v : zV) : Option zV :=
  zbind (fL_pair 0 p1 603 v) fun r_2 v_1 =>
  zbind (fX10_pair 116 p1 v_1) fun r_4 v_3 =>
  zbind (fX10_thrown 116 v_3) fun r_6 v_5 =>
  if r_6 = r_2 then
    if r_2 = (0 : Int32) then
      zix (0 : Int32) (zlen 603) <|
      if (lg_cmp ((v_5 603 (0 : Int32).toNatClampNeg).toInt64) ((r_4).toInt64)) = (0 : Int32) then
        some v_5
      else
        none
    else
      some v_5
  else
    none
set_option maxRecDepth 8000 in
set_option maxHeartbeats 1000000 in
theorem jLc_42 {x : zCx} {G : zG} {fr lo b L : Nat} {xs : Nat → Int32} {Q : State → Prop} (F : zF x G cL_law_ 7 RL fr lo) (hfr : 400 ≤ fr ∧ 20000 ≤ lo) (hfl : x.2.1.stackTraces = false) (hX : va_X b L xs x.2.2.2.2.1 x.2.2.2.2.1.heap) (hbl : b < x.2.2.2.2.1.heap.size) (hbA : ¬ zA G b) (t0 : zty G 0 1 9) (t1 : zty G 116 1 10) (t3 : zty G 603 2 2) {j : Nat} (hj : j + 7 ≤ L) (hL : L < 2 ^ 31) {cs sl : Nat} (hcs : cs + 5 ≤ x.2.2.2.1.cells ∧ sl + 30 ≤ x.2.2.2.1.slots) (v w : zV) (h : fLc_42 (xs (j + 1)) v = some w) (kk : zJ x G 7 Q (cs + 5) (sl + 30) 2917 [(0, .ref b), (1, zr G 0), (2, zr G 116), (3, zr G 603), (4, .int (nI j))] [] w) : zJ x G 7 Q cs sl 2450 [(0, .ref b), (1, zr G 0), (2, zr G 116), (3, zr G 603), (4, .int (nI j))] [] v := by
  obtain ⟨hfr1, hfr2⟩ := hfr
  obtain ⟨hcs1, hcs2⟩ := hcs
  unfold fLc_42 at h
  refine z_aload_n F dL_law__2450 rfl 1 rfl ?_
  refine z_aload_n F dL_law__2451 rfl 0 rfl ?_
  refine z_iload F dL_law__2452 4 rfl ?_
  refine z_iconst (y := (1 : Int32)) F dL_law__2454 rfl ?_
  refine z_iadd F dL_law__2455 ?_
  refine z_sld F hX hbl hbA (nI_add j 1) (by omega) hL dL_law__2456 ?_
  refine z_aload_n F dL_law__2457 rfl 3 rfl ?_
  obtain ⟨r_2, v_1, hq2458, h⟩ := zbind_ex h
  refine z_callSW (n := 3) F [zr G 0, .int (xs (j + 1)), zr G 603] [] (kL_pair x.2.1 G 0 t0 (xs (j + 1)) 603 t3 v r_2 v_1 hfl hq2458) kw_L_pair wM_L_280 ms_L_pair dL_law__2458 rfl (by decide +kernel) ⟨by omega, by omega⟩ rfl (Nat.le_of_ble_eq_true rfl) ⟨by omega, by omega⟩ ?_
  refine z_istore (n := 0) F [(5, .int r_2), (0, .ref b), (1, zr G 0), (2, zr G 116), (3, zr G 603), (4, .int (nI j))] dL_law__2461 (Nat.le_of_ble_eq_true rfl) rfl ?_
  refine z_aload_n F dL_law__2463 rfl 3 rfl ?_
  refine z_aload_n F dL_law__2464 rfl 1 rfl ?_
  refine z_iload F dL_law__2465 5 rfl ?_
  refine z_iconst (y := (1 : Int32)) F dL_law__2467 rfl ?_
  refine z_iadd F dL_law__2468 ?_
  refine z_sld F hX hbl hbA (nI_add j 1) (by omega) hL dL_law__2469 ?_
  obtain ⟨r_4, v_3, hq2470, h⟩ := zbind_ex h
  refine z_callVi F [.int (xs (j + 1))] [] (kX10_pair x.2.1 G 116 t1 (xs (j + 1)) v_1 r_4 v_3 hq2470) mI_X10_pair (c := 10) rfl t1 wM_L_282 mi_X10_pair sl_X10_pair dL_law__2470 rfl ⟨by omega, by omega⟩ rfl (Nat.le_of_ble_eq_true rfl) ⟨by omega, by omega⟩ ?_
  refine z_istore (n := 0) F [(6, .int r_4), (5, .int r_2), (0, .ref b), (1, zr G 0), (2, zr G 116), (3, zr G 603), (4, .int (nI j))] dL_law__2473 (Nat.le_of_ble_eq_true rfl) rfl ?_
  refine z_aload_n F dL_law__2475 rfl 4 rfl ?_
  obtain ⟨r_6, v_5, hq2476, h⟩ := zbind_ex h
  refine z_callVi F [] [] (kX10_thrown x.2.1 G 116 t1 v_3 r_6 v_5 hq2476) mI_X10_thrown (c := 10) rfl t1 wM_L_144 mi_X10_thrown sl_X10_thrown dL_law__2476 rfl ⟨by omega, by omega⟩ rfl (Nat.le_of_ble_eq_true rfl) ⟨by omega, by omega⟩ ?_
  refine z_iload F dL_law__2479 1 rfl ?_
  refine z_icmp_eq F 2486 dL_law__2481 rfl (fun hc => ?_) (fun hc => ?_)
  · replace h := zif_t hc h
    refine z_iload F dL_law__2486 1 rfl ?_
    refine z_if_ne F 2503 dL_law__2488 rfl (fun hc => ?_) (fun hc => ?_)
    · replace h := zif_f hc h
      refine z_goto F 2917 dL_law__2503 rfl ?_
      cases h
      refine z_ls [(0, .ref b), (1, zr G 0), (2, zr G 116), (3, zr G 603), (4, .int (nI j))] [2, 3, 4, 5, 6] rfl ?_
      exact z_wide (cs' := cs + 5) (sl' := sl + 30) (by omega) (by omega) kk
    · replace h := zif_t hc h
      refine z_aload_n F dL_law__2491 rfl 5 rfl ?_
      refine z_iconst (y := (0 : Int32)) F dL_law__2492 rfl ?_
      obtain ⟨hi2493, h⟩ := zix_ex h
      refine z_lald F t3 dL_law__2493 hi2493 ?_
      refine z_iload F dL_law__2494 0 rfl ?_
      refine z_i2l F dL_law__2496 ?_
      refine z_lcmp F dL_law__2497 ?_
      refine z_if_eq F 2503 dL_law__2498 rfl (fun hc => ?_) (fun hc => ?_)
      · replace h := zif_t hc h
        refine z_goto F 2917 dL_law__2503 rfl ?_
        cases h
        refine z_ls [(0, .ref b), (1, zr G 0), (2, zr G 116), (3, zr G 603), (4, .int (nI j))] [2, 3, 4, 5, 6] rfl ?_
        exact z_wide (cs' := cs + 5) (sl' := sl + 30) (by omega) (by omega) kk
      · replace h := zif_f hc h
        exact absurd h (by intro q; cases q)
  · replace h := zif_f hc h
    exact absurd h (by intro q; cases q)

theorem dL_law__2506 : decode cL_law_ 2506 = .ok (.aload_n 1, 1) := by decide +kernel
theorem dL_law__2507 : decode cL_law_ 2507 = .ok (.aload_n 0, 1) := by decide +kernel
theorem dL_law__2508 : decode cL_law_ 2508 = .ok (.iload 4, 2) := by decide +kernel
theorem dL_law__2510 : decode cL_law_ 2510 = .ok (.iconst 1, 1) := by decide +kernel
theorem dL_law__2511 : decode cL_law_ 2511 = .ok (.iadd, 1) := by decide +kernel
theorem dL_law__2512 : decode cL_law_ 2512 = .ok (.iaload, 1) := by decide +kernel
theorem dL_law__2513 : decode cL_law_ 2513 = .ok (.aload_n 3, 1) := by decide +kernel
theorem dL_law__2514 : decode cL_law_ 2514 = .ok (.invokestatic 283, 3) := by decide +kernel
theorem dL_law__2517 : decode cL_law_ 2517 = .ok (.istore 5, 2) := by decide +kernel
theorem dL_law__2519 : decode cL_law_ 2519 = .ok (.aload_n 2, 1) := by decide +kernel
theorem dL_law__2520 : decode cL_law_ 2520 = .ok (.aload_n 0, 1) := by decide +kernel
theorem dL_law__2521 : decode cL_law_ 2521 = .ok (.iload 4, 2) := by decide +kernel
theorem dL_law__2523 : decode cL_law_ 2523 = .ok (.iconst 1, 1) := by decide +kernel
theorem dL_law__2524 : decode cL_law_ 2524 = .ok (.iadd, 1) := by decide +kernel
theorem dL_law__2525 : decode cL_law_ 2525 = .ok (.iaload, 1) := by decide +kernel
theorem dL_law__2526 : decode cL_law_ 2526 = .ok (.invokevirtual 285, 3) := by decide +kernel
theorem dL_law__2529 : decode cL_law_ 2529 = .ok (.istore 6, 2) := by decide +kernel
theorem dL_law__2531 : decode cL_law_ 2531 = .ok (.aload_n 2, 1) := by decide +kernel
theorem dL_law__2532 : decode cL_law_ 2532 = .ok (.invokevirtual 144, 3) := by decide +kernel
theorem dL_law__2535 : decode cL_law_ 2535 = .ok (.iload 5, 2) := by decide +kernel
theorem dL_law__2537 : decode cL_law_ 2537 = .ok (.if_icmp .eq 5, 3) := by decide +kernel
theorem dL_law__2540 : decode cL_law_ 2540 = .ok (.iconst 0, 1) := by decide +kernel
theorem dL_law__2541 : decode cL_law_ 2541 = .ok (.ireturn, 1) := by decide +kernel
theorem dL_law__2542 : decode cL_law_ 2542 = .ok (.iload 5, 2) := by decide +kernel
theorem dL_law__2544 : decode cL_law_ 2544 = .ok (.ifCond .ne 15, 3) := by decide +kernel
theorem dL_law__2547 : decode cL_law_ 2547 = .ok (.aload_n 3, 1) := by decide +kernel
theorem dL_law__2548 : decode cL_law_ 2548 = .ok (.iconst 0, 1) := by decide +kernel
theorem dL_law__2549 : decode cL_law_ 2549 = .ok (.laload, 1) := by decide +kernel
theorem dL_law__2550 : decode cL_law_ 2550 = .ok (.iload 6, 2) := by decide +kernel
theorem dL_law__2552 : decode cL_law_ 2552 = .ok (.i2l, 1) := by decide +kernel
theorem dL_law__2553 : decode cL_law_ 2553 = .ok (.lcmp, 1) := by decide +kernel
theorem dL_law__2554 : decode cL_law_ 2554 = .ok (.ifCond .eq 5, 3) := by decide +kernel
theorem dL_law__2557 : decode cL_law_ 2557 = .ok (.iconst 0, 1) := by decide +kernel
theorem dL_law__2558 : decode cL_law_ 2558 = .ok (.ireturn, 1) := by decide +kernel
theorem dL_law__2559 : decode cL_law_ 2559 = .ok (.goto 358, 3) := by decide +kernel
def fLc_43 (p1 : Int32) (v : zV) : Option zV :=
  zbind (fL_quorum 0 p1 603 v) fun r_2 v_1 =>
  zbind (fX10_quorum 116 p1 v_1) fun r_4 v_3 =>
  zbind (fX10_thrown 116 v_3) fun r_6 v_5 =>
  if r_6 = r_2 then
    if r_2 = (0 : Int32) then
      zix (0 : Int32) (zlen 603) <|
      if (lg_cmp ((v_5 603 (0 : Int32).toNatClampNeg).toInt64) ((r_4).toInt64)) = (0 : Int32) then
        some v_5
      else
        none
    else
      some v_5
  else
    none
set_option maxRecDepth 8000 in
set_option maxHeartbeats 1000000 in
theorem jLc_43 {x : zCx} {G : zG} {fr lo b L : Nat} {xs : Nat → Int32} {Q : State → Prop} (F : zF x G cL_law_ 7 RL fr lo) (hfr : 400 ≤ fr ∧ 20000 ≤ lo) (hfl : x.2.1.stackTraces = false) (hX : va_X b L xs x.2.2.2.2.1 x.2.2.2.2.1.heap) (hbl : b < x.2.2.2.2.1.heap.size) (hbA : ¬ zA G b) (t0 : zty G 0 1 9) (t1 : zty G 116 1 10) (t3 : zty G 603 2 2) {j : Nat} (hj : j + 7 ≤ L) (hL : L < 2 ^ 31) {cs sl : Nat} (hcs : cs + 5 ≤ x.2.2.2.1.cells ∧ sl + 30 ≤ x.2.2.2.1.slots) (v w : zV) (h : fLc_43 (xs (j + 1)) v = some w) (kk : zJ x G 7 Q (cs + 5) (sl + 30) 2917 [(0, .ref b), (1, zr G 0), (2, zr G 116), (3, zr G 603), (4, .int (nI j))] [] w) : zJ x G 7 Q cs sl 2506 [(0, .ref b), (1, zr G 0), (2, zr G 116), (3, zr G 603), (4, .int (nI j))] [] v := by
  obtain ⟨hfr1, hfr2⟩ := hfr
  obtain ⟨hcs1, hcs2⟩ := hcs
  unfold fLc_43 at h
  refine z_aload_n F dL_law__2506 rfl 1 rfl ?_
  refine z_aload_n F dL_law__2507 rfl 0 rfl ?_
  refine z_iload F dL_law__2508 4 rfl ?_
  refine z_iconst (y := (1 : Int32)) F dL_law__2510 rfl ?_
  refine z_iadd F dL_law__2511 ?_
  refine z_sld F hX hbl hbA (nI_add j 1) (by omega) hL dL_law__2512 ?_
  refine z_aload_n F dL_law__2513 rfl 3 rfl ?_
  obtain ⟨r_2, v_1, hq2514, h⟩ := zbind_ex h
  refine z_callSW (n := 3) F [zr G 0, .int (xs (j + 1)), zr G 603] [] (kL_quorum x.2.1 G 0 t0 (xs (j + 1)) 603 t3 v r_2 v_1 hfl hq2514) kw_L_quorum wM_L_283 ms_L_quorum dL_law__2514 rfl (by decide +kernel) ⟨by omega, by omega⟩ rfl (Nat.le_of_ble_eq_true rfl) ⟨by omega, by omega⟩ ?_
  refine z_istore (n := 0) F [(5, .int r_2), (0, .ref b), (1, zr G 0), (2, zr G 116), (3, zr G 603), (4, .int (nI j))] dL_law__2517 (Nat.le_of_ble_eq_true rfl) rfl ?_
  refine z_aload_n F dL_law__2519 rfl 3 rfl ?_
  refine z_aload_n F dL_law__2520 rfl 1 rfl ?_
  refine z_iload F dL_law__2521 5 rfl ?_
  refine z_iconst (y := (1 : Int32)) F dL_law__2523 rfl ?_
  refine z_iadd F dL_law__2524 ?_
  refine z_sld F hX hbl hbA (nI_add j 1) (by omega) hL dL_law__2525 ?_
  obtain ⟨r_4, v_3, hq2526, h⟩ := zbind_ex h
  refine z_callVi F [.int (xs (j + 1))] [] (kX10_quorum x.2.1 G 116 t1 (xs (j + 1)) v_1 r_4 v_3 hq2526) mI_X10_quorum (c := 10) rfl t1 wM_L_285 mi_X10_quorum sl_X10_quorum dL_law__2526 rfl ⟨by omega, by omega⟩ rfl (Nat.le_of_ble_eq_true rfl) ⟨by omega, by omega⟩ ?_
  refine z_istore (n := 0) F [(6, .int r_4), (5, .int r_2), (0, .ref b), (1, zr G 0), (2, zr G 116), (3, zr G 603), (4, .int (nI j))] dL_law__2529 (Nat.le_of_ble_eq_true rfl) rfl ?_
  refine z_aload_n F dL_law__2531 rfl 4 rfl ?_
  obtain ⟨r_6, v_5, hq2532, h⟩ := zbind_ex h
  refine z_callVi F [] [] (kX10_thrown x.2.1 G 116 t1 v_3 r_6 v_5 hq2532) mI_X10_thrown (c := 10) rfl t1 wM_L_144 mi_X10_thrown sl_X10_thrown dL_law__2532 rfl ⟨by omega, by omega⟩ rfl (Nat.le_of_ble_eq_true rfl) ⟨by omega, by omega⟩ ?_
  refine z_iload F dL_law__2535 1 rfl ?_
  refine z_icmp_eq F 2542 dL_law__2537 rfl (fun hc => ?_) (fun hc => ?_)
  · replace h := zif_t hc h
    refine z_iload F dL_law__2542 1 rfl ?_
    refine z_if_ne F 2559 dL_law__2544 rfl (fun hc => ?_) (fun hc => ?_)
    · replace h := zif_f hc h
      refine z_goto F 2917 dL_law__2559 rfl ?_
      cases h
      refine z_ls [(0, .ref b), (1, zr G 0), (2, zr G 116), (3, zr G 603), (4, .int (nI j))] [2, 3, 4, 5, 6] rfl ?_
      exact z_wide (cs' := cs + 5) (sl' := sl + 30) (by omega) (by omega) kk
    · replace h := zif_t hc h
      refine z_aload_n F dL_law__2547 rfl 5 rfl ?_
      refine z_iconst (y := (0 : Int32)) F dL_law__2548 rfl ?_
      obtain ⟨hi2549, h⟩ := zix_ex h
      refine z_lald F t3 dL_law__2549 hi2549 ?_
      refine z_iload F dL_law__2550 0 rfl ?_
      refine z_i2l F dL_law__2552 ?_
      refine z_lcmp F dL_law__2553 ?_
      refine z_if_eq F 2559 dL_law__2554 rfl (fun hc => ?_) (fun hc => ?_)
      · replace h := zif_t hc h
        refine z_goto F 2917 dL_law__2559 rfl ?_
        cases h
        refine z_ls [(0, .ref b), (1, zr G 0), (2, zr G 116), (3, zr G 603), (4, .int (nI j))] [2, 3, 4, 5, 6] rfl ?_
        exact z_wide (cs' := cs + 5) (sl' := sl + 30) (by omega) (by omega) kk
      · replace h := zif_f hc h
        exact absurd h (by intro q; cases q)
  · replace h := zif_f hc h
    exact absurd h (by intro q; cases q)

theorem dL_law__2562 : decode cL_law_ 2562 = .ok (.aload_n 1, 1) := by decide +kernel
theorem dL_law__2563 : decode cL_law_ 2563 = .ok (.invokevirtual 286, 3) := by decide +kernel
theorem dL_law__2566 : decode cL_law_ 2566 = .ok (.aload_n 2, 1) := by decide +kernel
theorem dL_law__2567 : decode cL_law_ 2567 = .ok (.invokevirtual 289, 3) := by decide +kernel
theorem dL_law__2570 : decode cL_law_ 2570 = .ok (.if_icmp .eq 347, 3) := by decide +kernel
theorem dL_law__2573 : decode cL_law_ 2573 = .ok (.iconst 0, 1) := by decide +kernel
theorem dL_law__2574 : decode cL_law_ 2574 = .ok (.ireturn, 1) := by decide +kernel
def fLc_44 (v : zV) : Option zV :=
  zbind (fX9_kin 0 v) fun r_2 v_1 =>
  zbind (fX10_kin 116 v_1) fun r_4 v_3 =>
  if r_2 = r_4 then
    some v_3
  else
    none
set_option maxRecDepth 8000 in
set_option maxHeartbeats 1000000 in
theorem jLc_44 {x : zCx} {G : zG} {fr lo b L : Nat} {xs : Nat → Int32} {Q : State → Prop} (F : zF x G cL_law_ 7 RL fr lo) (hfr : 400 ≤ fr ∧ 20000 ≤ lo) (hfl : x.2.1.stackTraces = false) (hX : va_X b L xs x.2.2.2.2.1 x.2.2.2.2.1.heap) (hbl : b < x.2.2.2.2.1.heap.size) (hbA : ¬ zA G b) (t0 : zty G 0 1 9) (t1 : zty G 116 1 10) (t3 : zty G 603 2 2) {j : Nat} (hj : j + 7 ≤ L) (hL : L < 2 ^ 31) {cs sl : Nat} (hcs : cs + 5 ≤ x.2.2.2.1.cells ∧ sl + 30 ≤ x.2.2.2.1.slots) (v w : zV) (h : fLc_44 v = some w) (kk : zJ x G 7 Q (cs + 5) (sl + 30) 2917 [(0, .ref b), (1, zr G 0), (2, zr G 116), (3, zr G 603), (4, .int (nI j))] [] w) : zJ x G 7 Q cs sl 2562 [(0, .ref b), (1, zr G 0), (2, zr G 116), (3, zr G 603), (4, .int (nI j))] [] v := by
  obtain ⟨hfr1, hfr2⟩ := hfr
  obtain ⟨hcs1, hcs2⟩ := hcs
  unfold fLc_44 at h
  refine z_aload_n F dL_law__2562 rfl 1 rfl ?_
  obtain ⟨r_2, v_1, hq2563, h⟩ := zbind_ex h
  refine z_callVi F [] [] (kX9_kin x.2.1 G 0 t0 v r_2 v_1 hq2563) mI_X9_kin (c := 9) rfl t0 wM_L_286 mi_X9_kin sl_X9_kin dL_law__2563 rfl ⟨by omega, by omega⟩ rfl (Nat.le_of_ble_eq_true rfl) ⟨by omega, by omega⟩ ?_
  refine z_aload_n F dL_law__2566 rfl 2 rfl ?_
  obtain ⟨r_4, v_3, hq2567, h⟩ := zbind_ex h
  refine z_callVi F [] [.int r_2] (kX10_kin x.2.1 G 116 t1 v_1 r_4 v_3 hq2567) mI_X10_kin (c := 10) rfl t1 wM_L_289 mi_X10_kin sl_X10_kin dL_law__2567 rfl ⟨by omega, by omega⟩ rfl (Nat.le_of_ble_eq_true rfl) ⟨by omega, by omega⟩ ?_
  refine z_icmp_eq F 2917 dL_law__2570 rfl (fun hc => ?_) (fun hc => ?_)
  · replace h := zif_t hc h
    cases h
    refine z_ls [(0, .ref b), (1, zr G 0), (2, zr G 116), (3, zr G 603), (4, .int (nI j))] [0, 1, 2, 3, 4] rfl ?_
    exact z_wide (cs' := cs + 5) (sl' := sl + 30) (by omega) (by omega) kk
  · replace h := zif_f hc h
    exact absurd h (by intro q; cases q)

