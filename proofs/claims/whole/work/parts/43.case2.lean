theorem dL_law__1208 : decode cL_law_ 1208 = .ok (.aload_n 1, 1) := by decide +kernel
theorem dL_law__1209 : decode cL_law_ 1209 = .ok (.aload_n 0, 1) := by decide +kernel
theorem dL_law__1210 : decode cL_law_ 1210 = .ok (.iload 4, 2) := by decide +kernel
theorem dL_law__1212 : decode cL_law_ 1212 = .ok (.iconst 1, 1) := by decide +kernel
theorem dL_law__1213 : decode cL_law_ 1213 = .ok (.iadd, 1) := by decide +kernel
theorem dL_law__1214 : decode cL_law_ 1214 = .ok (.iaload, 1) := by decide +kernel
theorem dL_law__1215 : decode cL_law_ 1215 = .ok (.aload_n 0, 1) := by decide +kernel
theorem dL_law__1216 : decode cL_law_ 1216 = .ok (.iload 4, 2) := by decide +kernel
theorem dL_law__1218 : decode cL_law_ 1218 = .ok (.iconst 2, 1) := by decide +kernel
theorem dL_law__1219 : decode cL_law_ 1219 = .ok (.iadd, 1) := by decide +kernel
theorem dL_law__1220 : decode cL_law_ 1220 = .ok (.iaload, 1) := by decide +kernel
theorem dL_law__1221 : decode cL_law_ 1221 = .ok (.aload_n 3, 1) := by decide +kernel
theorem dL_law__1222 : decode cL_law_ 1222 = .ok (.invokestatic 200, 3) := by decide +kernel
theorem dL_law__1225 : decode cL_law_ 1225 = .ok (.istore 5, 2) := by decide +kernel
theorem dL_law__1227 : decode cL_law_ 1227 = .ok (.aload_n 2, 1) := by decide +kernel
theorem dL_law__1228 : decode cL_law_ 1228 = .ok (.aload_n 0, 1) := by decide +kernel
theorem dL_law__1229 : decode cL_law_ 1229 = .ok (.iload 4, 2) := by decide +kernel
theorem dL_law__1231 : decode cL_law_ 1231 = .ok (.iconst 1, 1) := by decide +kernel
theorem dL_law__1232 : decode cL_law_ 1232 = .ok (.iadd, 1) := by decide +kernel
theorem dL_law__1233 : decode cL_law_ 1233 = .ok (.iaload, 1) := by decide +kernel
theorem dL_law__1234 : decode cL_law_ 1234 = .ok (.aload_n 0, 1) := by decide +kernel
theorem dL_law__1235 : decode cL_law_ 1235 = .ok (.iload 4, 2) := by decide +kernel
theorem dL_law__1237 : decode cL_law_ 1237 = .ok (.iconst 2, 1) := by decide +kernel
theorem dL_law__1238 : decode cL_law_ 1238 = .ok (.iadd, 1) := by decide +kernel
theorem dL_law__1239 : decode cL_law_ 1239 = .ok (.iaload, 1) := by decide +kernel
theorem dL_law__1240 : decode cL_law_ 1240 = .ok (.invokevirtual 202, 3) := by decide +kernel
theorem dL_law__1243 : decode cL_law_ 1243 = .ok (.istore 6, 2) := by decide +kernel
theorem dL_law__1245 : decode cL_law_ 1245 = .ok (.aload_n 2, 1) := by decide +kernel
theorem dL_law__1246 : decode cL_law_ 1246 = .ok (.invokevirtual 144, 3) := by decide +kernel
theorem dL_law__1249 : decode cL_law_ 1249 = .ok (.iload 5, 2) := by decide +kernel
theorem dL_law__1251 : decode cL_law_ 1251 = .ok (.if_icmp .eq 5, 3) := by decide +kernel
theorem dL_law__1254 : decode cL_law_ 1254 = .ok (.iconst 0, 1) := by decide +kernel
theorem dL_law__1255 : decode cL_law_ 1255 = .ok (.ireturn, 1) := by decide +kernel
theorem dL_law__1256 : decode cL_law_ 1256 = .ok (.iload 5, 2) := by decide +kernel
theorem dL_law__1258 : decode cL_law_ 1258 = .ok (.ifCond .ne 15, 3) := by decide +kernel
theorem dL_law__1261 : decode cL_law_ 1261 = .ok (.aload_n 3, 1) := by decide +kernel
theorem dL_law__1262 : decode cL_law_ 1262 = .ok (.iconst 0, 1) := by decide +kernel
theorem dL_law__1263 : decode cL_law_ 1263 = .ok (.laload, 1) := by decide +kernel
theorem dL_law__1264 : decode cL_law_ 1264 = .ok (.iload 6, 2) := by decide +kernel
theorem dL_law__1266 : decode cL_law_ 1266 = .ok (.i2l, 1) := by decide +kernel
theorem dL_law__1267 : decode cL_law_ 1267 = .ok (.lcmp, 1) := by decide +kernel
theorem dL_law__1268 : decode cL_law_ 1268 = .ok (.ifCond .eq 5, 3) := by decide +kernel
theorem dL_law__1271 : decode cL_law_ 1271 = .ok (.iconst 0, 1) := by decide +kernel
theorem dL_law__1272 : decode cL_law_ 1272 = .ok (.ireturn, 1) := by decide +kernel
theorem dL_law__1273 : decode cL_law_ 1273 = .ok (.goto 1644, 3) := by decide +kernel
def fLc_18 (p1 : Int32) (p2 : Int32) (v : zV) : Option zV :=
  zbind (fL_praise 0 p1 p2 603 v) fun r_2 v_1 =>
  zbind (fX10_praise 116 p1 p2 v_1) fun r_4 v_3 =>
  zbind (fX10_thrown 116 v_3) fun r_6 v_5 =>
  if r_6 = r_2 then
    if r_2 = (0 : Int32) then
      zix (0 : Int32) (zlen 603) <|
      if (lg_cmp ((v_5 603 (0 : Int32).toNatClampNeg).toInt64) ((r_4).toInt64)) = (0 : Int32) then
        some v_5
      else
        none
    else
      some v_5
  else
    none
set_option maxRecDepth 8000 in
set_option maxHeartbeats 1000000 in
theorem jLc_18 {x : zCx} {G : zG} {fr lo b L : Nat} {xs : Nat → Int32} {Q : State → Prop} (F : zF x G cL_law_ 7 RL fr lo) (hfr : 400 ≤ fr ∧ 20000 ≤ lo) (hfl : x.2.1.stackTraces = false) (hX : va_X b L xs x.2.2.2.2.1 x.2.2.2.2.1.heap) (hbl : b < x.2.2.2.2.1.heap.size) (hbA : ¬ zA G b) (t0 : zty G 0 1 9) (t1 : zty G 116 1 10) (t3 : zty G 603 2 2) {j : Nat} (hj : j + 7 ≤ L) (hL : L < 2 ^ 31) {cs sl : Nat} (hcs : cs + 5 ≤ x.2.2.2.1.cells ∧ sl + 30 ≤ x.2.2.2.1.slots) (v w : zV) (h : fLc_18 (xs (j + 1)) (xs (j + 2)) v = some w) (kk : zJ x G 7 Q (cs + 5) (sl + 30) 2917 [(0, .ref b), (1, zr G 0), (2, zr G 116), (3, zr G 603), (4, .int (nI j))] [] w) : zJ x G 7 Q cs sl 1208 [(0, .ref b), (1, zr G 0), (2, zr G 116), (3, zr G 603), (4, .int (nI j))] [] v := by
  obtain ⟨hfr1, hfr2⟩ := hfr
  obtain ⟨hcs1, hcs2⟩ := hcs
  unfold fLc_18 at h
  refine z_aload_n F dL_law__1208 rfl 1 rfl ?_
  refine z_aload_n F dL_law__1209 rfl 0 rfl ?_
  refine z_iload F dL_law__1210 4 rfl ?_
  refine z_iconst (y := (1 : Int32)) F dL_law__1212 rfl ?_
  refine z_iadd F dL_law__1213 ?_
  refine z_sld F hX hbl hbA (nI_add j 1) (by omega) hL dL_law__1214 ?_
  refine z_aload_n F dL_law__1215 rfl 0 rfl ?_
  refine z_iload F dL_law__1216 4 rfl ?_
  refine z_iconst (y := (2 : Int32)) F dL_law__1218 rfl ?_
  refine z_iadd F dL_law__1219 ?_
  refine z_sld F hX hbl hbA (nI_add j 2) (by omega) hL dL_law__1220 ?_
  refine z_aload_n F dL_law__1221 rfl 3 rfl ?_
  obtain ⟨r_2, v_1, hq1222, h⟩ := zbind_ex h
  refine z_callSW (n := 4) F [zr G 0, .int (xs (j + 1)), .int (xs (j + 2)), zr G 603] [] (kL_praise x.2.1 G 0 t0 (xs (j + 1)) (xs (j + 2)) 603 t3 v r_2 v_1 hfl hq1222) kw_L_praise wM_L_200 ms_L_praise dL_law__1222 rfl (by decide +kernel) ⟨by omega, by omega⟩ rfl (Nat.le_of_ble_eq_true rfl) ⟨by omega, by omega⟩ ?_
  refine z_istore (n := 0) F [(5, .int r_2), (0, .ref b), (1, zr G 0), (2, zr G 116), (3, zr G 603), (4, .int (nI j))] dL_law__1225 (Nat.le_of_ble_eq_true rfl) rfl ?_
  refine z_aload_n F dL_law__1227 rfl 3 rfl ?_
  refine z_aload_n F dL_law__1228 rfl 1 rfl ?_
  refine z_iload F dL_law__1229 5 rfl ?_
  refine z_iconst (y := (1 : Int32)) F dL_law__1231 rfl ?_
  refine z_iadd F dL_law__1232 ?_
  refine z_sld F hX hbl hbA (nI_add j 1) (by omega) hL dL_law__1233 ?_
  refine z_aload_n F dL_law__1234 rfl 1 rfl ?_
  refine z_iload F dL_law__1235 5 rfl ?_
  refine z_iconst (y := (2 : Int32)) F dL_law__1237 rfl ?_
  refine z_iadd F dL_law__1238 ?_
  refine z_sld F hX hbl hbA (nI_add j 2) (by omega) hL dL_law__1239 ?_
  obtain ⟨r_4, v_3, hq1240, h⟩ := zbind_ex h
  refine z_callVi F [.int (xs (j + 1)), .int (xs (j + 2))] [] (kX10_praise x.2.1 G 116 t1 (xs (j + 1)) (xs (j + 2)) v_1 r_4 v_3 hq1240) mI_X10_praise (c := 10) rfl t1 wM_L_202 mi_X10_praise sl_X10_praise dL_law__1240 rfl ⟨by omega, by omega⟩ rfl (Nat.le_of_ble_eq_true rfl) ⟨by omega, by omega⟩ ?_
  refine z_istore (n := 0) F [(6, .int r_4), (5, .int r_2), (0, .ref b), (1, zr G 0), (2, zr G 116), (3, zr G 603), (4, .int (nI j))] dL_law__1243 (Nat.le_of_ble_eq_true rfl) rfl ?_
  refine z_aload_n F dL_law__1245 rfl 4 rfl ?_
  obtain ⟨r_6, v_5, hq1246, h⟩ := zbind_ex h
  refine z_callVi F [] [] (kX10_thrown x.2.1 G 116 t1 v_3 r_6 v_5 hq1246) mI_X10_thrown (c := 10) rfl t1 wM_L_144 mi_X10_thrown sl_X10_thrown dL_law__1246 rfl ⟨by omega, by omega⟩ rfl (Nat.le_of_ble_eq_true rfl) ⟨by omega, by omega⟩ ?_
  refine z_iload F dL_law__1249 1 rfl ?_
  refine z_icmp_eq F 1256 dL_law__1251 rfl (fun hc => ?_) (fun hc => ?_)
  · replace h := zif_t hc h
    refine z_iload F dL_law__1256 1 rfl ?_
    refine z_if_ne F 1273 dL_law__1258 rfl (fun hc => ?_) (fun hc => ?_)
    · replace h := zif_f hc h
      refine z_goto F 2917 dL_law__1273 rfl ?_
      cases h
      refine z_ls [(0, .ref b), (1, zr G 0), (2, zr G 116), (3, zr G 603), (4, .int (nI j))] [2, 3, 4, 5, 6] rfl ?_
      exact z_wide (cs' := cs + 5) (sl' := sl + 30) (by omega) (by omega) kk
    · replace h := zif_t hc h
      refine z_aload_n F dL_law__1261 rfl 5 rfl ?_
      refine z_iconst (y := (0 : Int32)) F dL_law__1262 rfl ?_
      obtain ⟨hi1263, h⟩ := zix_ex h
      refine z_lald F t3 dL_law__1263 hi1263 ?_
      refine z_iload F dL_law__1264 0 rfl ?_
      refine z_i2l F dL_law__1266 ?_
      refine z_lcmp F dL_law__1267 ?_
      refine z_if_eq F 1273 dL_law__1268 rfl (fun hc => ?_) (fun hc => ?_)
      · replace h := zif_t hc h
        refine z_goto F 2917 dL_law__1273 rfl ?_
        cases h
        refine z_ls [(0, .ref b), (1, zr G 0), (2, zr G 116), (3, zr G 603), (4, .int (nI j))] [2, 3, 4, 5, 6] rfl ?_
        exact z_wide (cs' := cs + 5) (sl' := sl + 30) (by omega) (by omega) kk
      · replace h := zif_f hc h
        exact absurd h (by intro q; cases q)
  · replace h := zif_f hc h
    exact absurd h (by intro q; cases q)

theorem dL_law__1276 : decode cL_law_ 1276 = .ok (.aload_n 1, 1) := by decide +kernel
theorem dL_law__1277 : decode cL_law_ 1277 = .ok (.aload_n 0, 1) := by decide +kernel
theorem dL_law__1278 : decode cL_law_ 1278 = .ok (.iload 4, 2) := by decide +kernel
theorem dL_law__1280 : decode cL_law_ 1280 = .ok (.iconst 1, 1) := by decide +kernel
theorem dL_law__1281 : decode cL_law_ 1281 = .ok (.iadd, 1) := by decide +kernel
theorem dL_law__1282 : decode cL_law_ 1282 = .ok (.iaload, 1) := by decide +kernel
theorem dL_law__1283 : decode cL_law_ 1283 = .ok (.aload_n 0, 1) := by decide +kernel
theorem dL_law__1284 : decode cL_law_ 1284 = .ok (.iload 4, 2) := by decide +kernel
theorem dL_law__1286 : decode cL_law_ 1286 = .ok (.iconst 2, 1) := by decide +kernel
theorem dL_law__1287 : decode cL_law_ 1287 = .ok (.iadd, 1) := by decide +kernel
theorem dL_law__1288 : decode cL_law_ 1288 = .ok (.iaload, 1) := by decide +kernel
theorem dL_law__1289 : decode cL_law_ 1289 = .ok (.aload_n 3, 1) := by decide +kernel
theorem dL_law__1290 : decode cL_law_ 1290 = .ok (.invokestatic 203, 3) := by decide +kernel
theorem dL_law__1293 : decode cL_law_ 1293 = .ok (.istore 5, 2) := by decide +kernel
theorem dL_law__1295 : decode cL_law_ 1295 = .ok (.aload_n 2, 1) := by decide +kernel
theorem dL_law__1296 : decode cL_law_ 1296 = .ok (.aload_n 0, 1) := by decide +kernel
theorem dL_law__1297 : decode cL_law_ 1297 = .ok (.iload 4, 2) := by decide +kernel
theorem dL_law__1299 : decode cL_law_ 1299 = .ok (.iconst 1, 1) := by decide +kernel
theorem dL_law__1300 : decode cL_law_ 1300 = .ok (.iadd, 1) := by decide +kernel
theorem dL_law__1301 : decode cL_law_ 1301 = .ok (.iaload, 1) := by decide +kernel
theorem dL_law__1302 : decode cL_law_ 1302 = .ok (.aload_n 0, 1) := by decide +kernel
theorem dL_law__1303 : decode cL_law_ 1303 = .ok (.iload 4, 2) := by decide +kernel
theorem dL_law__1305 : decode cL_law_ 1305 = .ok (.iconst 2, 1) := by decide +kernel
theorem dL_law__1306 : decode cL_law_ 1306 = .ok (.iadd, 1) := by decide +kernel
theorem dL_law__1307 : decode cL_law_ 1307 = .ok (.iaload, 1) := by decide +kernel
theorem dL_law__1308 : decode cL_law_ 1308 = .ok (.invokevirtual 205, 3) := by decide +kernel
theorem dL_law__1311 : decode cL_law_ 1311 = .ok (.istore 6, 2) := by decide +kernel
theorem dL_law__1313 : decode cL_law_ 1313 = .ok (.aload_n 2, 1) := by decide +kernel
theorem dL_law__1314 : decode cL_law_ 1314 = .ok (.invokevirtual 144, 3) := by decide +kernel
theorem dL_law__1317 : decode cL_law_ 1317 = .ok (.iload 5, 2) := by decide +kernel
theorem dL_law__1319 : decode cL_law_ 1319 = .ok (.if_icmp .eq 5, 3) := by decide +kernel
theorem dL_law__1322 : decode cL_law_ 1322 = .ok (.iconst 0, 1) := by decide +kernel
theorem dL_law__1323 : decode cL_law_ 1323 = .ok (.ireturn, 1) := by decide +kernel
theorem dL_law__1324 : decode cL_law_ 1324 = .ok (.iload 5, 2) := by decide +kernel
theorem dL_law__1326 : decode cL_law_ 1326 = .ok (.ifCond .ne 15, 3) := by decide +kernel
theorem dL_law__1329 : decode cL_law_ 1329 = .ok (.aload_n 3, 1) := by decide +kernel
theorem dL_law__1330 : decode cL_law_ 1330 = .ok (.iconst 0, 1) := by decide +kernel
theorem dL_law__1331 : decode cL_law_ 1331 = .ok (.laload, 1) := by decide +kernel
theorem dL_law__1332 : decode cL_law_ 1332 = .ok (.iload 6, 2) := by decide +kernel
theorem dL_law__1334 : decode cL_law_ 1334 = .ok (.i2l, 1) := by decide +kernel
theorem dL_law__1335 : decode cL_law_ 1335 = .ok (.lcmp, 1) := by decide +kernel
theorem dL_law__1336 : decode cL_law_ 1336 = .ok (.ifCond .eq 5, 3) := by decide +kernel
theorem dL_law__1339 : decode cL_law_ 1339 = .ok (.iconst 0, 1) := by decide +kernel
theorem dL_law__1340 : decode cL_law_ 1340 = .ok (.ireturn, 1) := by decide +kernel
theorem dL_law__1341 : decode cL_law_ 1341 = .ok (.goto 1576, 3) := by decide +kernel
def fLc_19 (p1 : Int32) (p2 : Int32) (v : zV) : Option zV :=
  zbind (fL_ahead 0 p1 p2 603 v) fun r_2 v_1 =>
  zbind (fX10_ahead 116 p1 p2 v_1) fun r_4 v_3 =>
  zbind (fX10_thrown 116 v_3) fun r_6 v_5 =>
  if r_6 = r_2 then
    if r_2 = (0 : Int32) then
      zix (0 : Int32) (zlen 603) <|
      if (lg_cmp ((v_5 603 (0 : Int32).toNatClampNeg).toInt64) ((r_4).toInt64)) = (0 : Int32) then
        some v_5
      else
        none
    else
      some v_5
  else
    none
set_option maxRecDepth 8000 in
set_option maxHeartbeats 1000000 in
theorem jLc_19 {x : zCx} {G : zG} {fr lo b L : Nat} {xs : Nat → Int32} {Q : State → Prop} (F : zF x G cL_law_ 7 RL fr lo) (hfr : 400 ≤ fr ∧ 20000 ≤ lo) (hfl : x.2.1.stackTraces = false) (hX : va_X b L xs x.2.2.2.2.1 x.2.2.2.2.1.heap) (hbl : b < x.2.2.2.2.1.heap.size) (hbA : ¬ zA G b) (t0 : zty G 0 1 9) (t1 : zty G 116 1 10) (t3 : zty G 603 2 2) {j : Nat} (hj : j + 7 ≤ L) (hL : L < 2 ^ 31) {cs sl : Nat} (hcs : cs + 5 ≤ x.2.2.2.1.cells ∧ sl + 30 ≤ x.2.2.2.1.slots) (v w : zV) (h : fLc_19 (xs (j + 1)) (xs (j + 2)) v = some w) (kk : zJ x G 7 Q (cs + 5) (sl + 30) 2917 [(0, .ref b), (1, zr G 0), (2, zr G 116), (3, zr G 603), (4, .int (nI j))] [] w) : zJ x G 7 Q cs sl 1276 [(0, .ref b), (1, zr G 0), (2, zr G 116), (3, zr G 603), (4, .int (nI j))] [] v := by
  obtain ⟨hfr1, hfr2⟩ := hfr
  obtain ⟨hcs1, hcs2⟩ := hcs
  unfold fLc_19 at h
  refine z_aload_n F dL_law__1276 rfl 1 rfl ?_
  refine z_aload_n F dL_law__1277 rfl 0 rfl ?_
  refine z_iload F dL_law__1278 4 rfl ?_
  refine z_iconst (y := (1 : Int32)) F dL_law__1280 rfl ?_
  refine z_iadd F dL_law__1281 ?_
  refine z_sld F hX hbl hbA (nI_add j 1) (by omega) hL dL_law__1282 ?_
  refine z_aload_n F dL_law__1283 rfl 0 rfl ?_
  refine z_iload F dL_law__1284 4 rfl ?_
  refine z_iconst (y := (2 : Int32)) F dL_law__1286 rfl ?_
  refine z_iadd F dL_law__1287 ?_
  refine z_sld F hX hbl hbA (nI_add j 2) (by omega) hL dL_law__1288 ?_
  refine z_aload_n F dL_law__1289 rfl 3 rfl ?_
  obtain ⟨r_2, v_1, hq1290, h⟩ := zbind_ex h
  refine z_callSW (n := 4) F [zr G 0, .int (xs (j + 1)), .int (xs (j + 2)), zr G 603] [] (kL_ahead x.2.1 G 0 t0 (xs (j + 1)) (xs (j + 2)) 603 t3 v r_2 v_1 hfl hq1290) kw_L_ahead wM_L_203 ms_L_ahead dL_law__1290 rfl (by decide +kernel) ⟨by omega, by omega⟩ rfl (Nat.le_of_ble_eq_true rfl) ⟨by omega, by omega⟩ ?_
  refine z_istore (n := 0) F [(5, .int r_2), (0, .ref b), (1, zr G 0), (2, zr G 116), (3, zr G 603), (4, .int (nI j))] dL_law__1293 (Nat.le_of_ble_eq_true rfl) rfl ?_
  refine z_aload_n F dL_law__1295 rfl 3 rfl ?_
  refine z_aload_n F dL_law__1296 rfl 1 rfl ?_
  refine z_iload F dL_law__1297 5 rfl ?_
  refine z_iconst (y := (1 : Int32)) F dL_law__1299 rfl ?_
  refine z_iadd F dL_law__1300 ?_
  refine z_sld F hX hbl hbA (nI_add j 1) (by omega) hL dL_law__1301 ?_
  refine z_aload_n F dL_law__1302 rfl 1 rfl ?_
  refine z_iload F dL_law__1303 5 rfl ?_
  refine z_iconst (y := (2 : Int32)) F dL_law__1305 rfl ?_
  refine z_iadd F dL_law__1306 ?_
  refine z_sld F hX hbl hbA (nI_add j 2) (by omega) hL dL_law__1307 ?_
  obtain ⟨r_4, v_3, hq1308, h⟩ := zbind_ex h
  refine z_callVi F [.int (xs (j + 1)), .int (xs (j + 2))] [] (kX10_ahead x.2.1 G 116 t1 (xs (j + 1)) (xs (j + 2)) v_1 r_4 v_3 hq1308) mI_X10_ahead (c := 10) rfl t1 wM_L_205 mi_X10_ahead sl_X10_ahead dL_law__1308 rfl ⟨by omega, by omega⟩ rfl (Nat.le_of_ble_eq_true rfl) ⟨by omega, by omega⟩ ?_
  refine z_istore (n := 0) F [(6, .int r_4), (5, .int r_2), (0, .ref b), (1, zr G 0), (2, zr G 116), (3, zr G 603), (4, .int (nI j))] dL_law__1311 (Nat.le_of_ble_eq_true rfl) rfl ?_
  refine z_aload_n F dL_law__1313 rfl 4 rfl ?_
  obtain ⟨r_6, v_5, hq1314, h⟩ := zbind_ex h
  refine z_callVi F [] [] (kX10_thrown x.2.1 G 116 t1 v_3 r_6 v_5 hq1314) mI_X10_thrown (c := 10) rfl t1 wM_L_144 mi_X10_thrown sl_X10_thrown dL_law__1314 rfl ⟨by omega, by omega⟩ rfl (Nat.le_of_ble_eq_true rfl) ⟨by omega, by omega⟩ ?_
  refine z_iload F dL_law__1317 1 rfl ?_
  refine z_icmp_eq F 1324 dL_law__1319 rfl (fun hc => ?_) (fun hc => ?_)
  · replace h := zif_t hc h
    refine z_iload F dL_law__1324 1 rfl ?_
    refine z_if_ne F 1341 dL_law__1326 rfl (fun hc => ?_) (fun hc => ?_)
    · replace h := zif_f hc h
      refine z_goto F 2917 dL_law__1341 rfl ?_
      cases h
      refine z_ls [(0, .ref b), (1, zr G 0), (2, zr G 116), (3, zr G 603), (4, .int (nI j))] [2, 3, 4, 5, 6] rfl ?_
      exact z_wide (cs' := cs + 5) (sl' := sl + 30) (by omega) (by omega) kk
    · replace h := zif_t hc h
      refine z_aload_n F dL_law__1329 rfl 5 rfl ?_
      refine z_iconst (y := (0 : Int32)) F dL_law__1330 rfl ?_
      obtain ⟨hi1331, h⟩ := zix_ex h
      refine z_lald F t3 dL_law__1331 hi1331 ?_
      refine z_iload F dL_law__1332 0 rfl ?_
      refine z_i2l F dL_law__1334 ?_
      refine z_lcmp F dL_law__1335 ?_
      refine z_if_eq F 1341 dL_law__1336 rfl (fun hc => ?_) (fun hc => ?_)
      · replace h := zif_t hc h
        refine z_goto F 2917 dL_law__1341 rfl ?_
        cases h
        refine z_ls [(0, .ref b), (1, zr G 0), (2, zr G 116), (3, zr G 603), (4, .int (nI j))] [2, 3, 4, 5, 6] rfl ?_
        exact z_wide (cs' := cs + 5) (sl' := sl + 30) (by omega) (by omega) kk
      · replace h := zif_f hc h
        exact absurd h (by intro q; cases q)
  · replace h := zif_f hc h
    exact absurd h (by intro q; cases q)

theorem dL_law__1344 : decode cL_law_ 1344 = .ok (.aload_n 1, 1) := by decide +kernel
theorem dL_law__1345 : decode cL_law_ 1345 = .ok (.aload_n 0, 1) := by decide +kernel
theorem dL_law__1346 : decode cL_law_ 1346 = .ok (.iload 4, 2) := by decide +kernel
theorem dL_law__1348 : decode cL_law_ 1348 = .ok (.iconst 1, 1) := by decide +kernel
theorem dL_law__1349 : decode cL_law_ 1349 = .ok (.iadd, 1) := by decide +kernel
theorem dL_law__1350 : decode cL_law_ 1350 = .ok (.iaload, 1) := by decide +kernel
theorem dL_law__1351 : decode cL_law_ 1351 = .ok (.aload_n 3, 1) := by decide +kernel
theorem dL_law__1352 : decode cL_law_ 1352 = .ok (.invokestatic 206, 3) := by decide +kernel
theorem dL_law__1355 : decode cL_law_ 1355 = .ok (.istore 5, 2) := by decide +kernel
theorem dL_law__1357 : decode cL_law_ 1357 = .ok (.aload_n 2, 1) := by decide +kernel
theorem dL_law__1358 : decode cL_law_ 1358 = .ok (.aload_n 0, 1) := by decide +kernel
theorem dL_law__1359 : decode cL_law_ 1359 = .ok (.iload 4, 2) := by decide +kernel
theorem dL_law__1361 : decode cL_law_ 1361 = .ok (.iconst 1, 1) := by decide +kernel
theorem dL_law__1362 : decode cL_law_ 1362 = .ok (.iadd, 1) := by decide +kernel
theorem dL_law__1363 : decode cL_law_ 1363 = .ok (.iaload, 1) := by decide +kernel
theorem dL_law__1364 : decode cL_law_ 1364 = .ok (.invokevirtual 208, 3) := by decide +kernel
theorem dL_law__1367 : decode cL_law_ 1367 = .ok (.istore 6, 2) := by decide +kernel
theorem dL_law__1369 : decode cL_law_ 1369 = .ok (.aload_n 2, 1) := by decide +kernel
theorem dL_law__1370 : decode cL_law_ 1370 = .ok (.invokevirtual 144, 3) := by decide +kernel
theorem dL_law__1373 : decode cL_law_ 1373 = .ok (.iload 5, 2) := by decide +kernel
theorem dL_law__1375 : decode cL_law_ 1375 = .ok (.if_icmp .eq 5, 3) := by decide +kernel
theorem dL_law__1378 : decode cL_law_ 1378 = .ok (.iconst 0, 1) := by decide +kernel
theorem dL_law__1379 : decode cL_law_ 1379 = .ok (.ireturn, 1) := by decide +kernel
theorem dL_law__1380 : decode cL_law_ 1380 = .ok (.iload 5, 2) := by decide +kernel
theorem dL_law__1382 : decode cL_law_ 1382 = .ok (.ifCond .ne 15, 3) := by decide +kernel
theorem dL_law__1385 : decode cL_law_ 1385 = .ok (.aload_n 3, 1) := by decide +kernel
theorem dL_law__1386 : decode cL_law_ 1386 = .ok (.iconst 0, 1) := by decide +kernel
theorem dL_law__1387 : decode cL_law_ 1387 = .ok (.laload, 1) := by decide +kernel
theorem dL_law__1388 : decode cL_law_ 1388 = .ok (.iload 6, 2) := by decide +kernel
theorem dL_law__1390 : decode cL_law_ 1390 = .ok (.i2l, 1) := by decide +kernel
theorem dL_law__1391 : decode cL_law_ 1391 = .ok (.lcmp, 1) := by decide +kernel
theorem dL_law__1392 : decode cL_law_ 1392 = .ok (.ifCond .eq 5, 3) := by decide +kernel
theorem dL_law__1395 : decode cL_law_ 1395 = .ok (.iconst 0, 1) := by decide +kernel
theorem dL_law__1396 : decode cL_law_ 1396 = .ok (.ireturn, 1) := by decide +kernel
theorem dL_law__1397 : decode cL_law_ 1397 = .ok (.goto 1520, 3) := by decide +kernel
def fLc_20 (p1 : Int32) (v : zV) : Option zV :=
  zbind (fL_when 0 p1 603 v) fun r_2 v_1 =>
  zbind (fX10_when 116 p1 v_1) fun r_4 v_3 =>
  zbind (fX10_thrown 116 v_3) fun r_6 v_5 =>
  if r_6 = r_2 then
    if r_2 = (0 : Int32) then
      zix (0 : Int32) (zlen 603) <|
      if (lg_cmp ((v_5 603 (0 : Int32).toNatClampNeg).toInt64) ((r_4).toInt64)) = (0 : Int32) then
        some v_5
      else
        none
    else
      some v_5
  else
    none
set_option maxRecDepth 8000 in
set_option maxHeartbeats 1000000 in
theorem jLc_20 {x : zCx} {G : zG} {fr lo b L : Nat} {xs : Nat → Int32} {Q : State → Prop} (F : zF x G cL_law_ 7 RL fr lo) (hfr : 400 ≤ fr ∧ 20000 ≤ lo) (hfl : x.2.1.stackTraces = false) (hX : va_X b L xs x.2.2.2.2.1 x.2.2.2.2.1.heap) (hbl : b < x.2.2.2.2.1.heap.size) (hbA : ¬ zA G b) (t0 : zty G 0 1 9) (t1 : zty G 116 1 10) (t3 : zty G 603 2 2) {j : Nat} (hj : j + 7 ≤ L) (hL : L < 2 ^ 31) {cs sl : Nat} (hcs : cs + 5 ≤ x.2.2.2.1.cells ∧ sl + 30 ≤ x.2.2.2.1.slots) (v w : zV) (h : fLc_20 (xs (j + 1)) v = some w) (kk : zJ x G 7 Q (cs + 5) (sl + 30) 2917 [(0, .ref b), (1, zr G 0), (2, zr G 116), (3, zr G 603), (4, .int (nI j))] [] w) : zJ x G 7 Q cs sl 1344 [(0, .ref b), (1, zr G 0), (2, zr G 116), (3, zr G 603), (4, .int (nI j))] [] v := by
  obtain ⟨hfr1, hfr2⟩ := hfr
  obtain ⟨hcs1, hcs2⟩ := hcs
  unfold fLc_20 at h
  refine z_aload_n F dL_law__1344 rfl 1 rfl ?_
  refine z_aload_n F dL_law__1345 rfl 0 rfl ?_
  refine z_iload F dL_law__1346 4 rfl ?_
  refine z_iconst (y := (1 : Int32)) F dL_law__1348 rfl ?_
  refine z_iadd F dL_law__1349 ?_
  refine z_sld F hX hbl hbA (nI_add j 1) (by omega) hL dL_law__1350 ?_
  refine z_aload_n F dL_law__1351 rfl 3 rfl ?_
  obtain ⟨r_2, v_1, hq1352, h⟩ := zbind_ex h
  refine z_callSW (n := 3) F [zr G 0, .int (xs (j + 1)), zr G 603] [] (kL_when x.2.1 G 0 t0 (xs (j + 1)) 603 t3 v r_2 v_1 hfl hq1352) kw_L_when wM_L_206 ms_L_when dL_law__1352 rfl (by decide +kernel) ⟨by omega, by omega⟩ rfl (Nat.le_of_ble_eq_true rfl) ⟨by omega, by omega⟩ ?_
  refine z_istore (n := 0) F [(5, .int r_2), (0, .ref b), (1, zr G 0), (2, zr G 116), (3, zr G 603), (4, .int (nI j))] dL_law__1355 (Nat.le_of_ble_eq_true rfl) rfl ?_
  refine z_aload_n F dL_law__1357 rfl 3 rfl ?_
  refine z_aload_n F dL_law__1358 rfl 1 rfl ?_
  refine z_iload F dL_law__1359 5 rfl ?_
  refine z_iconst (y := (1 : Int32)) F dL_law__1361 rfl ?_
  refine z_iadd F dL_law__1362 ?_
  refine z_sld F hX hbl hbA (nI_add j 1) (by omega) hL dL_law__1363 ?_
  obtain ⟨r_4, v_3, hq1364, h⟩ := zbind_ex h
  refine z_callVi F [.int (xs (j + 1))] [] (kX10_when x.2.1 G 116 t1 (xs (j + 1)) v_1 r_4 v_3 hq1364) mI_X10_when (c := 10) rfl t1 wM_L_208 mi_X10_when sl_X10_when dL_law__1364 rfl ⟨by omega, by omega⟩ rfl (Nat.le_of_ble_eq_true rfl) ⟨by omega, by omega⟩ ?_
  refine z_istore (n := 0) F [(6, .int r_4), (5, .int r_2), (0, .ref b), (1, zr G 0), (2, zr G 116), (3, zr G 603), (4, .int (nI j))] dL_law__1367 (Nat.le_of_ble_eq_true rfl) rfl ?_
  refine z_aload_n F dL_law__1369 rfl 4 rfl ?_
  obtain ⟨r_6, v_5, hq1370, h⟩ := zbind_ex h
  refine z_callVi F [] [] (kX10_thrown x.2.1 G 116 t1 v_3 r_6 v_5 hq1370) mI_X10_thrown (c := 10) rfl t1 wM_L_144 mi_X10_thrown sl_X10_thrown dL_law__1370 rfl ⟨by omega, by omega⟩ rfl (Nat.le_of_ble_eq_true rfl) ⟨by omega, by omega⟩ ?_
  refine z_iload F dL_law__1373 1 rfl ?_
  refine z_icmp_eq F 1380 dL_law__1375 rfl (fun hc => ?_) (fun hc => ?_)
  · replace h := zif_t hc h
    refine z_iload F dL_law__1380 1 rfl ?_
    refine z_if_ne F 1397 dL_law__1382 rfl (fun hc => ?_) (fun hc => ?_)
    · replace h := zif_f hc h
      refine z_goto F 2917 dL_law__1397 rfl ?_
      cases h
      refine z_ls [(0, .ref b), (1, zr G 0), (2, zr G 116), (3, zr G 603), (4, .int (nI j))] [2, 3, 4, 5, 6] rfl ?_
      exact z_wide (cs' := cs + 5) (sl' := sl + 30) (by omega) (by omega) kk
    · replace h := zif_t hc h
      refine z_aload_n F dL_law__1385 rfl 5 rfl ?_
      refine z_iconst (y := (0 : Int32)) F dL_law__1386 rfl ?_
      obtain ⟨hi1387, h⟩ := zix_ex h
      refine z_lald F t3 dL_law__1387 hi1387 ?_
      refine z_iload F dL_law__1388 0 rfl ?_
      refine z_i2l F dL_law__1390 ?_
      refine z_lcmp F dL_law__1391 ?_
      refine z_if_eq F 1397 dL_law__1392 rfl (fun hc => ?_) (fun hc => ?_)
      · replace h := zif_t hc h
        refine z_goto F 2917 dL_law__1397 rfl ?_
        cases h
        refine z_ls [(0, .ref b), (1, zr G 0), (2, zr G 116), (3, zr G 603), (4, .int (nI j))] [2, 3, 4, 5, 6] rfl ?_
        exact z_wide (cs' := cs + 5) (sl' := sl + 30) (by omega) (by omega) kk
      · replace h := zif_f hc h
        exact absurd h (by intro q; cases q)
  · replace h := zif_f hc h
    exact absurd h (by intro q; cases q)

theorem dL_law__1400 : decode cL_law_ 1400 = .ok (.aload_n 1, 1) := by decide +kernel
theorem dL_law__1401 : decode cL_law_ 1401 = .ok (.invokevirtual 209, 3) := by decide +kernel
theorem dL_law__1404 : decode cL_law_ 1404 = .ok (.aload_n 2, 1) := by decide +kernel
theorem dL_law__1405 : decode cL_law_ 1405 = .ok (.invokevirtual 212, 3) := by decide +kernel
theorem dL_law__1408 : decode cL_law_ 1408 = .ok (.if_icmp .eq 1509, 3) := by decide +kernel
theorem dL_law__1411 : decode cL_law_ 1411 = .ok (.iconst 0, 1) := by decide +kernel
theorem dL_law__1412 : decode cL_law_ 1412 = .ok (.ireturn, 1) := by decide +kernel
def fLc_21 (v : zV) : Option zV :=
  zbind (fX9_breaks 0 v) fun r_2 v_1 =>
  zbind (fX10_breaks 116 v_1) fun r_4 v_3 =>
  if r_2 = r_4 then
    some v_3
  else
    none
set_option maxRecDepth 8000 in
set_option maxHeartbeats 1000000 in
theorem jLc_21 {x : zCx} {G : zG} {fr lo b L : Nat} {xs : Nat → Int32} {Q : State → Prop} (F : zF x G cL_law_ 7 RL fr lo) (hfr : 400 ≤ fr ∧ 20000 ≤ lo) (hfl : x.2.1.stackTraces = false) (hX : va_X b L xs x.2.2.2.2.1 x.2.2.2.2.1.heap) (hbl : b < x.2.2.2.2.1.heap.size) (hbA : ¬ zA G b) (t0 : zty G 0 1 9) (t1 : zty G 116 1 10) (t3 : zty G 603 2 2) {j : Nat} (hj : j + 7 ≤ L) (hL : L < 2 ^ 31) {cs sl : Nat} (hcs : cs + 5 ≤ x.2.2.2.1.cells ∧ sl + 30 ≤ x.2.2.2.1.slots) (v w : zV) (h : fLc_21 v = some w) (kk : zJ x G 7 Q (cs + 5) (sl + 30) 2917 [(0, .ref b), (1, zr G 0), (2, zr G 116), (3, zr G 603), (4, .int (nI j))] [] w) : zJ x G 7 Q cs sl 1400 [(0, .ref b), (1, zr G 0), (2, zr G 116), (3, zr G 603), (4, .int (nI j))] [] v := by
  obtain ⟨hfr1, hfr2⟩ := hfr
  obtain ⟨hcs1, hcs2⟩ := hcs
  unfold fLc_21 at h
  refine z_aload_n F dL_law__1400 rfl 1 rfl ?_
  obtain ⟨r_2, v_1, hq1401, h⟩ := zbind_ex h
  refine z_callVi F [] [] (kX9_breaks x.2.1 G 0 t0 v r_2 v_1 hq1401) mI_X9_breaks (c := 9) rfl t0 wM_L_209 mi_X9_breaks sl_X9_breaks dL_law__1401 rfl ⟨by omega, by omega⟩ rfl (Nat.le_of_ble_eq_true rfl) ⟨by omega, by omega⟩ ?_
  refine z_aload_n F dL_law__1404 rfl 2 rfl ?_
  obtain ⟨r_4, v_3, hq1405, h⟩ := zbind_ex h
  refine z_callVi F [] [.int r_2] (kX10_breaks x.2.1 G 116 t1 v_1 r_4 v_3 hq1405) mI_X10_breaks (c := 10) rfl t1 wM_L_212 mi_X10_breaks sl_X10_breaks dL_law__1405 rfl ⟨by omega, by omega⟩ rfl (Nat.le_of_ble_eq_true rfl) ⟨by omega, by omega⟩ ?_
  refine z_icmp_eq F 2917 dL_law__1408 rfl (fun hc => ?_) (fun hc => ?_)
  · replace h := zif_t hc h
    cases h
    refine z_ls [(0, .ref b), (1, zr G 0), (2, zr G 116), (3, zr G 603), (4, .int (nI j))] [0, 1, 2, 3, 4] rfl ?_
    exact z_wide (cs' := cs + 5) (sl' := sl + 30) (by omega) (by omega) kk
  · replace h := zif_f hc h
    exact absurd h (by intro q; cases q)

theorem dL_law__1413 : decode cL_law_ 1413 = .ok (.aload_n 1, 1) := by decide +kernel
theorem dL_law__1414 : decode cL_law_ 1414 = .ok (.aload_n 0, 1) := by decide +kernel
theorem dL_law__1415 : decode cL_law_ 1415 = .ok (.iload 4, 2) := by decide +kernel
theorem dL_law__1417 : decode cL_law_ 1417 = .ok (.iconst 1, 1) := by decide +kernel
theorem dL_law__1418 : decode cL_law_ 1418 = .ok (.iadd, 1) := by decide +kernel
theorem dL_law__1419 : decode cL_law_ 1419 = .ok (.iaload, 1) := by decide +kernel
theorem dL_law__1420 : decode cL_law_ 1420 = .ok (.aload_n 0, 1) := by decide +kernel
theorem dL_law__1421 : decode cL_law_ 1421 = .ok (.iload 4, 2) := by decide +kernel
theorem dL_law__1423 : decode cL_law_ 1423 = .ok (.iconst 2, 1) := by decide +kernel
theorem dL_law__1424 : decode cL_law_ 1424 = .ok (.iadd, 1) := by decide +kernel
theorem dL_law__1425 : decode cL_law_ 1425 = .ok (.iaload, 1) := by decide +kernel
theorem dL_law__1426 : decode cL_law_ 1426 = .ok (.aload_n 0, 1) := by decide +kernel
theorem dL_law__1427 : decode cL_law_ 1427 = .ok (.iload 4, 2) := by decide +kernel
theorem dL_law__1429 : decode cL_law_ 1429 = .ok (.iconst 3, 1) := by decide +kernel
theorem dL_law__1430 : decode cL_law_ 1430 = .ok (.iadd, 1) := by decide +kernel
theorem dL_law__1431 : decode cL_law_ 1431 = .ok (.iaload, 1) := by decide +kernel
theorem dL_law__1432 : decode cL_law_ 1432 = .ok (.aload_n 0, 1) := by decide +kernel
theorem dL_law__1433 : decode cL_law_ 1433 = .ok (.iload 4, 2) := by decide +kernel
theorem dL_law__1435 : decode cL_law_ 1435 = .ok (.iconst 4, 1) := by decide +kernel
theorem dL_law__1436 : decode cL_law_ 1436 = .ok (.iadd, 1) := by decide +kernel
theorem dL_law__1437 : decode cL_law_ 1437 = .ok (.iaload, 1) := by decide +kernel
theorem dL_law__1438 : decode cL_law_ 1438 = .ok (.aload_n 3, 1) := by decide +kernel
theorem dL_law__1439 : decode cL_law_ 1439 = .ok (.invokestatic 213, 3) := by decide +kernel
theorem dL_law__1442 : decode cL_law_ 1442 = .ok (.istore 5, 2) := by decide +kernel
theorem dL_law__1444 : decode cL_law_ 1444 = .ok (.aload_n 2, 1) := by decide +kernel
theorem dL_law__1445 : decode cL_law_ 1445 = .ok (.aload_n 0, 1) := by decide +kernel
theorem dL_law__1446 : decode cL_law_ 1446 = .ok (.iload 4, 2) := by decide +kernel
theorem dL_law__1448 : decode cL_law_ 1448 = .ok (.iconst 1, 1) := by decide +kernel
theorem dL_law__1449 : decode cL_law_ 1449 = .ok (.iadd, 1) := by decide +kernel
theorem dL_law__1450 : decode cL_law_ 1450 = .ok (.iaload, 1) := by decide +kernel
theorem dL_law__1451 : decode cL_law_ 1451 = .ok (.aload_n 0, 1) := by decide +kernel
theorem dL_law__1452 : decode cL_law_ 1452 = .ok (.iload 4, 2) := by decide +kernel
theorem dL_law__1454 : decode cL_law_ 1454 = .ok (.iconst 2, 1) := by decide +kernel
theorem dL_law__1455 : decode cL_law_ 1455 = .ok (.iadd, 1) := by decide +kernel
theorem dL_law__1456 : decode cL_law_ 1456 = .ok (.iaload, 1) := by decide +kernel
theorem dL_law__1457 : decode cL_law_ 1457 = .ok (.aload_n 0, 1) := by decide +kernel
theorem dL_law__1458 : decode cL_law_ 1458 = .ok (.iload 4, 2) := by decide +kernel
theorem dL_law__1460 : decode cL_law_ 1460 = .ok (.iconst 3, 1) := by decide +kernel
theorem dL_law__1461 : decode cL_law_ 1461 = .ok (.iadd, 1) := by decide +kernel
theorem dL_law__1462 : decode cL_law_ 1462 = .ok (.iaload, 1) := by decide +kernel
theorem dL_law__1463 : decode cL_law_ 1463 = .ok (.aload_n 0, 1) := by decide +kernel
theorem dL_law__1464 : decode cL_law_ 1464 = .ok (.iload 4, 2) := by decide +kernel
theorem dL_law__1466 : decode cL_law_ 1466 = .ok (.iconst 4, 1) := by decide +kernel
theorem dL_law__1467 : decode cL_law_ 1467 = .ok (.iadd, 1) := by decide +kernel
theorem dL_law__1468 : decode cL_law_ 1468 = .ok (.iaload, 1) := by decide +kernel
theorem dL_law__1469 : decode cL_law_ 1469 = .ok (.invokevirtual 216, 3) := by decide +kernel
theorem dL_law__1472 : decode cL_law_ 1472 = .ok (.istore 6, 2) := by decide +kernel
theorem dL_law__1474 : decode cL_law_ 1474 = .ok (.aload_n 2, 1) := by decide +kernel
theorem dL_law__1475 : decode cL_law_ 1475 = .ok (.invokevirtual 144, 3) := by decide +kernel
theorem dL_law__1478 : decode cL_law_ 1478 = .ok (.iload 5, 2) := by decide +kernel
theorem dL_law__1480 : decode cL_law_ 1480 = .ok (.if_icmp .eq 5, 3) := by decide +kernel
theorem dL_law__1483 : decode cL_law_ 1483 = .ok (.iconst 0, 1) := by decide +kernel
theorem dL_law__1484 : decode cL_law_ 1484 = .ok (.ireturn, 1) := by decide +kernel
theorem dL_law__1485 : decode cL_law_ 1485 = .ok (.iload 5, 2) := by decide +kernel
theorem dL_law__1487 : decode cL_law_ 1487 = .ok (.ifCond .ne 15, 3) := by decide +kernel
theorem dL_law__1490 : decode cL_law_ 1490 = .ok (.aload_n 3, 1) := by decide +kernel
theorem dL_law__1491 : decode cL_law_ 1491 = .ok (.iconst 0, 1) := by decide +kernel
theorem dL_law__1492 : decode cL_law_ 1492 = .ok (.laload, 1) := by decide +kernel
theorem dL_law__1493 : decode cL_law_ 1493 = .ok (.iload 6, 2) := by decide +kernel
theorem dL_law__1495 : decode cL_law_ 1495 = .ok (.i2l, 1) := by decide +kernel
theorem dL_law__1496 : decode cL_law_ 1496 = .ok (.lcmp, 1) := by decide +kernel
theorem dL_law__1497 : decode cL_law_ 1497 = .ok (.ifCond .eq 5, 3) := by decide +kernel
theorem dL_law__1500 : decode cL_law_ 1500 = .ok (.iconst 0, 1) := by decide +kernel
theorem dL_law__1501 : decode cL_law_ 1501 = .ok (.ireturn, 1) := by decide +kernel
theorem dL_law__1502 : decode cL_law_ 1502 = .ok (.goto 1415, 3) := by decide +kernel
def fLc_22 (p1 : Int32) (p2 : Int32) (p3 : Int32) (p4 : Int32) (v : zV) : Option zV :=
  zbind (fL_praises 0 p1 p2 p3 p4 603 v) fun r_2 v_1 =>
  zbind (fX10_praises 116 p1 p2 p3 p4 v_1) fun r_4 v_3 =>
  zbind (fX10_thrown 116 v_3) fun r_6 v_5 =>
  if r_6 = r_2 then
    if r_2 = (0 : Int32) then
      zix (0 : Int32) (zlen 603) <|
      if (lg_cmp ((v_5 603 (0 : Int32).toNatClampNeg).toInt64) ((r_4).toInt64)) = (0 : Int32) then
        some v_5
      else
        none
    else
      some v_5
  else
    none
set_option maxRecDepth 8000 in
set_option maxHeartbeats 1000000 in
theorem jLc_22 {x : zCx} {G : zG} {fr lo b L : Nat} {xs : Nat → Int32} {Q : State → Prop} (F : zF x G cL_law_ 7 RL fr lo) (hfr : 400 ≤ fr ∧ 20000 ≤ lo) (hfl : x.2.1.stackTraces = false) (hX : va_X b L xs x.2.2.2.2.1 x.2.2.2.2.1.heap) (hbl : b < x.2.2.2.2.1.heap.size) (hbA : ¬ zA G b) (t0 : zty G 0 1 9) (t1 : zty G 116 1 10) (t3 : zty G 603 2 2) {j : Nat} (hj : j + 7 ≤ L) (hL : L < 2 ^ 31) {cs sl : Nat} (hcs : cs + 5 ≤ x.2.2.2.1.cells ∧ sl + 30 ≤ x.2.2.2.1.slots) (v w : zV) (h : fLc_22 (xs (j + 1)) (xs (j + 2)) (xs (j + 3)) (xs (j + 4)) v = some w) (kk : zJ x G 7 Q (cs + 5) (sl + 30) 2917 [(0, .ref b), (1, zr G 0), (2, zr G 116), (3, zr G 603), (4, .int (nI j))] [] w) : zJ x G 7 Q cs sl 1413 [(0, .ref b), (1, zr G 0), (2, zr G 116), (3, zr G 603), (4, .int (nI j))] [] v := by
  obtain ⟨hfr1, hfr2⟩ := hfr
  obtain ⟨hcs1, hcs2⟩ := hcs
  unfold fLc_22 at h
  refine z_aload_n F dL_law__1413 rfl 1 rfl ?_
  refine z_aload_n F dL_law__1414 rfl 0 rfl ?_
  refine z_iload F dL_law__1415 4 rfl ?_
  refine z_iconst (y := (1 : Int32)) F dL_law__1417 rfl ?_
  refine z_iadd F dL_law__1418 ?_
  refine z_sld F hX hbl hbA (nI_add j 1) (by omega) hL dL_law__1419 ?_
  refine z_aload_n F dL_law__1420 rfl 0 rfl ?_
  refine z_iload F dL_law__1421 4 rfl ?_
  refine z_iconst (y := (2 : Int32)) F dL_law__1423 rfl ?_
  refine z_iadd F dL_law__1424 ?_
  refine z_sld F hX hbl hbA (nI_add j 2) (by omega) hL dL_law__1425 ?_
  refine z_aload_n F dL_law__1426 rfl 0 rfl ?_
  refine z_iload F dL_law__1427 4 rfl ?_
  refine z_iconst (y := (3 : Int32)) F dL_law__1429 rfl ?_
  refine z_iadd F dL_law__1430 ?_
  refine z_sld F hX hbl hbA (nI_add j 3) (by omega) hL dL_law__1431 ?_
  refine z_aload_n F dL_law__1432 rfl 0 rfl ?_
  refine z_iload F dL_law__1433 4 rfl ?_
  refine z_iconst (y := (4 : Int32)) F dL_law__1435 rfl ?_
  refine z_iadd F dL_law__1436 ?_
  refine z_sld F hX hbl hbA (nI_add j 4) (by omega) hL dL_law__1437 ?_
  refine z_aload_n F dL_law__1438 rfl 3 rfl ?_
  obtain ⟨r_2, v_1, hq1439, h⟩ := zbind_ex h
  refine z_callSW (n := 6) F [zr G 0, .int (xs (j + 1)), .int (xs (j + 2)), .int (xs (j + 3)), .int (xs (j + 4)), zr G 603] [] (kL_praises x.2.1 G 0 t0 (xs (j + 1)) (xs (j + 2)) (xs (j + 3)) (xs (j + 4)) 603 t3 v r_2 v_1 hfl hq1439) kw_L_praises wM_L_213 ms_L_praises dL_law__1439 rfl (by decide +kernel) ⟨by omega, by omega⟩ rfl (Nat.le_of_ble_eq_true rfl) ⟨by omega, by omega⟩ ?_
  refine z_istore (n := 0) F [(5, .int r_2), (0, .ref b), (1, zr G 0), (2, zr G 116), (3, zr G 603), (4, .int (nI j))] dL_law__1442 (Nat.le_of_ble_eq_true rfl) rfl ?_
  refine z_aload_n F dL_law__1444 rfl 3 rfl ?_
  refine z_aload_n F dL_law__1445 rfl 1 rfl ?_
  refine z_iload F dL_law__1446 5 rfl ?_
  refine z_iconst (y := (1 : Int32)) F dL_law__1448 rfl ?_
  refine z_iadd F dL_law__1449 ?_
  refine z_sld F hX hbl hbA (nI_add j 1) (by omega) hL dL_law__1450 ?_
  refine z_aload_n F dL_law__1451 rfl 1 rfl ?_
  refine z_iload F dL_law__1452 5 rfl ?_
  refine z_iconst (y := (2 : Int32)) F dL_law__1454 rfl ?_
  refine z_iadd F dL_law__1455 ?_
  refine z_sld F hX hbl hbA (nI_add j 2) (by omega) hL dL_law__1456 ?_
  refine z_aload_n F dL_law__1457 rfl 1 rfl ?_
  refine z_iload F dL_law__1458 5 rfl ?_
  refine z_iconst (y := (3 : Int32)) F dL_law__1460 rfl ?_
  refine z_iadd F dL_law__1461 ?_
  refine z_sld F hX hbl hbA (nI_add j 3) (by omega) hL dL_law__1462 ?_
  refine z_aload_n F dL_law__1463 rfl 1 rfl ?_
  refine z_iload F dL_law__1464 5 rfl ?_
  refine z_iconst (y := (4 : Int32)) F dL_law__1466 rfl ?_
  refine z_iadd F dL_law__1467 ?_
  refine z_sld F hX hbl hbA (nI_add j 4) (by omega) hL dL_law__1468 ?_
  obtain ⟨r_4, v_3, hq1469, h⟩ := zbind_ex h
  refine z_callVi F [.int (xs (j + 1)), .int (xs (j + 2)), .int (xs (j + 3)), .int (xs (j + 4))] [] (kX10_praises x.2.1 G 116 t1 (xs (j + 1)) (xs (j + 2)) (xs (j + 3)) (xs (j + 4)) v_1 r_4 v_3 hq1469) mI_X10_praises (c := 10) rfl t1 wM_L_216 mi_X10_praises sl_X10_praises dL_law__1469 rfl ⟨by omega, by omega⟩ rfl (Nat.le_of_ble_eq_true rfl) ⟨by omega, by omega⟩ ?_
  refine z_istore (n := 0) F [(6, .int r_4), (5, .int r_2), (0, .ref b), (1, zr G 0), (2, zr G 116), (3, zr G 603), (4, .int (nI j))] dL_law__1472 (Nat.le_of_ble_eq_true rfl) rfl ?_
  refine z_aload_n F dL_law__1474 rfl 4 rfl ?_
  obtain ⟨r_6, v_5, hq1475, h⟩ := zbind_ex h
  refine z_callVi F [] [] (kX10_thrown x.2.1 G 116 t1 v_3 r_6 v_5 hq1475) mI_X10_thrown (c := 10) rfl t1 wM_L_144 mi_X10_thrown sl_X10_thrown dL_law__1475 rfl ⟨by omega, by omega⟩ rfl (Nat.le_of_ble_eq_true rfl) ⟨by omega, by omega⟩ ?_
  refine z_iload F dL_law__1478 1 rfl ?_
  refine z_icmp_eq F 1485 dL_law__1480 rfl (fun hc => ?_) (fun hc => ?_)
  · replace h := zif_t hc h
    refine z_iload F dL_law__1485 1 rfl ?_
    refine z_if_ne F 1502 dL_law__1487 rfl (fun hc => ?_) (fun hc => ?_)
    · replace h := zif_f hc h
      refine z_goto F 2917 dL_law__1502 rfl ?_
      cases h
      refine z_ls [(0, .ref b), (1, zr G 0), (2, zr G 116), (3, zr G 603), (4, .int (nI j))] [2, 3, 4, 5, 6] rfl ?_
      exact z_wide (cs' := cs + 5) (sl' := sl + 30) (by omega) (by omega) kk
    · replace h := zif_t hc h
      refine z_aload_n F dL_law__1490 rfl 5 rfl ?_
      refine z_iconst (y := (0 : Int32)) F dL_law__1491 rfl ?_
      obtain ⟨hi1492, h⟩ := zix_ex h
      refine z_lald F t3 dL_law__1492 hi1492 ?_
      refine z_iload F dL_law__1493 0 rfl ?_
      refine z_i2l F dL_law__1495 ?_
      refine z_lcmp F dL_law__1496 ?_
      refine z_if_eq F 1502 dL_law__1497 rfl (fun hc => ?_) (fun hc => ?_)
      · replace h := zif_t hc h
        refine z_goto F 2917 dL_law__1502 rfl ?_
        cases h
        refine z_ls [(0, .ref b), (1, zr G 0), (2, zr G 116), (3, zr G 603), (4, .int (nI j))] [2, 3, 4, 5, 6] rfl ?_
        exact z_wide (cs' := cs + 5) (sl' := sl + 30) (by omega) (by omega) kk
      · replace h := zif_f hc h
        exact absurd h (by intro q; cases q)
  · replace h := zif_f hc h
    exact absurd h (by intro q; cases q)

theorem dL_law__1505 : decode cL_law_ 1505 = .ok (.aload_n 1, 1) := by decide +kernel
theorem dL_law__1506 : decode cL_law_ 1506 = .ok (.aload_n 0, 1) := by decide +kernel
theorem dL_law__1507 : decode cL_law_ 1507 = .ok (.iload 4, 2) := by decide +kernel
theorem dL_law__1509 : decode cL_law_ 1509 = .ok (.iconst 1, 1) := by decide +kernel
theorem dL_law__1510 : decode cL_law_ 1510 = .ok (.iadd, 1) := by decide +kernel
theorem dL_law__1511 : decode cL_law_ 1511 = .ok (.iaload, 1) := by decide +kernel
theorem dL_law__1512 : decode cL_law_ 1512 = .ok (.aload_n 0, 1) := by decide +kernel
theorem dL_law__1513 : decode cL_law_ 1513 = .ok (.iload 4, 2) := by decide +kernel
theorem dL_law__1515 : decode cL_law_ 1515 = .ok (.iconst 2, 1) := by decide +kernel
theorem dL_law__1516 : decode cL_law_ 1516 = .ok (.iadd, 1) := by decide +kernel
theorem dL_law__1517 : decode cL_law_ 1517 = .ok (.iaload, 1) := by decide +kernel
theorem dL_law__1518 : decode cL_law_ 1518 = .ok (.aload_n 3, 1) := by decide +kernel
theorem dL_law__1519 : decode cL_law_ 1519 = .ok (.invokestatic 217, 3) := by decide +kernel
theorem dL_law__1522 : decode cL_law_ 1522 = .ok (.istore 5, 2) := by decide +kernel
theorem dL_law__1524 : decode cL_law_ 1524 = .ok (.aload_n 2, 1) := by decide +kernel
theorem dL_law__1525 : decode cL_law_ 1525 = .ok (.aload_n 0, 1) := by decide +kernel
theorem dL_law__1526 : decode cL_law_ 1526 = .ok (.iload 4, 2) := by decide +kernel
theorem dL_law__1528 : decode cL_law_ 1528 = .ok (.iconst 1, 1) := by decide +kernel
theorem dL_law__1529 : decode cL_law_ 1529 = .ok (.iadd, 1) := by decide +kernel
theorem dL_law__1530 : decode cL_law_ 1530 = .ok (.iaload, 1) := by decide +kernel
theorem dL_law__1531 : decode cL_law_ 1531 = .ok (.aload_n 0, 1) := by decide +kernel
theorem dL_law__1532 : decode cL_law_ 1532 = .ok (.iload 4, 2) := by decide +kernel
theorem dL_law__1534 : decode cL_law_ 1534 = .ok (.iconst 2, 1) := by decide +kernel
theorem dL_law__1535 : decode cL_law_ 1535 = .ok (.iadd, 1) := by decide +kernel
theorem dL_law__1536 : decode cL_law_ 1536 = .ok (.iaload, 1) := by decide +kernel
theorem dL_law__1537 : decode cL_law_ 1537 = .ok (.invokevirtual 219, 3) := by decide +kernel
theorem dL_law__1540 : decode cL_law_ 1540 = .ok (.istore 6, 2) := by decide +kernel
theorem dL_law__1542 : decode cL_law_ 1542 = .ok (.aload_n 2, 1) := by decide +kernel
theorem dL_law__1543 : decode cL_law_ 1543 = .ok (.invokevirtual 144, 3) := by decide +kernel
theorem dL_law__1546 : decode cL_law_ 1546 = .ok (.iload 5, 2) := by decide +kernel
theorem dL_law__1548 : decode cL_law_ 1548 = .ok (.if_icmp .eq 5, 3) := by decide +kernel
theorem dL_law__1551 : decode cL_law_ 1551 = .ok (.iconst 0, 1) := by decide +kernel
theorem dL_law__1552 : decode cL_law_ 1552 = .ok (.ireturn, 1) := by decide +kernel
theorem dL_law__1553 : decode cL_law_ 1553 = .ok (.iload 5, 2) := by decide +kernel
theorem dL_law__1555 : decode cL_law_ 1555 = .ok (.ifCond .ne 15, 3) := by decide +kernel
theorem dL_law__1558 : decode cL_law_ 1558 = .ok (.aload_n 3, 1) := by decide +kernel
theorem dL_law__1559 : decode cL_law_ 1559 = .ok (.iconst 0, 1) := by decide +kernel
theorem dL_law__1560 : decode cL_law_ 1560 = .ok (.laload, 1) := by decide +kernel
theorem dL_law__1561 : decode cL_law_ 1561 = .ok (.iload 6, 2) := by decide +kernel
theorem dL_law__1563 : decode cL_law_ 1563 = .ok (.i2l, 1) := by decide +kernel
theorem dL_law__1564 : decode cL_law_ 1564 = .ok (.lcmp, 1) := by decide +kernel
theorem dL_law__1565 : decode cL_law_ 1565 = .ok (.ifCond .eq 5, 3) := by decide +kernel
theorem dL_law__1568 : decode cL_law_ 1568 = .ok (.iconst 0, 1) := by decide +kernel
theorem dL_law__1569 : decode cL_law_ 1569 = .ok (.ireturn, 1) := by decide +kernel
theorem dL_law__1570 : decode cL_law_ 1570 = .ok (.goto 1347, 3) := by decide +kernel
def fLc_23 (p1 : Int32) (p2 : Int32) (v : zV) : Option zV :=
  zbind (fL_beliefs 0 p1 p2 603 v) fun r_2 v_1 =>
  zbind (fX10_beliefs 116 p1 p2 v_1) fun r_4 v_3 =>
  zbind (fX10_thrown 116 v_3) fun r_6 v_5 =>
  if r_6 = r_2 then
    if r_2 = (0 : Int32) then
      zix (0 : Int32) (zlen 603) <|
      if (lg_cmp ((v_5 603 (0 : Int32).toNatClampNeg).toInt64) ((r_4).toInt64)) = (0 : Int32) then
        some v_5
      else
        none
    else
      some v_5
  else
    none
set_option maxRecDepth 8000 in
set_option maxHeartbeats 1000000 in
theorem jLc_23 {x : zCx} {G : zG} {fr lo b L : Nat} {xs : Nat → Int32} {Q : State → Prop} (F : zF x G cL_law_ 7 RL fr lo) (hfr : 400 ≤ fr ∧ 20000 ≤ lo) (hfl : x.2.1.stackTraces = false) (hX : va_X b L xs x.2.2.2.2.1 x.2.2.2.2.1.heap) (hbl : b < x.2.2.2.2.1.heap.size) (hbA : ¬ zA G b) (t0 : zty G 0 1 9) (t1 : zty G 116 1 10) (t3 : zty G 603 2 2) {j : Nat} (hj : j + 7 ≤ L) (hL : L < 2 ^ 31) {cs sl : Nat} (hcs : cs + 5 ≤ x.2.2.2.1.cells ∧ sl + 30 ≤ x.2.2.2.1.slots) (v w : zV) (h : fLc_23 (xs (j + 1)) (xs (j + 2)) v = some w) (kk : zJ x G 7 Q (cs + 5) (sl + 30) 2917 [(0, .ref b), (1, zr G 0), (2, zr G 116), (3, zr G 603), (4, .int (nI j))] [] w) : zJ x G 7 Q cs sl 1505 [(0, .ref b), (1, zr G 0), (2, zr G 116), (3, zr G 603), (4, .int (nI j))] [] v := by
  obtain ⟨hfr1, hfr2⟩ := hfr
  obtain ⟨hcs1, hcs2⟩ := hcs
  unfold fLc_23 at h
  refine z_aload_n F dL_law__1505 rfl 1 rfl ?_
  refine z_aload_n F dL_law__1506 rfl 0 rfl ?_
  refine z_iload F dL_law__1507 4 rfl ?_
  refine z_iconst (y := (1 : Int32)) F dL_law__1509 rfl ?_
  refine z_iadd F dL_law__1510 ?_
  refine z_sld F hX hbl hbA (nI_add j 1) (by omega) hL dL_law__1511 ?_
  refine z_aload_n F dL_law__1512 rfl 0 rfl ?_
  refine z_iload F dL_law__1513 4 rfl ?_
  refine z_iconst (y := (2 : Int32)) F dL_law__1515 rfl ?_
  refine z_iadd F dL_law__1516 ?_
  refine z_sld F hX hbl hbA (nI_add j 2) (by omega) hL dL_law__1517 ?_
  refine z_aload_n F dL_law__1518 rfl 3 rfl ?_
  obtain ⟨r_2, v_1, hq1519, h⟩ := zbind_ex h
  refine z_callSW (n := 4) F [zr G 0, .int (xs (j + 1)), .int (xs (j + 2)), zr G 603] [] (kL_beliefs x.2.1 G 0 t0 (xs (j + 1)) (xs (j + 2)) 603 t3 v r_2 v_1 hfl hq1519) kw_L_beliefs wM_L_217 ms_L_beliefs dL_law__1519 rfl (by decide +kernel) ⟨by omega, by omega⟩ rfl (Nat.le_of_ble_eq_true rfl) ⟨by omega, by omega⟩ ?_
  refine z_istore (n := 0) F [(5, .int r_2), (0, .ref b), (1, zr G 0), (2, zr G 116), (3, zr G 603), (4, .int (nI j))] dL_law__1522 (Nat.le_of_ble_eq_true rfl) rfl ?_
  refine z_aload_n F dL_law__1524 rfl 3 rfl ?_
  refine z_aload_n F dL_law__1525 rfl 1 rfl ?_
  refine z_iload F dL_law__1526 5 rfl ?_
  refine z_iconst (y := (1 : Int32)) F dL_law__1528 rfl ?_
  refine z_iadd F dL_law__1529 ?_
  refine z_sld F hX hbl hbA (nI_add j 1) (by omega) hL dL_law__1530 ?_
  refine z_aload_n F dL_law__1531 rfl 1 rfl ?_
  refine z_iload F dL_law__1532 5 rfl ?_
  refine z_iconst (y := (2 : Int32)) F dL_law__1534 rfl ?_
  refine z_iadd F dL_law__1535 ?_
  refine z_sld F hX hbl hbA (nI_add j 2) (by omega) hL dL_law__1536 ?_
  obtain ⟨r_4, v_3, hq1537, h⟩ := zbind_ex h
  refine z_callVi F [.int (xs (j + 1)), .int (xs (j + 2))] [] (kX10_beliefs x.2.1 G 116 t1 (xs (j + 1)) (xs (j + 2)) v_1 r_4 v_3 hq1537) mI_X10_beliefs (c := 10) rfl t1 wM_L_219 mi_X10_beliefs sl_X10_beliefs dL_law__1537 rfl ⟨by omega, by omega⟩ rfl (Nat.le_of_ble_eq_true rfl) ⟨by omega, by omega⟩ ?_
  refine z_istore (n := 0) F [(6, .int r_4), (5, .int r_2), (0, .ref b), (1, zr G 0), (2, zr G 116), (3, zr G 603), (4, .int (nI j))] dL_law__1540 (Nat.le_of_ble_eq_true rfl) rfl ?_
  refine z_aload_n F dL_law__1542 rfl 4 rfl ?_
  obtain ⟨r_6, v_5, hq1543, h⟩ := zbind_ex h
  refine z_callVi F [] [] (kX10_thrown x.2.1 G 116 t1 v_3 r_6 v_5 hq1543) mI_X10_thrown (c := 10) rfl t1 wM_L_144 mi_X10_thrown sl_X10_thrown dL_law__1543 rfl ⟨by omega, by omega⟩ rfl (Nat.le_of_ble_eq_true rfl) ⟨by omega, by omega⟩ ?_
  refine z_iload F dL_law__1546 1 rfl ?_
  refine z_icmp_eq F 1553 dL_law__1548 rfl (fun hc => ?_) (fun hc => ?_)
  · replace h := zif_t hc h
    refine z_iload F dL_law__1553 1 rfl ?_
    refine z_if_ne F 1570 dL_law__1555 rfl (fun hc => ?_) (fun hc => ?_)
    · replace h := zif_f hc h
      refine z_goto F 2917 dL_law__1570 rfl ?_
      cases h
      refine z_ls [(0, .ref b), (1, zr G 0), (2, zr G 116), (3, zr G 603), (4, .int (nI j))] [2, 3, 4, 5, 6] rfl ?_
      exact z_wide (cs' := cs + 5) (sl' := sl + 30) (by omega) (by omega) kk
    · replace h := zif_t hc h
      refine z_aload_n F dL_law__1558 rfl 5 rfl ?_
      refine z_iconst (y := (0 : Int32)) F dL_law__1559 rfl ?_
      obtain ⟨hi1560, h⟩ := zix_ex h
      refine z_lald F t3 dL_law__1560 hi1560 ?_
      refine z_iload F dL_law__1561 0 rfl ?_
      refine z_i2l F dL_law__1563 ?_
      refine z_lcmp F dL_law__1564 ?_
      refine z_if_eq F 1570 dL_law__1565 rfl (fun hc => ?_) (fun hc => ?_)
      · replace h := zif_t hc h
        refine z_goto F 2917 dL_law__1570 rfl ?_
        cases h
        refine z_ls [(0, .ref b), (1, zr G 0), (2, zr G 116), (3, zr G 603), (4, .int (nI j))] [2, 3, 4, 5, 6] rfl ?_
        exact z_wide (cs' := cs + 5) (sl' := sl + 30) (by omega) (by omega) kk
      · replace h := zif_f hc h
        exact absurd h (by intro q; cases q)
  · replace h := zif_f hc h
    exact absurd h (by intro q; cases q)

theorem dL_law__1573 : decode cL_law_ 1573 = .ok (.aload_n 1, 1) := by decide +kernel
theorem dL_law__1574 : decode cL_law_ 1574 = .ok (.aload_n 0, 1) := by decide +kernel
theorem dL_law__1575 : decode cL_law_ 1575 = .ok (.iload 4, 2) := by decide +kernel
theorem dL_law__1577 : decode cL_law_ 1577 = .ok (.iconst 1, 1) := by decide +kernel
theorem dL_law__1578 : decode cL_law_ 1578 = .ok (.iadd, 1) := by decide +kernel
theorem dL_law__1579 : decode cL_law_ 1579 = .ok (.iaload, 1) := by decide +kernel
theorem dL_law__1580 : decode cL_law_ 1580 = .ok (.aload_n 0, 1) := by decide +kernel
theorem dL_law__1581 : decode cL_law_ 1581 = .ok (.iload 4, 2) := by decide +kernel
theorem dL_law__1583 : decode cL_law_ 1583 = .ok (.iconst 2, 1) := by decide +kernel
theorem dL_law__1584 : decode cL_law_ 1584 = .ok (.iadd, 1) := by decide +kernel
theorem dL_law__1585 : decode cL_law_ 1585 = .ok (.iaload, 1) := by decide +kernel
theorem dL_law__1586 : decode cL_law_ 1586 = .ok (.aload_n 3, 1) := by decide +kernel
theorem dL_law__1587 : decode cL_law_ 1587 = .ok (.invokestatic 220, 3) := by decide +kernel
theorem dL_law__1590 : decode cL_law_ 1590 = .ok (.istore 5, 2) := by decide +kernel
theorem dL_law__1592 : decode cL_law_ 1592 = .ok (.aload_n 2, 1) := by decide +kernel
theorem dL_law__1593 : decode cL_law_ 1593 = .ok (.aload_n 0, 1) := by decide +kernel
theorem dL_law__1594 : decode cL_law_ 1594 = .ok (.iload 4, 2) := by decide +kernel
theorem dL_law__1596 : decode cL_law_ 1596 = .ok (.iconst 1, 1) := by decide +kernel
theorem dL_law__1597 : decode cL_law_ 1597 = .ok (.iadd, 1) := by decide +kernel
theorem dL_law__1598 : decode cL_law_ 1598 = .ok (.iaload, 1) := by decide +kernel
theorem dL_law__1599 : decode cL_law_ 1599 = .ok (.aload_n 0, 1) := by decide +kernel
theorem dL_law__1600 : decode cL_law_ 1600 = .ok (.iload 4, 2) := by decide +kernel
theorem dL_law__1602 : decode cL_law_ 1602 = .ok (.iconst 2, 1) := by decide +kernel
theorem dL_law__1603 : decode cL_law_ 1603 = .ok (.iadd, 1) := by decide +kernel
theorem dL_law__1604 : decode cL_law_ 1604 = .ok (.iaload, 1) := by decide +kernel
theorem dL_law__1605 : decode cL_law_ 1605 = .ok (.invokevirtual 222, 3) := by decide +kernel
theorem dL_law__1608 : decode cL_law_ 1608 = .ok (.istore 6, 2) := by decide +kernel
theorem dL_law__1610 : decode cL_law_ 1610 = .ok (.aload_n 2, 1) := by decide +kernel
theorem dL_law__1611 : decode cL_law_ 1611 = .ok (.invokevirtual 144, 3) := by decide +kernel
theorem dL_law__1614 : decode cL_law_ 1614 = .ok (.iload 5, 2) := by decide +kernel
theorem dL_law__1616 : decode cL_law_ 1616 = .ok (.if_icmp .eq 5, 3) := by decide +kernel
theorem dL_law__1619 : decode cL_law_ 1619 = .ok (.iconst 0, 1) := by decide +kernel
theorem dL_law__1620 : decode cL_law_ 1620 = .ok (.ireturn, 1) := by decide +kernel
theorem dL_law__1621 : decode cL_law_ 1621 = .ok (.iload 5, 2) := by decide +kernel
theorem dL_law__1623 : decode cL_law_ 1623 = .ok (.ifCond .ne 15, 3) := by decide +kernel
theorem dL_law__1626 : decode cL_law_ 1626 = .ok (.aload_n 3, 1) := by decide +kernel
theorem dL_law__1627 : decode cL_law_ 1627 = .ok (.iconst 0, 1) := by decide +kernel
theorem dL_law__1628 : decode cL_law_ 1628 = .ok (.laload, 1) := by decide +kernel
theorem dL_law__1629 : decode cL_law_ 1629 = .ok (.iload 6, 2) := by decide +kernel
theorem dL_law__1631 : decode cL_law_ 1631 = .ok (.i2l, 1) := by decide +kernel
theorem dL_law__1632 : decode cL_law_ 1632 = .ok (.lcmp, 1) := by decide +kernel
theorem dL_law__1633 : decode cL_law_ 1633 = .ok (.ifCond .eq 5, 3) := by decide +kernel
theorem dL_law__1636 : decode cL_law_ 1636 = .ok (.iconst 0, 1) := by decide +kernel
theorem dL_law__1637 : decode cL_law_ 1637 = .ok (.ireturn, 1) := by decide +kernel
theorem dL_law__1638 : decode cL_law_ 1638 = .ok (.goto 1279, 3) := by decide +kernel
def fLc_24 (p1 : Int32) (p2 : Int32) (v : zV) : Option zV :=
  zbind (fL_sure 0 p1 p2 603 v) fun r_2 v_1 =>
  zbind (fX10_sure 116 p1 p2 v_1) fun r_4 v_3 =>
  zbind (fX10_thrown 116 v_3) fun r_6 v_5 =>
  if r_6 = r_2 then
    if r_2 = (0 : Int32) then
      zix (0 : Int32) (zlen 603) <|
      if (lg_cmp ((v_5 603 (0 : Int32).toNatClampNeg).toInt64) ((r_4).toInt64)) = (0 : Int32) then
        some v_5
      else
        none
    else
      some v_5
  else
    none
set_option maxRecDepth 8000 in
set_option maxHeartbeats 1000000 in
theorem jLc_24 {x : zCx} {G : zG} {fr lo b L : Nat} {xs : Nat → Int32} {Q : State → Prop} (F : zF x G cL_law_ 7 RL fr lo) (hfr : 400 ≤ fr ∧ 20000 ≤ lo) (hfl : x.2.1.stackTraces = false) (hX : va_X b L xs x.2.2.2.2.1 x.2.2.2.2.1.heap) (hbl : b < x.2.2.2.2.1.heap.size) (hbA : ¬ zA G b) (t0 : zty G 0 1 9) (t1 : zty G 116 1 10) (t3 : zty G 603 2 2) {j : Nat} (hj : j + 7 ≤ L) (hL : L < 2 ^ 31) {cs sl : Nat} (hcs : cs + 5 ≤ x.2.2.2.1.cells ∧ sl + 30 ≤ x.2.2.2.1.slots) (v w : zV) (h : fLc_24 (xs (j + 1)) (xs (j + 2)) v = some w) (kk : zJ x G 7 Q (cs + 5) (sl + 30) 2917 [(0, .ref b), (1, zr G 0), (2, zr G 116), (3, zr G 603), (4, .int (nI j))] [] w) : zJ x G 7 Q cs sl 1573 [(0, .ref b), (1, zr G 0), (2, zr G 116), (3, zr G 603), (4, .int (nI j))] [] v := by
  obtain ⟨hfr1, hfr2⟩ := hfr
  obtain ⟨hcs1, hcs2⟩ := hcs
  unfold fLc_24 at h
  refine z_aload_n F dL_law__1573 rfl 1 rfl ?_
  refine z_aload_n F dL_law__1574 rfl 0 rfl ?_
  refine z_iload F dL_law__1575 4 rfl ?_
  refine z_iconst (y := (1 : Int32)) F dL_law__1577 rfl ?_
  refine z_iadd F dL_law__1578 ?_
  refine z_sld F hX hbl hbA (nI_add j 1) (by omega) hL dL_law__1579 ?_
  refine z_aload_n F dL_law__1580 rfl 0 rfl ?_
  refine z_iload F dL_law__1581 4 rfl ?_
  refine z_iconst (y := (2 : Int32)) F dL_law__1583 rfl ?_
  refine z_iadd F dL_law__1584 ?_
  refine z_sld F hX hbl hbA (nI_add j 2) (by omega) hL dL_law__1585 ?_
  refine z_aload_n F dL_law__1586 rfl 3 rfl ?_
  obtain ⟨r_2, v_1, hq1587, h⟩ := zbind_ex h
  refine z_callSW (n := 4) F [zr G 0, .int (xs (j + 1)), .int (xs (j + 2)), zr G 603] [] (kL_sure x.2.1 G 0 t0 (xs (j + 1)) (xs (j + 2)) 603 t3 v r_2 v_1 hfl hq1587) kw_L_sure wM_L_220 ms_L_sure dL_law__1587 rfl (by decide +kernel) ⟨by omega, by omega⟩ rfl (Nat.le_of_ble_eq_true rfl) ⟨by omega, by omega⟩ ?_
  refine z_istore (n := 0) F [(5, .int r_2), (0, .ref b), (1, zr G 0), (2, zr G 116), (3, zr G 603), (4, .int (nI j))] dL_law__1590 (Nat.le_of_ble_eq_true rfl) rfl ?_
  refine z_aload_n F dL_law__1592 rfl 3 rfl ?_
  refine z_aload_n F dL_law__1593 rfl 1 rfl ?_
  refine z_iload F dL_law__1594 5 rfl ?_
  refine z_iconst (y := (1 : Int32)) F dL_law__1596 rfl ?_
  refine z_iadd F dL_law__1597 ?_
  refine z_sld F hX hbl hbA (nI_add j 1) (by omega) hL dL_law__1598 ?_
  refine z_aload_n F dL_law__1599 rfl 1 rfl ?_
  refine z_iload F dL_law__1600 5 rfl ?_
  refine z_iconst (y := (2 : Int32)) F dL_law__1602 rfl ?_
  refine z_iadd F dL_law__1603 ?_
  refine z_sld F hX hbl hbA (nI_add j 2) (by omega) hL dL_law__1604 ?_
  obtain ⟨r_4, v_3, hq1605, h⟩ := zbind_ex h
  refine z_callVi F [.int (xs (j + 1)), .int (xs (j + 2))] [] (kX10_sure x.2.1 G 116 t1 (xs (j + 1)) (xs (j + 2)) v_1 r_4 v_3 hq1605) mI_X10_sure (c := 10) rfl t1 wM_L_222 mi_X10_sure sl_X10_sure dL_law__1605 rfl ⟨by omega, by omega⟩ rfl (Nat.le_of_ble_eq_true rfl) ⟨by omega, by omega⟩ ?_
  refine z_istore (n := 0) F [(6, .int r_4), (5, .int r_2), (0, .ref b), (1, zr G 0), (2, zr G 116), (3, zr G 603), (4, .int (nI j))] dL_law__1608 (Nat.le_of_ble_eq_true rfl) rfl ?_
  refine z_aload_n F dL_law__1610 rfl 4 rfl ?_
  obtain ⟨r_6, v_5, hq1611, h⟩ := zbind_ex h
  refine z_callVi F [] [] (kX10_thrown x.2.1 G 116 t1 v_3 r_6 v_5 hq1611) mI_X10_thrown (c := 10) rfl t1 wM_L_144 mi_X10_thrown sl_X10_thrown dL_law__1611 rfl ⟨by omega, by omega⟩ rfl (Nat.le_of_ble_eq_true rfl) ⟨by omega, by omega⟩ ?_
  refine z_iload F dL_law__1614 1 rfl ?_
  refine z_icmp_eq F 1621 dL_law__1616 rfl (fun hc => ?_) (fun hc => ?_)
  · replace h := zif_t hc h
    refine z_iload F dL_law__1621 1 rfl ?_
    refine z_if_ne F 1638 dL_law__1623 rfl (fun hc => ?_) (fun hc => ?_)
    · replace h := zif_f hc h
      refine z_goto F 2917 dL_law__1638 rfl ?_
      cases h
      refine z_ls [(0, .ref b), (1, zr G 0), (2, zr G 116), (3, zr G 603), (4, .int (nI j))] [2, 3, 4, 5, 6] rfl ?_
      exact z_wide (cs' := cs + 5) (sl' := sl + 30) (by omega) (by omega) kk
    · replace h := zif_t hc h
      refine z_aload_n F dL_law__1626 rfl 5 rfl ?_
      refine z_iconst (y := (0 : Int32)) F dL_law__1627 rfl ?_
      obtain ⟨hi1628, h⟩ := zix_ex h
      refine z_lald F t3 dL_law__1628 hi1628 ?_
      refine z_iload F dL_law__1629 0 rfl ?_
      refine z_i2l F dL_law__1631 ?_
      refine z_lcmp F dL_law__1632 ?_
      refine z_if_eq F 1638 dL_law__1633 rfl (fun hc => ?_) (fun hc => ?_)
      · replace h := zif_t hc h
        refine z_goto F 2917 dL_law__1638 rfl ?_
        cases h
        refine z_ls [(0, .ref b), (1, zr G 0), (2, zr G 116), (3, zr G 603), (4, .int (nI j))] [2, 3, 4, 5, 6] rfl ?_
        exact z_wide (cs' := cs + 5) (sl' := sl + 30) (by omega) (by omega) kk
      · replace h := zif_f hc h
        exact absurd h (by intro q; cases q)
  · replace h := zif_f hc h
    exact absurd h (by intro q; cases q)

theorem dL_law__1641 : decode cL_law_ 1641 = .ok (.aload_n 1, 1) := by decide +kernel
theorem dL_law__1642 : decode cL_law_ 1642 = .ok (.aload_n 0, 1) := by decide +kernel
theorem dL_law__1643 : decode cL_law_ 1643 = .ok (.iload 4, 2) := by decide +kernel
theorem dL_law__1645 : decode cL_law_ 1645 = .ok (.iconst 1, 1) := by decide +kernel
theorem dL_law__1646 : decode cL_law_ 1646 = .ok (.iadd, 1) := by decide +kernel
theorem dL_law__1647 : decode cL_law_ 1647 = .ok (.iaload, 1) := by decide +kernel
theorem dL_law__1648 : decode cL_law_ 1648 = .ok (.aload_n 3, 1) := by decide +kernel
theorem dL_law__1649 : decode cL_law_ 1649 = .ok (.invokestatic 223, 3) := by decide +kernel
theorem dL_law__1652 : decode cL_law_ 1652 = .ok (.istore 5, 2) := by decide +kernel
theorem dL_law__1654 : decode cL_law_ 1654 = .ok (.aload_n 2, 1) := by decide +kernel
theorem dL_law__1655 : decode cL_law_ 1655 = .ok (.aload_n 0, 1) := by decide +kernel
theorem dL_law__1656 : decode cL_law_ 1656 = .ok (.iload 4, 2) := by decide +kernel
theorem dL_law__1658 : decode cL_law_ 1658 = .ok (.iconst 1, 1) := by decide +kernel
theorem dL_law__1659 : decode cL_law_ 1659 = .ok (.iadd, 1) := by decide +kernel
theorem dL_law__1660 : decode cL_law_ 1660 = .ok (.iaload, 1) := by decide +kernel
theorem dL_law__1661 : decode cL_law_ 1661 = .ok (.invokevirtual 225, 3) := by decide +kernel
theorem dL_law__1664 : decode cL_law_ 1664 = .ok (.istore 6, 2) := by decide +kernel
theorem dL_law__1666 : decode cL_law_ 1666 = .ok (.aload_n 2, 1) := by decide +kernel
theorem dL_law__1667 : decode cL_law_ 1667 = .ok (.invokevirtual 144, 3) := by decide +kernel
theorem dL_law__1670 : decode cL_law_ 1670 = .ok (.iload 5, 2) := by decide +kernel
theorem dL_law__1672 : decode cL_law_ 1672 = .ok (.if_icmp .eq 5, 3) := by decide +kernel
theorem dL_law__1675 : decode cL_law_ 1675 = .ok (.iconst 0, 1) := by decide +kernel
theorem dL_law__1676 : decode cL_law_ 1676 = .ok (.ireturn, 1) := by decide +kernel
theorem dL_law__1677 : decode cL_law_ 1677 = .ok (.iload 5, 2) := by decide +kernel
theorem dL_law__1679 : decode cL_law_ 1679 = .ok (.ifCond .ne 15, 3) := by decide +kernel
theorem dL_law__1682 : decode cL_law_ 1682 = .ok (.aload_n 3, 1) := by decide +kernel
theorem dL_law__1683 : decode cL_law_ 1683 = .ok (.iconst 0, 1) := by decide +kernel
theorem dL_law__1684 : decode cL_law_ 1684 = .ok (.laload, 1) := by decide +kernel
theorem dL_law__1685 : decode cL_law_ 1685 = .ok (.iload 6, 2) := by decide +kernel
theorem dL_law__1687 : decode cL_law_ 1687 = .ok (.i2l, 1) := by decide +kernel
theorem dL_law__1688 : decode cL_law_ 1688 = .ok (.lcmp, 1) := by decide +kernel
theorem dL_law__1689 : decode cL_law_ 1689 = .ok (.ifCond .eq 5, 3) := by decide +kernel
theorem dL_law__1692 : decode cL_law_ 1692 = .ok (.iconst 0, 1) := by decide +kernel
theorem dL_law__1693 : decode cL_law_ 1693 = .ok (.ireturn, 1) := by decide +kernel
theorem dL_law__1694 : decode cL_law_ 1694 = .ok (.goto 1223, 3) := by decide +kernel
def fLc_25 (p1 : Int32) (v : zV) : Option zV :=
  zbind (fL_dead 0 p1 603 v) fun r_2 v_1 =>
  zbind (fX10_dead 116 p1 v_1) fun r_4 v_3 =>
  zbind (fX10_thrown 116 v_3) fun r_6 v_5 =>
  if r_6 = r_2 then
    if r_2 = (0 : Int32) then
      zix (0 : Int32) (zlen 603) <|
      if (lg_cmp ((v_5 603 (0 : Int32).toNatClampNeg).toInt64) ((r_4).toInt64)) = (0 : Int32) then
        some v_5
      else
        none
    else
      some v_5
  else
    none
set_option maxRecDepth 8000 in
set_option maxHeartbeats 1000000 in
theorem jLc_25 {x : zCx} {G : zG} {fr lo b L : Nat} {xs : Nat → Int32} {Q : State → Prop} (F : zF x G cL_law_ 7 RL fr lo) (hfr : 400 ≤ fr ∧ 20000 ≤ lo) (hfl : x.2.1.stackTraces = false) (hX : va_X b L xs x.2.2.2.2.1 x.2.2.2.2.1.heap) (hbl : b < x.2.2.2.2.1.heap.size) (hbA : ¬ zA G b) (t0 : zty G 0 1 9) (t1 : zty G 116 1 10) (t3 : zty G 603 2 2) {j : Nat} (hj : j + 7 ≤ L) (hL : L < 2 ^ 31) {cs sl : Nat} (hcs : cs + 5 ≤ x.2.2.2.1.cells ∧ sl + 30 ≤ x.2.2.2.1.slots) (v w : zV) (h : fLc_25 (xs (j + 1)) v = some w) (kk : zJ x G 7 Q (cs + 5) (sl + 30) 2917 [(0, .ref b), (1, zr G 0), (2, zr G 116), (3, zr G 603), (4, .int (nI j))] [] w) : zJ x G 7 Q cs sl 1641 [(0, .ref b), (1, zr G 0), (2, zr G 116), (3, zr G 603), (4, .int (nI j))] [] v := by
  obtain ⟨hfr1, hfr2⟩ := hfr
  obtain ⟨hcs1, hcs2⟩ := hcs
  unfold fLc_25 at h
  refine z_aload_n F dL_law__1641 rfl 1 rfl ?_
  refine z_aload_n F dL_law__1642 rfl 0 rfl ?_
  refine z_iload F dL_law__1643 4 rfl ?_
  refine z_iconst (y := (1 : Int32)) F dL_law__1645 rfl ?_
  refine z_iadd F dL_law__1646 ?_
  refine z_sld F hX hbl hbA (nI_add j 1) (by omega) hL dL_law__1647 ?_
  refine z_aload_n F dL_law__1648 rfl 3 rfl ?_
  obtain ⟨r_2, v_1, hq1649, h⟩ := zbind_ex h
  refine z_callSW (n := 3) F [zr G 0, .int (xs (j + 1)), zr G 603] [] (kL_dead x.2.1 G 0 t0 (xs (j + 1)) 603 t3 v r_2 v_1 hfl hq1649) kw_L_dead wM_L_223 ms_L_dead dL_law__1649 rfl (by decide +kernel) ⟨by omega, by omega⟩ rfl (Nat.le_of_ble_eq_true rfl) ⟨by omega, by omega⟩ ?_
  refine z_istore (n := 0) F [(5, .int r_2), (0, .ref b), (1, zr G 0), (2, zr G 116), (3, zr G 603), (4, .int (nI j))] dL_law__1652 (Nat.le_of_ble_eq_true rfl) rfl ?_
  refine z_aload_n F dL_law__1654 rfl 3 rfl ?_
  refine z_aload_n F dL_law__1655 rfl 1 rfl ?_
  refine z_iload F dL_law__1656 5 rfl ?_
  refine z_iconst (y := (1 : Int32)) F dL_law__1658 rfl ?_
  refine z_iadd F dL_law__1659 ?_
  refine z_sld F hX hbl hbA (nI_add j 1) (by omega) hL dL_law__1660 ?_
  obtain ⟨r_4, v_3, hq1661, h⟩ := zbind_ex h
  refine z_callVi F [.int (xs (j + 1))] [] (kX10_dead x.2.1 G 116 t1 (xs (j + 1)) v_1 r_4 v_3 hq1661) mI_X10_dead (c := 10) rfl t1 wM_L_225 mi_X10_dead sl_X10_dead dL_law__1661 rfl ⟨by omega, by omega⟩ rfl (Nat.le_of_ble_eq_true rfl) ⟨by omega, by omega⟩ ?_
  refine z_istore (n := 0) F [(6, .int r_4), (5, .int r_2), (0, .ref b), (1, zr G 0), (2, zr G 116), (3, zr G 603), (4, .int (nI j))] dL_law__1664 (Nat.le_of_ble_eq_true rfl) rfl ?_
  refine z_aload_n F dL_law__1666 rfl 4 rfl ?_
  obtain ⟨r_6, v_5, hq1667, h⟩ := zbind_ex h
  refine z_callVi F [] [] (kX10_thrown x.2.1 G 116 t1 v_3 r_6 v_5 hq1667) mI_X10_thrown (c := 10) rfl t1 wM_L_144 mi_X10_thrown sl_X10_thrown dL_law__1667 rfl ⟨by omega, by omega⟩ rfl (Nat.le_of_ble_eq_true rfl) ⟨by omega, by omega⟩ ?_
  refine z_iload F dL_law__1670 1 rfl ?_
  refine z_icmp_eq F 1677 dL_law__1672 rfl (fun hc => ?_) (fun hc => ?_)
  · replace h := zif_t hc h
    refine z_iload F dL_law__1677 1 rfl ?_
    refine z_if_ne F 1694 dL_law__1679 rfl (fun hc => ?_) (fun hc => ?_)
    · replace h := zif_f hc h
      refine z_goto F 2917 dL_law__1694 rfl ?_
      cases h
      refine z_ls [(0, .ref b), (1, zr G 0), (2, zr G 116), (3, zr G 603), (4, .int (nI j))] [2, 3, 4, 5, 6] rfl ?_
      exact z_wide (cs' := cs + 5) (sl' := sl + 30) (by omega) (by omega) kk
    · replace h := zif_t hc h
      refine z_aload_n F dL_law__1682 rfl 5 rfl ?_
      refine z_iconst (y := (0 : Int32)) F dL_law__1683 rfl ?_
      obtain ⟨hi1684, h⟩ := zix_ex h
      refine z_lald F t3 dL_law__1684 hi1684 ?_
      refine z_iload F dL_law__1685 0 rfl ?_
      refine z_i2l F dL_law__1687 ?_
      refine z_lcmp F dL_law__1688 ?_
      refine z_if_eq F 1694 dL_law__1689 rfl (fun hc => ?_) (fun hc => ?_)
      · replace h := zif_t hc h
        refine z_goto F 2917 dL_law__1694 rfl ?_
        cases h
        refine z_ls [(0, .ref b), (1, zr G 0), (2, zr G 116), (3, zr G 603), (4, .int (nI j))] [2, 3, 4, 5, 6] rfl ?_
        exact z_wide (cs' := cs + 5) (sl' := sl + 30) (by omega) (by omega) kk
      · replace h := zif_f hc h
        exact absurd h (by intro q; cases q)
  · replace h := zif_f hc h
    exact absurd h (by intro q; cases q)

theorem dL_law__1697 : decode cL_law_ 1697 = .ok (.aload_n 1, 1) := by decide +kernel
theorem dL_law__1698 : decode cL_law_ 1698 = .ok (.invokevirtual 226, 3) := by decide +kernel
theorem dL_law__1701 : decode cL_law_ 1701 = .ok (.aload_n 2, 1) := by decide +kernel
theorem dL_law__1702 : decode cL_law_ 1702 = .ok (.invokevirtual 229, 3) := by decide +kernel
theorem dL_law__1705 : decode cL_law_ 1705 = .ok (.if_icmp .eq 1212, 3) := by decide +kernel
theorem dL_law__1708 : decode cL_law_ 1708 = .ok (.iconst 0, 1) := by decide +kernel
theorem dL_law__1709 : decode cL_law_ 1709 = .ok (.ireturn, 1) := by decide +kernel
def fLc_26 (v : zV) : Option zV :=
  zbind (fX9_right 0 v) fun r_2 v_1 =>
  zbind (fX10_right 116 v_1) fun r_4 v_3 =>
  if r_2 = r_4 then
    some v_3
  else
    none
set_option maxRecDepth 8000 in
set_option maxHeartbeats 1000000 in
theorem jLc_26 {x : zCx} {G : zG} {fr lo b L : Nat} {xs : Nat → Int32} {Q : State → Prop} (F : zF x G cL_law_ 7 RL fr lo) (hfr : 400 ≤ fr ∧ 20000 ≤ lo) (hfl : x.2.1.stackTraces = false) (hX : va_X b L xs x.2.2.2.2.1 x.2.2.2.2.1.heap) (hbl : b < x.2.2.2.2.1.heap.size) (hbA : ¬ zA G b) (t0 : zty G 0 1 9) (t1 : zty G 116 1 10) (t3 : zty G 603 2 2) {j : Nat} (hj : j + 7 ≤ L) (hL : L < 2 ^ 31) {cs sl : Nat} (hcs : cs + 5 ≤ x.2.2.2.1.cells ∧ sl + 30 ≤ x.2.2.2.1.slots) (v w : zV) (h : fLc_26 v = some w) (kk : zJ x G 7 Q (cs + 5) (sl + 30) 2917 [(0, .ref b), (1, zr G 0), (2, zr G 116), (3, zr G 603), (4, .int (nI j))] [] w) : zJ x G 7 Q cs sl 1697 [(0, .ref b), (1, zr G 0), (2, zr G 116), (3, zr G 603), (4, .int (nI j))] [] v := by
  obtain ⟨hfr1, hfr2⟩ := hfr
  obtain ⟨hcs1, hcs2⟩ := hcs
  unfold fLc_26 at h
  refine z_aload_n F dL_law__1697 rfl 1 rfl ?_
  obtain ⟨r_2, v_1, hq1698, h⟩ := zbind_ex h
  refine z_callVi F [] [] (kX9_right x.2.1 G 0 t0 v r_2 v_1 hq1698) mI_X9_right (c := 9) rfl t0 wM_L_226 mi_X9_right sl_X9_right dL_law__1698 rfl ⟨by omega, by omega⟩ rfl (Nat.le_of_ble_eq_true rfl) ⟨by omega, by omega⟩ ?_
  refine z_aload_n F dL_law__1701 rfl 2 rfl ?_
  obtain ⟨r_4, v_3, hq1702, h⟩ := zbind_ex h
  refine z_callVi F [] [.int r_2] (kX10_right x.2.1 G 116 t1 v_1 r_4 v_3 hq1702) mI_X10_right (c := 10) rfl t1 wM_L_229 mi_X10_right sl_X10_right dL_law__1702 rfl ⟨by omega, by omega⟩ rfl (Nat.le_of_ble_eq_true rfl) ⟨by omega, by omega⟩ ?_
  refine z_icmp_eq F 2917 dL_law__1705 rfl (fun hc => ?_) (fun hc => ?_)
  · replace h := zif_t hc h
    cases h
    refine z_ls [(0, .ref b), (1, zr G 0), (2, zr G 116), (3, zr G 603), (4, .int (nI j))] [0, 1, 2, 3, 4] rfl ?_
    exact z_wide (cs' := cs + 5) (sl' := sl + 30) (by omega) (by omega) kk
  · replace h := zif_f hc h
    exact absurd h (by intro q; cases q)

