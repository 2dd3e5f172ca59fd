theorem dL_law__20 : decode cL_law_ 20 = .ok (.iconst 0, 1) := by decide +kernel
theorem dL_law__21 : decode cL_law_ 21 = .ok (.istore 4, 2) := by decide +kernel
theorem dL_law__23 : decode cL_law_ 23 = .ok (.iload 4, 2) := by decide +kernel
theorem dL_law__25 : decode cL_law_ 25 = .ok (.aload_n 0, 1) := by decide +kernel
theorem dL_law__26 : decode cL_law_ 26 = .ok (.arraylength, 1) := by decide +kernel
theorem dL_law__27 : decode cL_law_ 27 = .ok (.bipush 7, 2) := by decide +kernel
theorem dL_law__29 : decode cL_law_ 29 = .ok (.isub, 1) := by decide +kernel
theorem dL_law__30 : decode cL_law_ 30 = .ok (.if_icmp .gt 2893, 3) := by decide +kernel
theorem dL_law__33 : decode cL_law_ 33 = .ok (.aload_n 0, 1) := by decide +kernel
theorem dL_law__34 : decode cL_law_ 34 = .ok (.iload 4, 2) := by decide +kernel
theorem dL_law__36 : decode cL_law_ 36 = .ok (.iaload, 1) := by decide +kernel
theorem dL_law__37 : decode cL_law_ 37 = .ok (.bipush 63, 2) := by decide +kernel
theorem dL_law__39 : decode cL_law_ 39 = .ok (.iand, 1) := by decide +kernel
theorem dL_law__40 : decode cL_law_ 40 = .ok (.tableswitch 2877 0 51 #[224, 297, 353, 409, 465, 478, 534, 602, 658, 726, 782, 850, 906, 919, 975, 1031, 1056, 1112, 1168, 1236, 1304, 1360, 1373, 1465, 1533, 1601, 1657, 1670, 1726, 1794, 1874, 1930, 1943, 1999, 2091, 2147, 2203, 2216, 2272, 2328, 2384, 2397, 2410, 2466, 2522, 2535, 2591, 2683, 2801, 2814, 2827, 2852], 224) := by decide +kernel
theorem dL_law__2917 : decode cL_law_ 2917 = .ok (.iinc 4 7, 3) := by decide +kernel
theorem dL_law__2920 : decode cL_law_ 2920 = .ok (.goto (-2897), 3) := by decide +kernel
theorem dL_law__2923 : decode cL_law_ 2923 = .ok (.iconst 1, 1) := by decide +kernel
theorem dL_law__2924 : decode cL_law_ 2924 = .ok (.ireturn, 1) := by decide +kernel
/-- one call of the script: k says which, p1 .. p6 are its arguments; none: the two answer otherwise, or one went wrong -/
def fLstep (k p1 p2 p3 p4 p5 p6 : Int32) (v : zV) : Option zV :=
  if k = (0 : Int32) then fLc_0 p1 p2 p3 p4 p5 v else
  if k = (1 : Int32) then fLc_1 p1 v else
  if k = (2 : Int32) then fLc_2 p1 v else
  if k = (3 : Int32) then fLc_3 p1 v else
  if k = (4 : Int32) then fLc_4 v else
  if k = (5 : Int32) then fLc_5 p1 v else
  if k = (6 : Int32) then fLc_6 p1 p2 v else
  if k = (7 : Int32) then fLc_7 p1 v else
  if k = (8 : Int32) then fLc_8 p1 p2 v else
  if k = (9 : Int32) then fLc_9 p1 v else
  if k = (10 : Int32) then fLc_10 p1 p2 v else
  if k = (11 : Int32) then fLc_11 p1 v else
  if k = (12 : Int32) then fLc_12 v else
  if k = (13 : Int32) then fLc_13 p1 v else
  if k = (14 : Int32) then fLc_14 p1 v else
  if k = (15 : Int32) then fLc_15 p1 v else
  if k = (16 : Int32) then fLc_16 p1 v else
  if k = (17 : Int32) then fLc_17 p1 v else
  if k = (18 : Int32) then fLc_18 p1 p2 v else
  if k = (19 : Int32) then fLc_19 p1 p2 v else
  if k = (20 : Int32) then fLc_20 p1 v else
  if k = (21 : Int32) then fLc_21 v else
  if k = (22 : Int32) then fLc_22 p1 p2 p3 p4 v else
  if k = (23 : Int32) then fLc_23 p1 p2 v else
  if k = (24 : Int32) then fLc_24 p1 p2 v else
  if k = (25 : Int32) then fLc_25 p1 v else
  if k = (26 : Int32) then fLc_26 v else
  if k = (27 : Int32) then fLc_27 p1 v else
  if k = (28 : Int32) then fLc_28 p1 p2 v else
  if k = (29 : Int32) then fLc_29 p1 p2 p3 v else
  if k = (30 : Int32) then fLc_30 p1 v else
  if k = (31 : Int32) then fLc_31 v else
  if k = (32 : Int32) then fLc_32 p1 v else
  if k = (33 : Int32) then fLc_33 p1 p2 p3 p4 v else
  if k = (34 : Int32) then fLc_34 p1 v else
  if k = (35 : Int32) then fLc_35 p1 v else
  if k = (36 : Int32) then fLc_36 v else
  if k = (37 : Int32) then fLc_37 p1 v else
  if k = (38 : Int32) then fLc_38 p1 v else
  if k = (39 : Int32) then fLc_39 p1 v else
  if k = (40 : Int32) then fLc_40 v else
  if k = (41 : Int32) then fLc_41 v else
  if k = (42 : Int32) then fLc_42 p1 v else
  if k = (43 : Int32) then fLc_43 p1 v else
  if k = (44 : Int32) then fLc_44 v else
  if k = (45 : Int32) then fLc_45 p1 v else
  if k = (46 : Int32) then fLc_46 p1 p2 p3 p4 v else
  if k = (47 : Int32) then fLc_47 p1 p2 p3 p4 p5 p6 v else
  if k = (48 : Int32) then fLc_48 v else
  if k = (49 : Int32) then fLc_49 v else
  if k = (50 : Int32) then fLc_50 p1 v else
  if k = (51 : Int32) then fLc_51 p1 v else
  some v
set_option maxRecDepth 20000 in
set_option maxHeartbeats 4000000 in
theorem jLstep {x : zCx} {G : zG} {fr lo b L : Nat} {xs : Nat → Int32} {Q : State → Prop} (F : zF x G cL_law_ 7 RL fr lo) (hfr : 400 ≤ fr ∧ 20000 ≤ lo) (hfl : x.2.1.stackTraces = false) (hX : va_X b L xs x.2.2.2.2.1 x.2.2.2.2.1.heap) (hbl : b < x.2.2.2.2.1.heap.size) (hbA : ¬ zA G b) (t0 : zty G 0 1 9) (t1 : zty G 116 1 10) (t3 : zty G 603 2 2) {j : Nat} (hj : j + 7 ≤ L) (hL : L < 2 ^ 31) {cs sl : Nat} (hcs : cs + 5 ≤ x.2.2.2.1.cells ∧ sl + 30 ≤ x.2.2.2.1.slots) (v w : zV) (h : fLstep (xs j &&& 63) (xs (j + 1)) (xs (j + 2)) (xs (j + 3)) (xs (j + 4)) (xs (j + 5)) (xs (j + 6)) v = some w) (kk : zJ x G 7 Q (cs + 5) (sl + 30) 2917 [(0, .ref b), (1, zr G 0), (2, zr G 116), (3, zr G 603), (4, .int (nI j))] [] w) : zJ x G 7 Q cs sl 33 [(0, .ref b), (1, zr G 0), (2, zr G 116), (3, zr G 603), (4, .int (nI j))] [] v := by
  unfold fLstep at h
  refine z_aload_n F dL_law__33 rfl 0 rfl ?_
  refine z_iload F dL_law__34 4 rfl ?_
  refine z_sld F hX hbl hbA rfl (by omega) hL dL_law__36 ?_
  refine z_bipush (y := (63 : Int32)) F dL_law__37 rfl ?_
  refine z_iand F dL_law__39 ?_
  generalize hk0 : xs j &&& 63 = k0 at h ⊢
  by_cases hc : k0 = (0 : Int32)
  · replace h := zif_t hc h
    refine z_swIn F 264 hc dL_law__40 (by decide) (by decide) rfl rfl ?_
    exact jLc_0 F hfr hfl hX hbl hbA t0 t1 t3 hj hL hcs v w h kk
  replace h := zif_f hc h
  have hn0 := zsw_ne hc
  clear hc
  by_cases hc : k0 = (1 : Int32)
  · replace h := zif_t hc h
    refine z_swIn F 337 hc dL_law__40 (by decide) (by decide) rfl rfl ?_
    exact jLc_1 F hfr hfl hX hbl hbA t0 t1 t3 hj hL hcs v w h kk
  replace h := zif_f hc h
  have hn1 := zsw_ne hc
  clear hc
  by_cases hc : k0 = (2 : Int32)
  · replace h := zif_t hc h
    refine z_swIn F 393 hc dL_law__40 (by decide) (by decide) rfl rfl ?_
    exact jLc_2 F hfr hfl hX hbl hbA t0 t1 t3 hj hL hcs v w h kk
  replace h := zif_f hc h
  have hn2 := zsw_ne hc
  clear hc
  by_cases hc : k0 = (3 : Int32)
  · replace h := zif_t hc h
    refine z_swIn F 449 hc dL_law__40 (by decide) (by decide) rfl rfl ?_
    exact jLc_3 F hfr hfl hX hbl hbA t0 t1 t3 hj hL hcs v w h kk
  replace h := zif_f hc h
  have hn3 := zsw_ne hc
  clear hc
  by_cases hc : k0 = (4 : Int32)
  · replace h := zif_t hc h
    refine z_swIn F 505 hc dL_law__40 (by decide) (by decide) rfl rfl ?_
    exact jLc_4 F hfr hfl hX hbl hbA t0 t1 t3 hj hL hcs v w h kk
  replace h := zif_f hc h
  have hn4 := zsw_ne hc
  clear hc
  by_cases hc : k0 = (5 : Int32)
  · replace h := zif_t hc h
    refine z_swIn F 518 hc dL_law__40 (by decide) (by decide) rfl rfl ?_
    exact jLc_5 F hfr hfl hX hbl hbA t0 t1 t3 hj hL hcs v w h kk
  replace h := zif_f hc h
  have hn5 := zsw_ne hc
  clear hc
  by_cases hc : k0 = (6 : Int32)
  · replace h := zif_t hc h
    refine z_swIn F 574 hc dL_law__40 (by decide) (by decide) rfl rfl ?_
    exact jLc_6 F hfr hfl hX hbl hbA t0 t1 t3 hj hL hcs v w h kk
  replace h := zif_f hc h
  have hn6 := zsw_ne hc
  clear hc
  by_cases hc : k0 = (7 : Int32)
  · replace h := zif_t hc h
    refine z_swIn F 642 hc dL_law__40 (by decide) (by decide) rfl rfl ?_
    exact jLc_7 F hfr hfl hX hbl hbA t0 t1 t3 hj hL hcs v w h kk
  replace h := zif_f hc h
  have hn7 := zsw_ne hc
  clear hc
  by_cases hc : k0 = (8 : Int32)
  · replace h := zif_t hc h
    refine z_swIn F 698 hc dL_law__40 (by decide) (by decide) rfl rfl ?_
    exact jLc_8 F hfr hfl hX hbl hbA t0 t1 t3 hj hL hcs v w h kk
  replace h := zif_f hc h
  have hn8 := zsw_ne hc
  clear hc
  by_cases hc : k0 = (9 : Int32)
  · replace h := zif_t hc h
    refine z_swIn F 766 hc dL_law__40 (by decide) (by decide) rfl rfl ?_
    exact jLc_9 F hfr hfl hX hbl hbA t0 t1 t3 hj hL hcs v w h kk
  replace h := zif_f hc h
  have hn9 := zsw_ne hc
  clear hc
  by_cases hc : k0 = (10 : Int32)
  · replace h := zif_t hc h
    refine z_swIn F 822 hc dL_law__40 (by decide) (by decide) rfl rfl ?_
    exact jLc_10 F hfr hfl hX hbl hbA t0 t1 t3 hj hL hcs v w h kk
  replace h := zif_f hc h
  have hn10 := zsw_ne hc
  clear hc
  by_cases hc : k0 = (11 : Int32)
  · replace h := zif_t hc h
    refine z_swIn F 890 hc dL_law__40 (by decide) (by decide) rfl rfl ?_
    exact jLc_11 F hfr hfl hX hbl hbA t0 t1 t3 hj hL hcs v w h kk
  replace h := zif_f hc h
  have hn11 := zsw_ne hc
  clear hc
  by_cases hc : k0 = (12 : Int32)
  · replace h := zif_t hc h
    refine z_swIn F 946 hc dL_law__40 (by decide) (by decide) rfl rfl ?_
    exact jLc_12 F hfr hfl hX hbl hbA t0 t1 t3 hj hL hcs v w h kk
  replace h := zif_f hc h
  have hn12 := zsw_ne hc
  clear hc
  by_cases hc : k0 = (13 : Int32)
  · replace h := zif_t hc h
    refine z_swIn F 959 hc dL_law__40 (by decide) (by decide) rfl rfl ?_
    exact jLc_13 F hfr hfl hX hbl hbA t0 t1 t3 hj hL hcs v w h kk
  replace h := zif_f hc h
  have hn13 := zsw_ne hc
  clear hc
  by_cases hc : k0 = (14 : Int32)
  · replace h := zif_t hc h
    refine z_swIn F 1015 hc dL_law__40 (by decide) (by decide) rfl rfl ?_
    exact jLc_14 F hfr hfl hX hbl hbA t0 t1 t3 hj hL hcs v w h kk
  replace h := zif_f hc h
  have hn14 := zsw_ne hc
  clear hc
  by_cases hc : k0 = (15 : Int32)
  · replace h := zif_t hc h
    refine z_swIn F 1071 hc dL_law__40 (by decide) (by decide) rfl rfl ?_
    exact jLc_15 F hfr hfl hX hbl hbA t0 t1 t3 hj hL hcs v w h kk
  replace h := zif_f hc h
  have hn15 := zsw_ne hc
  clear hc
  by_cases hc : k0 = (16 : Int32)
  · replace h := zif_t hc h
    refine z_swIn F 1096 hc dL_law__40 (by decide) (by decide) rfl rfl ?_
    exact jLc_16 F hfr hfl hX hbl hbA t0 t1 t3 hj hL hcs v w h kk
  replace h := zif_f hc h
  have hn16 := zsw_ne hc
  clear hc
  by_cases hc : k0 = (17 : Int32)
  · replace h := zif_t hc h
    refine z_swIn F 1152 hc dL_law__40 (by decide) (by decide) rfl rfl ?_
    exact jLc_17 F hfr hfl hX hbl hbA t0 t1 t3 hj hL hcs v w h kk
  replace h := zif_f hc h
  have hn17 := zsw_ne hc
  clear hc
  by_cases hc : k0 = (18 : Int32)
  · replace h := zif_t hc h
    refine z_swIn F 1208 hc dL_law__40 (by decide) (by decide) rfl rfl ?_
    exact jLc_18 F hfr hfl hX hbl hbA t0 t1 t3 hj hL hcs v w h kk
  replace h := zif_f hc h
  have hn18 := zsw_ne hc
  clear hc
  by_cases hc : k0 = (19 : Int32)
  · replace h := zif_t hc h
    refine z_swIn F 1276 hc dL_law__40 (by decide) (by decide) rfl rfl ?_
    exact jLc_19 F hfr hfl hX hbl hbA t0 t1 t3 hj hL hcs v w h kk
  replace h := zif_f hc h
  have hn19 := zsw_ne hc
  clear hc
  by_cases hc : k0 = (20 : Int32)
  · replace h := zif_t hc h
    refine z_swIn F 1344 hc dL_law__40 (by decide) (by decide) rfl rfl ?_
    exact jLc_20 F hfr hfl hX hbl hbA t0 t1 t3 hj hL hcs v w h kk
  replace h := zif_f hc h
  have hn20 := zsw_ne hc
  clear hc
  by_cases hc : k0 = (21 : Int32)
  · replace h := zif_t hc h
    refine z_swIn F 1400 hc dL_law__40 (by decide) (by decide) rfl rfl ?_
    exact jLc_21 F hfr hfl hX hbl hbA t0 t1 t3 hj hL hcs v w h kk
  replace h := zif_f hc h
  have hn21 := zsw_ne hc
  clear hc
  by_cases hc : k0 = (22 : Int32)
  · replace h := zif_t hc h
    refine z_swIn F 1413 hc dL_law__40 (by decide) (by decide) rfl rfl ?_
    exact jLc_22 F hfr hfl hX hbl hbA t0 t1 t3 hj hL hcs v w h kk
  replace h := zif_f hc h
  have hn22 := zsw_ne hc
  clear hc
  by_cases hc : k0 = (23 : Int32)
  · replace h := zif_t hc h
    refine z_swIn F 1505 hc dL_law__40 (by decide) (by decide) rfl rfl ?_
    exact jLc_23 F hfr hfl hX hbl hbA t0 t1 t3 hj hL hcs v w h kk
  replace h := zif_f hc h
  have hn23 := zsw_ne hc
  clear hc
  by_cases hc : k0 = (24 : Int32)
  · replace h := zif_t hc h
    refine z_swIn F 1573 hc dL_law__40 (by decide) (by decide) rfl rfl ?_
    exact jLc_24 F hfr hfl hX hbl hbA t0 t1 t3 hj hL hcs v w h kk
  replace h := zif_f hc h
  have hn24 := zsw_ne hc
  clear hc
  by_cases hc : k0 = (25 : Int32)
  · replace h := zif_t hc h
    refine z_swIn F 1641 hc dL_law__40 (by decide) (by decide) rfl rfl ?_
    exact jLc_25 F hfr hfl hX hbl hbA t0 t1 t3 hj hL hcs v w h kk
  replace h := zif_f hc h
  have hn25 := zsw_ne hc
  clear hc
  by_cases hc : k0 = (26 : Int32)
  · replace h := zif_t hc h
    refine z_swIn F 1697 hc dL_law__40 (by decide) (by decide) rfl rfl ?_
    exact jLc_26 F hfr hfl hX hbl hbA t0 t1 t3 hj hL hcs v w h kk
  replace h := zif_f hc h
  have hn26 := zsw_ne hc
  clear hc
  by_cases hc : k0 = (27 : Int32)
  · replace h := zif_t hc h
    refine z_swIn F 1710 hc dL_law__40 (by decide) (by decide) rfl rfl ?_
    exact jLc_27 F hfr hfl hX hbl hbA t0 t1 t3 hj hL hcs v w h kk
  replace h := zif_f hc h
  have hn27 := zsw_ne hc
  clear hc
  by_cases hc : k0 = (28 : Int32)
  · replace h := zif_t hc h
    refine z_swIn F 1766 hc dL_law__40 (by decide) (by decide) rfl rfl ?_
    exact jLc_28 F hfr hfl hX hbl hbA t0 t1 t3 hj hL hcs v w h kk
  replace h := zif_f hc h
  have hn28 := zsw_ne hc
  clear hc
  by_cases hc : k0 = (29 : Int32)
  · replace h := zif_t hc h
    refine z_swIn F 1834 hc dL_law__40 (by decide) (by decide) rfl rfl ?_
    exact jLc_29 F hfr hfl hX hbl hbA t0 t1 t3 hj hL hcs v w h kk
  replace h := zif_f hc h
  have hn29 := zsw_ne hc
  clear hc
  by_cases hc : k0 = (30 : Int32)
  · replace h := zif_t hc h
    refine z_swIn F 1914 hc dL_law__40 (by decide) (by decide) rfl rfl ?_
    exact jLc_30 F hfr hfl hX hbl hbA t0 t1 t3 hj hL hcs v w h kk
  replace h := zif_f hc h
  have hn30 := zsw_ne hc
  clear hc
  by_cases hc : k0 = (31 : Int32)
  · replace h := zif_t hc h
    refine z_swIn F 1970 hc dL_law__40 (by decide) (by decide) rfl rfl ?_
    exact jLc_31 F hfr hfl hX hbl hbA t0 t1 t3 hj hL hcs v w h kk
  replace h := zif_f hc h
  have hn31 := zsw_ne hc
  clear hc
  by_cases hc : k0 = (32 : Int32)
  · replace h := zif_t hc h
    refine z_swIn F 1983 hc dL_law__40 (by decide) (by decide) rfl rfl ?_
    exact jLc_32 F hfr hfl hX hbl hbA t0 t1 t3 hj hL hcs v w h kk
  replace h := zif_f hc h
  have hn32 := zsw_ne hc
  clear hc
  by_cases hc : k0 = (33 : Int32)
  · replace h := zif_t hc h
    refine z_swIn F 2039 hc dL_law__40 (by decide) (by decide) rfl rfl ?_
    exact jLc_33 F hfr hfl hX hbl hbA t0 t1 t3 hj hL hcs v w h kk
  replace h := zif_f hc h
  have hn33 := zsw_ne hc
  clear hc
  by_cases hc : k0 = (34 : Int32)
  · replace h := zif_t hc h
    refine z_swIn F 2131 hc dL_law__40 (by decide) (by decide) rfl rfl ?_
    exact jLc_34 F hfr hfl hX hbl hbA t0 t1 t3 hj hL hcs v w h kk
  replace h := zif_f hc h
  have hn34 := zsw_ne hc
  clear hc
  by_cases hc : k0 = (35 : Int32)
  · replace h := zif_t hc h
    refine z_swIn F 2187 hc dL_law__40 (by decide) (by decide) rfl rfl ?_
    exact jLc_35 F hfr hfl hX hbl hbA t0 t1 t3 hj hL hcs v w h kk
  replace h := zif_f hc h
  have hn35 := zsw_ne hc
  clear hc
  by_cases hc : k0 = (36 : Int32)
  · replace h := zif_t hc h
    refine z_swIn F 2243 hc dL_law__40 (by decide) (by decide) rfl rfl ?_
    exact jLc_36 F hfr hfl hX hbl hbA t0 t1 t3 hj hL hcs v w h kk
  replace h := zif_f hc h
  have hn36 := zsw_ne hc
  clear hc
  by_cases hc : k0 = (37 : Int32)
  · replace h := zif_t hc h
    refine z_swIn F 2256 hc dL_law__40 (by decide) (by decide) rfl rfl ?_
    exact jLc_37 F hfr hfl hX hbl hbA t0 t1 t3 hj hL hcs v w h kk
  replace h := zif_f hc h
  have hn37 := zsw_ne hc
  clear hc
  by_cases hc : k0 = (38 : Int32)
  · replace h := zif_t hc h
    refine z_swIn F 2312 hc dL_law__40 (by decide) (by decide) rfl rfl ?_
    exact jLc_38 F hfr hfl hX hbl hbA t0 t1 t3 hj hL hcs v w h kk
  replace h := zif_f hc h
  have hn38 := zsw_ne hc
  clear hc
  by_cases hc : k0 = (39 : Int32)
  · replace h := zif_t hc h
    refine z_swIn F 2368 hc dL_law__40 (by decide) (by decide) rfl rfl ?_
    exact jLc_39 F hfr hfl hX hbl hbA t0 t1 t3 hj hL hcs v w h kk
  replace h := zif_f hc h
  have hn39 := zsw_ne hc
  clear hc
  by_cases hc : k0 = (40 : Int32)
  · replace h := zif_t hc h
    refine z_swIn F 2424 hc dL_law__40 (by decide) (by decide) rfl rfl ?_
    exact jLc_40 F hfr hfl hX hbl hbA t0 t1 t3 hj hL hcs v w h kk
  replace h := zif_f hc h
  have hn40 := zsw_ne hc
  clear hc
  by_cases hc : k0 = (41 : Int32)
  · replace h := zif_t hc h
    refine z_swIn F 2437 hc dL_law__40 (by decide) (by decide) rfl rfl ?_
    exact jLc_41 F hfr hfl hX hbl hbA t0 t1 t3 hj hL hcs v w h kk
  replace h := zif_f hc h
  have hn41 := zsw_ne hc
  clear hc
  by_cases hc : k0 = (42 : Int32)
  · replace h := zif_t hc h
    refine z_swIn F 2450 hc dL_law__40 (by decide) (by decide) rfl rfl ?_
    exact jLc_42 F hfr hfl hX hbl hbA t0 t1 t3 hj hL hcs v w h kk
  replace h := zif_f hc h
  have hn42 := zsw_ne hc
  clear hc
  by_cases hc : k0 = (43 : Int32)
  · replace h := zif_t hc h
    refine z_swIn F 2506 hc dL_law__40 (by decide) (by decide) rfl rfl ?_
    exact jLc_43 F hfr hfl hX hbl hbA t0 t1 t3 hj hL hcs v w h kk
  replace h := zif_f hc h
  have hn43 := zsw_ne hc
  clear hc
  by_cases hc : k0 = (44 : Int32)
  · replace h := zif_t hc h
    refine z_swIn F 2562 hc dL_law__40 (by decide) (by decide) rfl rfl ?_
    exact jLc_44 F hfr hfl hX hbl hbA t0 t1 t3 hj hL hcs v w h kk
  replace h := zif_f hc h
  have hn44 := zsw_ne hc
  clear hc
  by_cases hc : k0 = (45 : Int32)
  · replace h := zif_t hc h
    refine z_swIn F 2575 hc dL_law__40 (by decide) (by decide) rfl rfl ?_
    exact jLc_45 F hfr hfl hX hbl hbA t0 t1 t3 hj hL hcs v w h kk
  replace h := zif_f hc h
  have hn45 := zsw_ne hc
  clear hc
  by_cases hc : k0 = (46 : Int32)
  · replace h := zif_t hc h
    refine z_swIn F 2631 hc dL_law__40 (by decide) (by decide) rfl rfl ?_
    exact jLc_46 F hfr hfl hX hbl hbA t0 t1 t3 hj hL hcs v w h kk
  replace h := zif_f hc h
  have hn46 := zsw_ne hc
  clear hc
  by_cases hc : k0 = (47 : Int32)
  · replace h := zif_t hc h
    refine z_swIn F 2723 hc dL_law__40 (by decide) (by decide) rfl rfl ?_
    exact jLc_47 F hfr hfl hX hbl hbA t0 t1 t3 hj hL hcs v w h kk
  replace h := zif_f hc h
  have hn47 := zsw_ne hc
  clear hc
  by_cases hc : k0 = (48 : Int32)
  · replace h := zif_t hc h
    refine z_swIn F 2841 hc dL_law__40 (by decide) (by decide) rfl rfl ?_
    exact jLc_48 F hfr hfl hX hbl hbA t0 t1 t3 hj hL hcs v w h kk
  replace h := zif_f hc h
  have hn48 := zsw_ne hc
  clear hc
  by_cases hc : k0 = (49 : Int32)
  · replace h := zif_t hc h
    refine z_swIn F 2854 hc dL_law__40 (by decide) (by decide) rfl rfl ?_
    exact jLc_49 F hfr hfl hX hbl hbA t0 t1 t3 hj hL hcs v w h kk
  replace h := zif_f hc h
  have hn49 := zsw_ne hc
  clear hc
  by_cases hc : k0 = (50 : Int32)
  · replace h := zif_t hc h
    refine z_swIn F 2867 hc dL_law__40 (by decide) (by decide) rfl rfl ?_
    exact jLc_50 F hfr hfl hX hbl hbA t0 t1 t3 hj hL hcs v w h kk
  replace h := zif_f hc h
  have hn50 := zsw_ne hc
  clear hc
  by_cases hc : k0 = (51 : Int32)
  · replace h := zif_t hc h
    refine z_swIn F 2892 hc dL_law__40 (by decide) (by decide) rfl rfl ?_
    exact jLc_51 F hfr hfl hX hbl hbA t0 t1 t3 hj hL hcs v w h kk
  replace h := zif_f hc h
  have hn51 := zsw_ne hc
  clear hc
  refine z_tableOut F 2917 dL_law__40 (by have q0 : (0 : Int32).toInt = 0 := rfl; have q1 : (1 : Int32).toInt = 1 := rfl; have q2 : (2 : Int32).toInt = 2 := rfl; have q3 : (3 : Int32).toInt = 3 := rfl; have q4 : (4 : Int32).toInt = 4 := rfl; have q5 : (5 : Int32).toInt = 5 := rfl; have q6 : (6 : Int32).toInt = 6 := rfl; have q7 : (7 : Int32).toInt = 7 := rfl; have q8 : (8 : Int32).toInt = 8 := rfl; have q9 : (9 : Int32).toInt = 9 := rfl; have q10 : (10 : Int32).toInt = 10 := rfl; have q11 : (11 : Int32).toInt = 11 := rfl; have q12 : (12 : Int32).toInt = 12 := rfl; have q13 : (13 : Int32).toInt = 13 := rfl; have q14 : (14 : Int32).toInt = 14 := rfl; have q15 : (15 : Int32).toInt = 15 := rfl; have q16 : (16 : Int32).toInt = 16 := rfl; have q17 : (17 : Int32).toInt = 17 := rfl; have q18 : (18 : Int32).toInt = 18 := rfl; have q19 : (19 : Int32).toInt = 19 := rfl; have q20 : (20 : Int32).toInt = 20 := rfl; have q21 : (21 : Int32).toInt = 21 := rfl; have q22 : (22 : Int32).toInt = 22 := rfl; have q23 : (23 : Int32).toInt = 23 := rfl; have q24 : (24 : Int32).toInt = 24 := rfl; have q25 : (25 : Int32).toInt = 25 := rfl; have q26 : (26 : Int32).toInt = 26 := rfl; have q27 : (27 : Int32).toInt = 27 := rfl; have q28 : (28 : Int32).toInt = 28 := rfl; have q29 : (29 : Int32).toInt = 29 := rfl; have q30 : (30 : Int32).toInt = 30 := rfl; have q31 : (31 : Int32).toInt = 31 := rfl; have q32 : (32 : Int32).toInt = 32 := rfl; have q33 : (33 : Int32).toInt = 33 := rfl; have q34 : (34 : Int32).toInt = 34 := rfl; have q35 : (35 : Int32).toInt = 35 := rfl; have q36 : (36 : Int32).toInt = 36 := rfl; have q37 : (37 : Int32).toInt = 37 := rfl; have q38 : (38 : Int32).toInt = 38 := rfl; have q39 : (39 : Int32).toInt = 39 := rfl; have q40 : (40 : Int32).toInt = 40 := rfl; have q41 : (41 : Int32).toInt = 41 := rfl; have q42 : (42 : Int32).toInt = 42 := rfl; have q43 : (43 : Int32).toInt = 43 := rfl; have q44 : (44 : Int32).toInt = 44 := rfl; have q45 : (45 : Int32).toInt = 45 := rfl; have q46 : (46 : Int32).toInt = 46 := rfl; have q47 : (47 : Int32).toInt = 47 := rfl; have q48 : (48 : Int32).toInt = 48 := rfl; have q49 : (49 : Int32).toInt = 49 := rfl; have q50 : (50 : Int32).toInt = 50 := rfl; have q51 : (51 : Int32).toInt = 51 := rfl; omega) rfl ?_
  cases h
  exact z_wide (by omega) (by omega) kk
