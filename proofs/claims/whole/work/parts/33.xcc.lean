theorem dX9_need_0 : decode cX9_need 0 = .ok (.iload_n 1, 1) := by decide +kernel
theorem dX9_need_1 : decode cX9_need 1 = .ok (.ifCond .ne 21, 3) := by decide +kernel
theorem dX9_need_4 : decode cX9_need 4 = .ok (.aload_n 0, 1) := by decide +kernel
theorem dX9_need_5 : decode cX9_need 5 = .ok (.dup, 1) := by decide +kernel
theorem dX9_need_6 : decode cX9_need 6 = .ok (.getfield 366, 3) := by decide +kernel
theorem dX9_need_9 : decode cX9_need 9 = .ok (.iconst 1, 1) := by decide +kernel
theorem dX9_need_10 : decode cX9_need 10 = .ok (.iadd, 1) := by decide +kernel
theorem dX9_need_11 : decode cX9_need 11 = .ok (.putfield 366, 3) := by decide +kernel
theorem dX9_need_14 : decode cX9_need 14 = .ok (.new 374, 3) := by decide +kernel
theorem dX9_need_17 : decode cX9_need 17 = .ok (.dup, 1) := by decide +kernel
theorem dX9_need_18 : decode cX9_need 18 = .ok (.invokespecial 376, 3) := by decide +kernel
theorem dX9_need_21 : decode cX9_need 21 = .ok (.athrow, 1) := by decide +kernel
theorem dX9_need_22 : decode cX9_need 22 = .ok (.return_, 1) := by decide +kernel
def fX9_need (x0 : Nat) (x1 : Int32) (v : zV) : Option (Nat × Int32 × zV) :=
  if x1 = (0 : Int32) then
    zlet (zup v x0 16 ((v x0 16) + (1 : Int32))) fun v_1 =>
    some (2, (0 : Int32), v_1)
  else
    some (0, (0 : Int32), v)
set_option maxRecDepth 4000 in
theorem kX9_need (l : Launch) (G : zG) (x0 : Nat) (t0 : zty G x0 1 9) (x1 : Int32) (v : zV) (c : Nat) (r : Int32) (w : zV) (hfl9 : l.stackTraces = false) (h : fX9_need x0 x1 v = some (c, r, w)) : zXM l yX9_need cX9_need 2 (Option.none : Option FieldType) 6 110 1 6 [zr G x0, .int x1] G v c none w := by
  refine zXM_of (own := RX9) (by decide) rfl (Nat.le_of_ble_eq_true rfl) (fun x hl F hr hk hcs hnt => ?_)
  subst hl
  have hfl := hfl9
  refine z_ls [(0, zr G x0), (1, .int x1)] [0, 1] rfl ?_
  unfold fX9_need at h
  refine z_iload_n F dX9_need_0 rfl 1 rfl ?_
  refine z_if_ne F 22 dX9_need_1 rfl (fun hc => ?_) (fun hc => ?_)
  · replace h := zif_f hc h
    cases h
    exact z_xretv F hr hk (Nat.le_of_ble_eq_true rfl) (Nat.le_of_ble_eq_true rfl) dX9_need_22
  · replace h := zif_t hc h
    refine z_aload_n F dX9_need_4 rfl 0 rfl ?_
    refine z_dup F dX9_need_5 rfl ?_
    refine zg_9_16 F t0 wF_X9_366 dX9_need_6 ?_
    refine z_iconst (y := (1 : Int32)) F dX9_need_9 rfl ?_
    refine z_iadd F dX9_need_10 ?_
    refine zp_9_16 F t0 wF_X9_366 dX9_need_11 ?_
    obtain ⟨v_1, ev_1, h⟩ := zlet_ex h
    refine z_heap ev_1 ?_
    cases h
    exact z_xthrow F hfl hnt hk (cls := "java/lang/IllegalArgumentException") (names := ["java/lang/RuntimeException", "java/lang/Exception"]) rfl (by decide) (by decide) zck_X9_374 zci_A (zau_A G) zgo_A zlU zlN zlI dX9_need_14 dX9_need_17 dX9_need_18 dX9_need_21 (Nat.le_of_ble_eq_true rfl) (Nat.le_of_ble_eq_true rfl) (Nat.le_of_ble_eq_true rfl) ⟨Nat.le_trans (Nat.le_of_ble_eq_true rfl) hcs.1, Nat.le_trans (Nat.le_of_ble_eq_true rfl) hcs.2⟩ (Nat.le_of_ble_eq_true rfl) (Nat.le_of_ble_eq_true rfl)

theorem dX9_openText_0 : decode cX9_openText 0 = .ok (.aload_n 0, 1) := by decide +kernel
theorem dX9_openText_1 : decode cX9_openText 1 = .ok (.iload_n 1, 1) := by decide +kernel
theorem dX9_openText_2 : decode cX9_openText 2 = .ok (.iconst 0, 1) := by decide +kernel
theorem dX9_openText_3 : decode cX9_openText 3 = .ok (.iload_n 2, 1) := by decide +kernel
theorem dX9_openText_4 : decode cX9_openText 4 = .ok (.aload_n 0, 1) := by decide +kernel
theorem dX9_openText_5 : decode cX9_openText 5 = .ok (.getfield 10, 3) := by decide +kernel
theorem dX9_openText_8 : decode cX9_openText 8 = .ok (.getfield 96, 3) := by decide +kernel
theorem dX9_openText_11 : decode cX9_openText 11 = .ok (.invokestatic 231, 3) := by decide +kernel
theorem dX9_openText_14 : decode cX9_openText 14 = .ok (.invokestatic 150, 3) := by decide +kernel
theorem dX9_openText_17 : decode cX9_openText 17 = .ok (.invokevirtual 154, 3) := by decide +kernel
theorem dX9_openText_20 : decode cX9_openText 20 = .ok (.aload_n 0, 1) := by decide +kernel
theorem dX9_openText_21 : decode cX9_openText 21 = .ok (.getfield 10, 3) := by decide +kernel
theorem dX9_openText_24 : decode cX9_openText 24 = .ok (.iload_n 1, 1) := by decide +kernel
theorem dX9_openText_25 : decode cX9_openText 25 = .ok (.invokevirtual 369, 3) := by decide +kernel
theorem dX9_openText_28 : decode cX9_openText 28 = .ok (.return_, 1) := by decide +kernel
def fX9_openText (x0 : Nat) (x1 : Int32) (x2 : Int32) (v : zV) : Option (Nat × Int32 × zV) :=
  zbind (fX9_within x1 (0 : Int32) (zmin x2 (v (zrf x0 0) 1)) v) fun r_2 v_1 =>
  zbindx (fX9_need x0 r_2 v_1) (fun r_4 v_3 =>
    zbindv (fX8_open (zrf x0 0) x1 v_3) fun v_5 =>
    some (0, (0 : Int32), v_5))
  (0 : Int32)
set_option maxRecDepth 4000 in
theorem kX9_openText (l : Launch) (G : zG) (x0 : Nat) (t0 : zty G x0 1 9) (x1 : Int32) (x2 : Int32) (v : zV) (c : Nat) (r : Int32) (w : zV) (hfl9 : l.stackTraces = false) (h : fX9_openText x0 x1 x2 v = some (c, r, w)) : zXM l yX9_openText cX9_openText 3 (Option.none : Option FieldType) 7 131 1 6 [zr G x0, .int x1, .int x2] G v c none w := by
  refine zXM_of (own := RX9) (by decide) rfl (Nat.le_of_ble_eq_true rfl) (fun x hl F hr hk hcs hnt => ?_)
  subst hl
  have hfl := hfl9
  refine z_ls [(0, zr G x0), (1, .int x1), (2, .int x2)] [0, 1, 2] rfl ?_
  unfold fX9_openText at h
  refine z_aload_n F dX9_openText_0 rfl 0 rfl ?_
  refine z_iload_n F dX9_openText_1 rfl 1 rfl ?_
  refine z_iconst (y := (0 : Int32)) F dX9_openText_2 rfl ?_
  refine z_iload_n F dX9_openText_3 rfl 2 rfl ?_
  refine z_aload_n F dX9_openText_4 rfl 0 rfl ?_
  refine zg_9_0 F t0 wF_X9_10 dX9_openText_5 ?_
  refine zg_8_1 F (zt_f tc_9_0 t0) wF_X9_96 dX9_openText_8 ?_
  refine z_min F wM_X9_231 dX9_openText_11 (Nat.le_of_ble_eq_true rfl) (Nat.le_of_ble_eq_true rfl) (Nat.le_of_ble_eq_true rfl) ⟨Nat.le_trans (Nat.le_of_ble_eq_true rfl) hcs.1, Nat.le_trans (Nat.le_of_ble_eq_true rfl) hcs.2⟩ ?_
  obtain ⟨r_2, v_1, hq14, h⟩ := zbind_ex h
  refine z_callSi F [.int x1, .int (0 : Int32), .int (zmin x2 (v (zrf x0 0) 1))] [zr G x0] (kX9_within x.2.1 G x1 (0 : Int32) (zmin x2 (v (zrf x0 0) 1)) v r_2 v_1 hq14) mI_X9_within wM_X9_150 ms_X9_within dX9_openText_14 rfl ⟨Nat.le_of_ble_eq_true rfl, Nat.le_of_ble_eq_true rfl⟩ rfl (Nat.le_of_ble_eq_true rfl) ⟨Nat.le_trans (Nat.le_of_ble_eq_true rfl) hcs.1, Nat.le_trans (Nat.le_of_ble_eq_true rfl) hcs.2⟩ ?_
  rcases zbindx_ex h with ⟨r_4, v_3, hq17, h⟩ | ⟨c1, r_4, v_3, hq17, h⟩
  · have hM9 := kX9_need x.2.1 G x0 t0 r_2 v_1 0 r_4 v_3 hfl hq17
    refine z_xcall0 F [.int r_2] [] hM9 mI_X9_need (c := 9) rfl t0 wM_X9_154 mi_X9_need sl_X9_need dX9_openText_17 rfl ⟨Nat.le_of_ble_eq_true rfl, Nat.le_of_ble_eq_true rfl⟩ rfl (Nat.le_of_ble_eq_true rfl) ⟨Nat.le_trans (Nat.le_of_ble_eq_true rfl) hcs.1, Nat.le_trans (Nat.le_of_ble_eq_true rfl) hcs.2⟩ ?_
    refine z_id (st := []) ?_
    refine z_aload_n F dX9_openText_20 rfl 0 rfl ?_
    refine zg_9_0 F t0 wF_X9_10 dX9_openText_21 ?_
    refine z_iload_n F dX9_openText_24 rfl 1 rfl ?_
    obtain ⟨v_5, hq25, h⟩ := zbindv_ex h
    refine z_callVv F [.int x1] [] (kX8_open x.2.1 G (zrf x0 0) (zt_f tc_9_0 t0) x1 v_3 v_5 hq25) mI_X8_open (c := 8) rfl (zt_f tc_9_0 t0) wM_X9_369 mi_X8_open sl_X8_open dX9_openText_25 rfl ⟨Nat.le_of_ble_eq_true rfl, Nat.le_of_ble_eq_true rfl⟩ rfl (Nat.le_of_ble_eq_true rfl) ⟨Nat.le_trans (Nat.le_of_ble_eq_true rfl) hcs.1, Nat.le_trans (Nat.le_of_ble_eq_true rfl) hcs.2⟩ ?_
    cases h
    exact z_xretv F hr hk (Nat.le_of_ble_eq_true rfl) (Nat.le_of_ble_eq_true rfl) dX9_openText_28
  · have hM9 := kX9_need x.2.1 G x0 t0 r_2 v_1 (c1 + 1) r_4 v_3 hfl hq17
    cases h
    exact z_xcall1 F hnt hk [.int r_2] [] hM9 mI_X9_need (c := 9) rfl t0 wM_X9_154 mi_X9_need sl_X9_need dX9_openText_17 rfl ⟨Nat.le_of_ble_eq_true rfl, Nat.le_of_ble_eq_true rfl⟩ rfl (Nat.le_of_ble_eq_true rfl) ⟨Nat.le_trans (Nat.le_of_ble_eq_true rfl) hcs.1, Nat.le_trans (Nat.le_of_ble_eq_true rfl) hcs.2⟩ (Nat.le_of_ble_eq_true rfl) (Nat.le_of_ble_eq_true rfl)

theorem dX9_academy_0 : decode cX9_academy 0 = .ok (.aload_n 0, 1) := by decide +kernel
theorem dX9_academy_1 : decode cX9_academy 1 = .ok (.iload_n 1, 1) := by decide +kernel
theorem dX9_academy_2 : decode cX9_academy 2 = .ok (.sipush 600, 3) := by decide +kernel
theorem dX9_academy_5 : decode cX9_academy 5 = .ok (.invokevirtual 104, 3) := by decide +kernel
theorem dX9_academy_8 : decode cX9_academy 8 = .ok (.aload_n 0, 1) := by decide +kernel
theorem dX9_academy_9 : decode cX9_academy 9 = .ok (.getfield 23, 3) := by decide +kernel
theorem dX9_academy_12 : decode cX9_academy 12 = .ok (.aload_n 0, 1) := by decide +kernel
theorem dX9_academy_13 : decode cX9_academy 13 = .ok (.getfield 10, 3) := by decide +kernel
theorem dX9_academy_16 : decode cX9_academy 16 = .ok (.invokevirtual 108, 3) := by decide +kernel
theorem dX9_academy_19 : decode cX9_academy 19 = .ok (.aload_n 0, 1) := by decide +kernel
theorem dX9_academy_20 : decode cX9_academy 20 = .ok (.getfield 10, 3) := by decide +kernel
theorem dX9_academy_23 : decode cX9_academy 23 = .ok (.getfield 112, 3) := by decide +kernel
theorem dX9_academy_26 : decode cX9_academy 26 = .ok (.ifCond .eq 14, 3) := by decide +kernel
theorem dX9_academy_29 : decode cX9_academy 29 = .ok (.aload_n 0, 1) := by decide +kernel
theorem dX9_academy_30 : decode cX9_academy 30 = .ok (.getfield 10, 3) := by decide +kernel
theorem dX9_academy_33 : decode cX9_academy 33 = .ok (.getfield 112, 3) := by decide +kernel
theorem dX9_academy_36 : decode cX9_academy 36 = .ok (.bipush 10, 2) := by decide +kernel
theorem dX9_academy_38 : decode cX9_academy 38 = .ok (.isub, 1) := by decide +kernel
theorem dX9_academy_39 : decode cX9_academy 39 = .ok (.ireturn, 1) := by decide +kernel
theorem dX9_academy_40 : decode cX9_academy 40 = .ok (.aload_n 0, 1) := by decide +kernel
theorem dX9_academy_41 : decode cX9_academy 41 = .ok (.getfield 19, 3) := by decide +kernel
theorem dX9_academy_44 : decode cX9_academy 44 = .ok (.aload_n 0, 1) := by decide +kernel
theorem dX9_academy_45 : decode cX9_academy 45 = .ok (.getfield 23, 3) := by decide +kernel
theorem dX9_academy_48 : decode cX9_academy 48 = .ok (.invokevirtual 115, 3) := by decide +kernel
theorem dX9_academy_51 : decode cX9_academy 51 = .ok (.aload_n 0, 1) := by decide +kernel
theorem dX9_academy_52 : decode cX9_academy 52 = .ok (.getfield 29, 3) := by decide +kernel
theorem dX9_academy_55 : decode cX9_academy 55 = .ok (.invokevirtual 119, 3) := by decide +kernel
theorem dX9_academy_58 : decode cX9_academy 58 = .ok (.aload_n 0, 1) := by decide +kernel
theorem dX9_academy_59 : decode cX9_academy 59 = .ok (.getfield 39, 3) := by decide +kernel
theorem dX9_academy_62 : decode cX9_academy 62 = .ok (.iconst 0, 1) := by decide +kernel
theorem dX9_academy_63 : decode cX9_academy 63 = .ok (.putfield 122, 3) := by decide +kernel
theorem dX9_academy_66 : decode cX9_academy 66 = .ok (.aload_n 0, 1) := by decide +kernel
theorem dX9_academy_67 : decode cX9_academy 67 = .ok (.iconst 0, 1) := by decide +kernel
theorem dX9_academy_68 : decode cX9_academy 68 = .ok (.putfield 125, 3) := by decide +kernel
theorem dX9_academy_71 : decode cX9_academy 71 = .ok (.aload_n 0, 1) := by decide +kernel
theorem dX9_academy_72 : decode cX9_academy 72 = .ok (.getfield 49, 3) := by decide +kernel
theorem dX9_academy_75 : decode cX9_academy 75 = .ok (.aload_n 0, 1) := by decide +kernel
theorem dX9_academy_76 : decode cX9_academy 76 = .ok (.getfield 19, 3) := by decide +kernel
theorem dX9_academy_79 : decode cX9_academy 79 = .ok (.invokevirtual 128, 3) := by decide +kernel
theorem dX9_academy_82 : decode cX9_academy 82 = .ok (.aload_n 0, 1) := by decide +kernel
theorem dX9_academy_83 : decode cX9_academy 83 = .ok (.getfield 53, 3) := by decide +kernel
theorem dX9_academy_86 : decode cX9_academy 86 = .ok (.aload_n 0, 1) := by decide +kernel
theorem dX9_academy_87 : decode cX9_academy 87 = .ok (.getfield 49, 3) := by decide +kernel
theorem dX9_academy_90 : decode cX9_academy 90 = .ok (.invokevirtual 131, 3) := by decide +kernel
theorem dX9_academy_93 : decode cX9_academy 93 = .ok (.aload_n 0, 1) := by decide +kernel
theorem dX9_academy_94 : decode cX9_academy 94 = .ok (.getfield 19, 3) := by decide +kernel
theorem dX9_academy_97 : decode cX9_academy 97 = .ok (.getfield 134, 3) := by decide +kernel
theorem dX9_academy_100 : decode cX9_academy 100 = .ok (.ireturn, 1) := by decide +kernel
def fX9_academy (x0 : Nat) (x1 : Int32) (v : zV) : Option (Nat × Int32 × zV) :=
  zbindx (fX9_openText x0 x1 (600 : Int32) v) (fun r_2 v_1 =>
    zbindv (fX0_read (zrf x0 2) (zrf x0 0) v_1) fun v_3 =>
    if (v_3 (zrf x0 0) 2) = (0 : Int32) then
      zbindv (fX0_copy (zrf x0 1) (zrf x0 2) v_3) fun v_4 =>
      zbindv (fX5_beUsual (zrf x0 3) v_4) fun v_5 =>
      zlet (zup v_5 (zrf x0 5) 0 (0 : Int32)) fun v_6 =>
      zlet (zup v_6 x0 10 (0 : Int32)) fun v_7 =>
      zbindv (fX7_open (zrf x0 7) (zrf x0 1) v_7) fun v_8 =>
      zbindv (fX7_copy (zrf x0 8) (zrf x0 7) v_8) fun v_9 =>
      some (0, v_9 (zrf x0 1) 1, v_9)
    else
      some (0, (v_3 (zrf x0 0) 2) - (10 : Int32), v_3))
  (0 : Int32)
set_option maxRecDepth 4000 in
theorem kX9_academy (l : Launch) (G : zG) (x0 : Nat) (t0 : zty G x0 1 9) (x1 : Int32) (v : zV) (c : Nat) (r : Int32) (w : zV) (hfl9 : l.stackTraces = false) (h : fX9_academy x0 x1 v = some (c, r, w)) : zXM l yX9_academy cX9_academy 2 (Option.some FieldType.int) 9 291 1 6 [zr G x0, .int x1] G v c (some (.int r)) w := by
  refine zXM_of (own := RX9) (by decide) rfl (Nat.le_of_ble_eq_true rfl) (fun x hl F hr hk hcs hnt => ?_)
  subst hl
  have hfl := hfl9
  refine z_ls [(0, zr G x0), (1, .int x1)] [0, 1] rfl ?_
  unfold fX9_academy at h
  refine z_aload_n F dX9_academy_0 rfl 0 rfl ?_
  refine z_iload_n F dX9_academy_1 rfl 1 rfl ?_
  refine z_sipush (y := (600 : Int32)) F dX9_academy_2 rfl ?_
  rcases zbindx_ex h with ⟨r_2, v_1, hq5, h⟩ | ⟨c1, r_2, v_1, hq5, h⟩
  · have hM9 := kX9_openText x.2.1 G x0 t0 x1 (600 : Int32) v 0 r_2 v_1 hfl hq5
    refine z_xcall0 F [.int x1, .int (600 : Int32)] [] hM9 mI_X9_openText (c := 9) rfl t0 wM_X9_104 mi_X9_openText sl_X9_openText dX9_academy_5 rfl ⟨Nat.le_of_ble_eq_true rfl, Nat.le_of_ble_eq_true rfl⟩ rfl (Nat.le_of_ble_eq_true rfl) ⟨Nat.le_trans (Nat.le_of_ble_eq_true rfl) hcs.1, Nat.le_trans (Nat.le_of_ble_eq_true rfl) hcs.2⟩ ?_
    refine z_id (st := []) ?_
    refine z_aload_n F dX9_academy_8 rfl 0 rfl ?_
    refine zg_9_2 F t0 wF_X9_23 dX9_academy_9 ?_
    refine z_aload_n F dX9_academy_12 rfl 0 rfl ?_
    refine zg_9_0 F t0 wF_X9_10 dX9_academy_13 ?_
    obtain ⟨v_3, hq16, h⟩ := zbindv_ex h
    refine z_callVv F [zr G (zrf x0 0)] [] (kX0_read x.2.1 G (zrf x0 2) (zt_f tc_9_2 t0) (zrf x0 0) (zt_f tc_9_0 t0) v_1 v_3 hq16) mI_X0_read (c := 0) rfl (zt_f tc_9_2 t0) wM_X9_108 mi_X0_read sl_X0_read dX9_academy_16 rfl ⟨Nat.le_of_ble_eq_true rfl, Nat.le_of_ble_eq_true rfl⟩ rfl (Nat.le_of_ble_eq_true rfl) ⟨Nat.le_trans (Nat.le_of_ble_eq_true rfl) hcs.1, Nat.le_trans (Nat.le_of_ble_eq_true rfl) hcs.2⟩ ?_
    refine z_aload_n F dX9_academy_19 rfl 0 rfl ?_
    refine zg_9_0 F t0 wF_X9_10 dX9_academy_20 ?_
    refine zg_8_2 F (zt_f tc_9_0 t0) wF_X9_112 dX9_academy_23 ?_
    refine z_if_eq F 40 dX9_academy_26 rfl (fun hc => ?_) (fun hc => ?_)
    · replace h := zif_t hc h
      refine z_aload_n F dX9_academy_40 rfl 0 rfl ?_
      refine zg_9_1 F t0 wF_X9_19 dX9_academy_41 ?_
      refine z_aload_n F dX9_academy_44 rfl 0 rfl ?_
      refine zg_9_2 F t0 wF_X9_23 dX9_academy_45 ?_
      obtain ⟨v_4, hq48, h⟩ := zbindv_ex h
      refine z_callVv F [zr G (zrf x0 2)] [] (kX0_copy x.2.1 G (zrf x0 1) (zt_f tc_9_1 t0) (zrf x0 2) (zt_f tc_9_2 t0) v_3 v_4 hq48) mI_X0_copy (c := 0) rfl (zt_f tc_9_1 t0) wM_X9_115 mi_X0_copy sl_X0_copy dX9_academy_48 rfl ⟨Nat.le_of_ble_eq_true rfl, Nat.le_of_ble_eq_true rfl⟩ rfl (Nat.le_of_ble_eq_true rfl) ⟨Nat.le_trans (Nat.le_of_ble_eq_true rfl) hcs.1, Nat.le_trans (Nat.le_of_ble_eq_true rfl) hcs.2⟩ ?_
      refine z_aload_n F dX9_academy_51 rfl 0 rfl ?_
      refine zg_9_3 F t0 wF_X9_29 dX9_academy_52 ?_
      obtain ⟨v_5, hq55, h⟩ := zbindv_ex h
      refine z_callVv F [] [] (kX5_beUsual x.2.1 G (zrf x0 3) (zt_f tc_9_3 t0) v_4 v_5 hq55) mI_X5_beUsual (c := 5) rfl (zt_f tc_9_3 t0) wM_X9_119 mi_X5_beUsual sl_X5_beUsual dX9_academy_55 rfl ⟨Nat.le_of_ble_eq_true rfl, Nat.le_of_ble_eq_true rfl⟩ rfl (Nat.le_of_ble_eq_true rfl) ⟨Nat.le_trans (Nat.le_of_ble_eq_true rfl) hcs.1, Nat.le_trans (Nat.le_of_ble_eq_true rfl) hcs.2⟩ ?_
      refine z_aload_n F dX9_academy_58 rfl 0 rfl ?_
      refine zg_9_5 F t0 wF_X9_39 dX9_academy_59 ?_
      refine z_iconst (y := (0 : Int32)) F dX9_academy_62 rfl ?_
      refine zp_1_0 F (zt_f tc_9_5 t0) wF_X9_122 dX9_academy_63 ?_
      obtain ⟨v_6, ev_6, h⟩ := zlet_ex h
      refine z_heap ev_6 ?_
      refine z_aload_n F dX9_academy_66 rfl 0 rfl ?_
      refine z_iconst (y := (0 : Int32)) F dX9_academy_67 rfl ?_
      refine zp_9_10 F t0 wF_X9_125 dX9_academy_68 ?_
      obtain ⟨v_7, ev_7, h⟩ := zlet_ex h
      refine z_heap ev_7 ?_
      refine z_aload_n F dX9_academy_71 rfl 0 rfl ?_
      refine zg_9_7 F t0 wF_X9_49 dX9_academy_72 ?_
      refine z_aload_n F dX9_academy_75 rfl 0 rfl ?_
      refine zg_9_1 F t0 wF_X9_19 dX9_academy_76 ?_
      obtain ⟨v_8, hq79, h⟩ := zbindv_ex h
      refine z_callVv F [zr G (zrf x0 1)] [] (kX7_open x.2.1 G (zrf x0 7) (zt_f tc_9_7 t0) (zrf x0 1) (zt_f tc_9_1 t0) v_7 v_8 hq79) mI_X7_open (c := 7) rfl (zt_f tc_9_7 t0) wM_X9_128 mi_X7_open sl_X7_open dX9_academy_79 rfl ⟨Nat.le_of_ble_eq_true rfl, Nat.le_of_ble_eq_true rfl⟩ rfl (Nat.le_of_ble_eq_true rfl) ⟨Nat.le_trans (Nat.le_of_ble_eq_true rfl) hcs.1, Nat.le_trans (Nat.le_of_ble_eq_true rfl) hcs.2⟩ ?_
      refine z_aload_n F dX9_academy_82 rfl 0 rfl ?_
      refine zg_9_8 F t0 wF_X9_53 dX9_academy_83 ?_
      refine z_aload_n F dX9_academy_86 rfl 0 rfl ?_
      refine zg_9_7 F t0 wF_X9_49 dX9_academy_87 ?_
      obtain ⟨v_9, hq90, h⟩ := zbindv_ex h
      refine z_callVv F [zr G (zrf x0 7)] [] (kX7_copy x.2.1 G (zrf x0 8) (zt_f tc_9_8 t0) (zrf x0 7) (zt_f tc_9_7 t0) v_8 v_9 hq90) mI_X7_copy (c := 7) rfl (zt_f tc_9_8 t0) wM_X9_131 mi_X7_copy sl_X7_copy dX9_academy_90 rfl ⟨Nat.le_of_ble_eq_true rfl, Nat.le_of_ble_eq_true rfl⟩ rfl (Nat.le_of_ble_eq_true rfl) ⟨Nat.le_trans (Nat.le_of_ble_eq_true rfl) hcs.1, Nat.le_trans (Nat.le_of_ble_eq_true rfl) hcs.2⟩ ?_
      refine z_aload_n F dX9_academy_93 rfl 0 rfl ?_
      refine zg_9_1 F t0 wF_X9_19 dX9_academy_94 ?_
      refine zg_0_1 F (zt_f tc_9_1 t0) wF_X9_134 dX9_academy_97 ?_
      cases h
      exact z_xreti F hr hk (Nat.le_of_ble_eq_true rfl) (Nat.le_of_ble_eq_true rfl) dX9_academy_100
    · replace h := zif_f hc h
      refine z_aload_n F dX9_academy_29 rfl 0 rfl ?_
      refine zg_9_0 F t0 wF_X9_10 dX9_academy_30 ?_
      refine zg_8_2 F (zt_f tc_9_0 t0) wF_X9_112 dX9_academy_33 ?_
      refine z_bipush (y := (10 : Int32)) F dX9_academy_36 rfl ?_
      refine z_isub F dX9_academy_38 ?_
      cases h
      exact z_xreti F hr hk (Nat.le_of_ble_eq_true rfl) (Nat.le_of_ble_eq_true rfl) dX9_academy_39
  · have hM9 := kX9_openText x.2.1 G x0 t0 x1 (600 : Int32) v (c1 + 1) r_2 v_1 hfl hq5
    cases h
    exact z_xcall1 F hnt hk [.int x1, .int (600 : Int32)] [] hM9 mI_X9_openText (c := 9) rfl t0 wM_X9_104 mi_X9_openText sl_X9_openText dX9_academy_5 rfl ⟨Nat.le_of_ble_eq_true rfl, Nat.le_of_ble_eq_true rfl⟩ rfl (Nat.le_of_ble_eq_true rfl) ⟨Nat.le_trans (Nat.le_of_ble_eq_true rfl) hcs.1, Nat.le_trans (Nat.le_of_ble_eq_true rfl) hcs.2⟩ (Nat.le_of_ble_eq_true rfl) (Nat.le_of_ble_eq_true rfl)

theorem dX9_law_0 : decode cX9_law 0 = .ok (.aload_n 0, 1) := by decide +kernel
theorem dX9_law_1 : decode cX9_law 1 = .ok (.iload_n 1, 1) := by decide +kernel
theorem dX9_law_2 : decode cX9_law 2 = .ok (.sipush 150, 3) := by decide +kernel
theorem dX9_law_5 : decode cX9_law 5 = .ok (.invokevirtual 104, 3) := by decide +kernel
theorem dX9_law_8 : decode cX9_law 8 = .ok (.aload_n 0, 1) := by decide +kernel
theorem dX9_law_9 : decode cX9_law 9 = .ok (.getfield 33, 3) := by decide +kernel
theorem dX9_law_12 : decode cX9_law 12 = .ok (.aload_n 0, 1) := by decide +kernel
theorem dX9_law_13 : decode cX9_law 13 = .ok (.getfield 10, 3) := by decide +kernel
theorem dX9_law_16 : decode cX9_law 16 = .ok (.invokevirtual 137, 3) := by decide +kernel
theorem dX9_law_19 : decode cX9_law 19 = .ok (.aload_n 0, 1) := by decide +kernel
theorem dX9_law_20 : decode cX9_law 20 = .ok (.getfield 10, 3) := by decide +kernel
theorem dX9_law_23 : decode cX9_law 23 = .ok (.getfield 112, 3) := by decide +kernel
theorem dX9_law_26 : decode cX9_law 26 = .ok (.ifCond .eq 14, 3) := by decide +kernel
theorem dX9_law_29 : decode cX9_law 29 = .ok (.aload_n 0, 1) := by decide +kernel
theorem dX9_law_30 : decode cX9_law 30 = .ok (.getfield 10, 3) := by decide +kernel
theorem dX9_law_33 : decode cX9_law 33 = .ok (.getfield 112, 3) := by decide +kernel
theorem dX9_law_36 : decode cX9_law 36 = .ok (.bipush 10, 2) := by decide +kernel
theorem dX9_law_38 : decode cX9_law 38 = .ok (.isub, 1) := by decide +kernel
theorem dX9_law_39 : decode cX9_law 39 = .ok (.ireturn, 1) := by decide +kernel
theorem dX9_law_40 : decode cX9_law 40 = .ok (.aload_n 0, 1) := by decide +kernel
theorem dX9_law_41 : decode cX9_law 41 = .ok (.getfield 29, 3) := by decide +kernel
theorem dX9_law_44 : decode cX9_law 44 = .ok (.aload_n 0, 1) := by decide +kernel
theorem dX9_law_45 : decode cX9_law 45 = .ok (.getfield 33, 3) := by decide +kernel
theorem dX9_law_48 : decode cX9_law 48 = .ok (.invokevirtual 138, 3) := by decide +kernel
theorem dX9_law_51 : decode cX9_law 51 = .ok (.aload_n 0, 1) := by decide +kernel
theorem dX9_law_52 : decode cX9_law 52 = .ok (.getfield 53, 3) := by decide +kernel
theorem dX9_law_55 : decode cX9_law 55 = .ok (.aload_n 0, 1) := by decide +kernel
theorem dX9_law_56 : decode cX9_law 56 = .ok (.getfield 49, 3) := by decide +kernel
theorem dX9_law_59 : decode cX9_law 59 = .ok (.invokevirtual 131, 3) := by decide +kernel
theorem dX9_law_62 : decode cX9_law 62 = .ok (.iconst 1, 1) := by decide +kernel
theorem dX9_law_63 : decode cX9_law 63 = .ok (.ireturn, 1) := by decide +kernel
def fX9_law (x0 : Nat) (x1 : Int32) (v : zV) : Option (Nat × Int32 × zV) :=
  zbindx (fX9_openText x0 x1 (150 : Int32) v) (fun r_2 v_1 =>
    zbindv (fX5_read (zrf x0 4) (zrf x0 0) v_1) fun v_3 =>
    if (v_3 (zrf x0 0) 2) = (0 : Int32) then
      zbindv (fX5_copy (zrf x0 3) (zrf x0 4) v_3) fun v_4 =>
      zbindv (fX7_copy (zrf x0 8) (zrf x0 7) v_4) fun v_5 =>
      some (0, (1 : Int32), v_5)
    else
      some (0, (v_3 (zrf x0 0) 2) - (10 : Int32), v_3))
  (0 : Int32)
set_option maxRecDepth 4000 in
theorem kX9_law (l : Launch) (G : zG) (x0 : Nat) (t0 : zty G x0 1 9) (x1 : Int32) (v : zV) (c : Nat) (r : Int32) (w : zV) (hfl9 : l.stackTraces = false) (h : fX9_law x0 x1 v = some (c, r, w)) : zXM l yX9_law cX9_law 2 (Option.some FieldType.int) 183 5865 1 6 [zr G x0, .int x1] G v c (some (.int r)) w := by
  refine zXM_of (own := RX9) (by decide) rfl (Nat.le_of_ble_eq_true rfl) (fun x hl F hr hk hcs hnt => ?_)
  subst hl
  have hfl := hfl9
  refine z_ls [(0, zr G x0), (1, .int x1)] [0, 1] rfl ?_
  unfold fX9_law at h
  refine z_aload_n F dX9_law_0 rfl 0 rfl ?_
  refine z_iload_n F dX9_law_1 rfl 1 rfl ?_
  refine z_sipush (y := (150 : Int32)) F dX9_law_2 rfl ?_
  rcases zbindx_ex h with ⟨r_2, v_1, hq5, h⟩ | ⟨c1, r_2, v_1, hq5, h⟩
  · have hM9 := kX9_openText x.2.1 G x0 t0 x1 (150 : Int32) v 0 r_2 v_1 hfl hq5
    refine z_xcall0 F [.int x1, .int (150 : Int32)] [] hM9 mI_X9_openText (c := 9) rfl t0 wM_X9_104 mi_X9_openText sl_X9_openText dX9_law_5 rfl ⟨Nat.le_of_ble_eq_true rfl, Nat.le_of_ble_eq_true rfl⟩ rfl (Nat.le_of_ble_eq_true rfl) ⟨Nat.le_trans (Nat.le_of_ble_eq_true rfl) hcs.1, Nat.le_trans (Nat.le_of_ble_eq_true rfl) hcs.2⟩ ?_
    refine z_id (st := []) ?_
    refine z_aload_n F dX9_law_8 rfl 0 rfl ?_
    refine zg_9_4 F t0 wF_X9_33 dX9_law_9 ?_
    refine z_aload_n F dX9_law_12 rfl 0 rfl ?_
    refine zg_9_0 F t0 wF_X9_10 dX9_law_13 ?_
    obtain ⟨v_3, hq16, h⟩ := zbindv_ex h
    refine z_callVv F [zr G (zrf x0 0)] [] (kX5_read x.2.1 G (zrf x0 4) (zt_f tc_9_4 t0) (zrf x0 0) (zt_f tc_9_0 t0) v_1 v_3 hq16) mI_X5_read (c := 5) rfl (zt_f tc_9_4 t0) wM_X9_137 mi_X5_read sl_X5_read dX9_law_16 rfl ⟨Nat.le_of_ble_eq_true rfl, Nat.le_of_ble_eq_true rfl⟩ rfl (Nat.le_of_ble_eq_true rfl) ⟨Nat.le_trans (Nat.le_of_ble_eq_true rfl) hcs.1, Nat.le_trans (Nat.le_of_ble_eq_true rfl) hcs.2⟩ ?_
    refine z_aload_n F dX9_law_19 rfl 0 rfl ?_
    refine zg_9_0 F t0 wF_X9_10 dX9_law_20 ?_
    refine zg_8_2 F (zt_f tc_9_0 t0) wF_X9_112 dX9_law_23 ?_
    refine z_if_eq F 40 dX9_law_26 rfl (fun hc => ?_) (fun hc => ?_)
    · replace h := zif_t hc h
      refine z_aload_n F dX9_law_40 rfl 0 rfl ?_
      refine zg_9_3 F t0 wF_X9_29 dX9_law_41 ?_
      refine z_aload_n F dX9_law_44 rfl 0 rfl ?_
      refine zg_9_4 F t0 wF_X9_33 dX9_law_45 ?_
      obtain ⟨v_4, hq48, h⟩ := zbindv_ex h
      refine z_callVv F [zr G (zrf x0 4)] [] (kX5_copy x.2.1 G (zrf x0 3) (zt_f tc_9_3 t0) (zrf x0 4) (zt_f tc_9_4 t0) v_3 v_4 hq48) mI_X5_copy (c := 5) rfl (zt_f tc_9_3 t0) wM_X9_138 mi_X5_copy sl_X5_copy dX9_law_48 rfl ⟨Nat.le_of_ble_eq_true rfl, Nat.le_of_ble_eq_true rfl⟩ rfl (Nat.le_of_ble_eq_true rfl) ⟨Nat.le_trans (Nat.le_of_ble_eq_true rfl) hcs.1, Nat.le_trans (Nat.le_of_ble_eq_true rfl) hcs.2⟩ ?_
      refine z_aload_n F dX9_law_51 rfl 0 rfl ?_
      refine zg_9_8 F t0 wF_X9_53 dX9_law_52 ?_
      refine z_aload_n F dX9_law_55 rfl 0 rfl ?_
      refine zg_9_7 F t0 wF_X9_49 dX9_law_56 ?_
      obtain ⟨v_5, hq59, h⟩ := zbindv_ex h
      refine z_callVv F [zr G (zrf x0 7)] [] (kX7_copy x.2.1 G (zrf x0 8) (zt_f tc_9_8 t0) (zrf x0 7) (zt_f tc_9_7 t0) v_4 v_5 hq59) mI_X7_copy (c := 7) rfl (zt_f tc_9_8 t0) wM_X9_131 mi_X7_copy sl_X7_copy dX9_law_59 rfl ⟨Nat.le_of_ble_eq_true rfl, Nat.le_of_ble_eq_true rfl⟩ rfl (Nat.le_of_ble_eq_true rfl) ⟨Nat.le_trans (Nat.le_of_ble_eq_true rfl) hcs.1, Nat.le_trans (Nat.le_of_ble_eq_true rfl) hcs.2⟩ ?_
      refine z_iconst (y := (1 : Int32)) F dX9_law_62 rfl ?_
      cases h
      exact z_xreti F hr hk (Nat.le_of_ble_eq_true rfl) (Nat.le_of_ble_eq_true rfl) dX9_law_63
    · replace h := zif_f hc h
      refine z_aload_n F dX9_law_29 rfl 0 rfl ?_
      refine zg_9_0 F t0 wF_X9_10 dX9_law_30 ?_
      refine zg_8_2 F (zt_f tc_9_0 t0) wF_X9_112 dX9_law_33 ?_
      refine z_bipush (y := (10 : Int32)) F dX9_law_36 rfl ?_
      refine z_isub F dX9_law_38 ?_
      cases h
      exact z_xreti F hr hk (Nat.le_of_ble_eq_true rfl) (Nat.le_of_ble_eq_true rfl) dX9_law_39
  · have hM9 := kX9_openText x.2.1 G x0 t0 x1 (150 : Int32) v (c1 + 1) r_2 v_1 hfl hq5
    cases h
    exact z_xcall1 F hnt hk [.int x1, .int (150 : Int32)] [] hM9 mI_X9_openText (c := 9) rfl t0 wM_X9_104 mi_X9_openText sl_X9_openText dX9_law_5 rfl ⟨Nat.le_of_ble_eq_true rfl, Nat.le_of_ble_eq_true rfl⟩ rfl (Nat.le_of_ble_eq_true rfl) ⟨Nat.le_trans (Nat.le_of_ble_eq_true rfl) hcs.1, Nat.le_trans (Nat.le_of_ble_eq_true rfl) hcs.2⟩ (Nat.le_of_ble_eq_true rfl) (Nat.le_of_ble_eq_true rfl)

theorem dX9_book_0 : decode cX9_book 0 = .ok (.aload_n 0, 1) := by decide +kernel
theorem dX9_book_1 : decode cX9_book 1 = .ok (.iload_n 1, 1) := by decide +kernel
theorem dX9_book_2 : decode cX9_book 2 = .ok (.sipush 150, 3) := by decide +kernel
theorem dX9_book_5 : decode cX9_book 5 = .ok (.invokevirtual 104, 3) := by decide +kernel
theorem dX9_book_8 : decode cX9_book 8 = .ok (.aload_n 0, 1) := by decide +kernel
theorem dX9_book_9 : decode cX9_book 9 = .ok (.getfield 43, 3) := by decide +kernel
theorem dX9_book_12 : decode cX9_book 12 = .ok (.aload_n 0, 1) := by decide +kernel
theorem dX9_book_13 : decode cX9_book 13 = .ok (.getfield 10, 3) := by decide +kernel
theorem dX9_book_16 : decode cX9_book 16 = .ok (.aload_n 0, 1) := by decide +kernel
theorem dX9_book_17 : decode cX9_book 17 = .ok (.getfield 19, 3) := by decide +kernel
theorem dX9_book_20 : decode cX9_book 20 = .ok (.getfield 134, 3) := by decide +kernel
theorem dX9_book_23 : decode cX9_book 23 = .ok (.invokevirtual 141, 3) := by decide +kernel
theorem dX9_book_26 : decode cX9_book 26 = .ok (.aload_n 0, 1) := by decide +kernel
theorem dX9_book_27 : decode cX9_book 27 = .ok (.getfield 10, 3) := by decide +kernel
theorem dX9_book_30 : decode cX9_book 30 = .ok (.getfield 112, 3) := by decide +kernel
theorem dX9_book_33 : decode cX9_book 33 = .ok (.ifCond .eq 14, 3) := by decide +kernel
theorem dX9_book_36 : decode cX9_book 36 = .ok (.aload_n 0, 1) := by decide +kernel
theorem dX9_book_37 : decode cX9_book 37 = .ok (.getfield 10, 3) := by decide +kernel
theorem dX9_book_40 : decode cX9_book 40 = .ok (.getfield 112, 3) := by decide +kernel
theorem dX9_book_43 : decode cX9_book 43 = .ok (.bipush 10, 2) := by decide +kernel
theorem dX9_book_45 : decode cX9_book 45 = .ok (.isub, 1) := by decide +kernel
theorem dX9_book_46 : decode cX9_book 46 = .ok (.ireturn, 1) := by decide +kernel
theorem dX9_book_47 : decode cX9_book 47 = .ok (.aload_n 0, 1) := by decide +kernel
theorem dX9_book_48 : decode cX9_book 48 = .ok (.getfield 39, 3) := by decide +kernel
theorem dX9_book_51 : decode cX9_book 51 = .ok (.aload_n 0, 1) := by decide +kernel
theorem dX9_book_52 : decode cX9_book 52 = .ok (.getfield 43, 3) := by decide +kernel
theorem dX9_book_55 : decode cX9_book 55 = .ok (.invokevirtual 144, 3) := by decide +kernel
theorem dX9_book_58 : decode cX9_book 58 = .ok (.aload_n 0, 1) := by decide +kernel
theorem dX9_book_59 : decode cX9_book 59 = .ok (.getfield 39, 3) := by decide +kernel
theorem dX9_book_62 : decode cX9_book 62 = .ok (.getfield 122, 3) := by decide +kernel
theorem dX9_book_65 : decode cX9_book 65 = .ok (.ireturn, 1) := by decide +kernel
def fX9_book (x0 : Nat) (x1 : Int32) (v : zV) : Option (Nat × Int32 × zV) :=
  zbindx (fX9_openText x0 x1 (150 : Int32) v) (fun r_2 v_1 =>
    zbindv (fX1_read (zrf x0 6) (zrf x0 0) (v_1 (zrf x0 1) 1) v_1) fun v_3 =>
    if (v_3 (zrf x0 0) 2) = (0 : Int32) then
      zbindv (fX1_copy (zrf x0 5) (zrf x0 6) v_3) fun v_4 =>
      some (0, v_4 (zrf x0 5) 0, v_4)
    else
      some (0, (v_3 (zrf x0 0) 2) - (10 : Int32), v_3))
  (0 : Int32)
set_option maxRecDepth 4000 in
theorem kX9_book (l : Launch) (G : zG) (x0 : Nat) (t0 : zty G x0 1 9) (x1 : Int32) (v : zV) (c : Nat) (r : Int32) (w : zV) (hfl9 : l.stackTraces = false) (h : fX9_book x0 x1 v = some (c, r, w)) : zXM l yX9_book cX9_book 2 (Option.some FieldType.int) 8 272 1 6 [zr G x0, .int x1] G v c (some (.int r)) w := by
  refine zXM_of (own := RX9) (by decide) rfl (Nat.le_of_ble_eq_true rfl) (fun x hl F hr hk hcs hnt => ?_)
  subst hl
  have hfl := hfl9
  refine z_ls [(0, zr G x0), (1, .int x1)] [0, 1] rfl ?_
  unfold fX9_book at h
  refine z_aload_n F dX9_book_0 rfl 0 rfl ?_
  refine z_iload_n F dX9_book_1 rfl 1 rfl ?_
  refine z_sipush (y := (150 : Int32)) F dX9_book_2 rfl ?_
  rcases zbindx_ex h with ⟨r_2, v_1, hq5, h⟩ | ⟨c1, r_2, v_1, hq5, h⟩
  · have hM9 := kX9_openText x.2.1 G x0 t0 x1 (150 : Int32) v 0 r_2 v_1 hfl hq5
    refine z_xcall0 F [.int x1, .int (150 : Int32)] [] hM9 mI_X9_openText (c := 9) rfl t0 wM_X9_104 mi_X9_openText sl_X9_openText dX9_book_5 rfl ⟨Nat.le_of_ble_eq_true rfl, Nat.le_of_ble_eq_true rfl⟩ rfl (Nat.le_of_ble_eq_true rfl) ⟨Nat.le_trans (Nat.le_of_ble_eq_true rfl) hcs.1, Nat.le_trans (Nat.le_of_ble_eq_true rfl) hcs.2⟩ ?_
    refine z_id (st := []) ?_
    refine z_aload_n F dX9_book_8 rfl 0 rfl ?_
    refine zg_9_6 F t0 wF_X9_43 dX9_book_9 ?_
    refine z_aload_n F dX9_book_12 rfl 0 rfl ?_
    refine zg_9_0 F t0 wF_X9_10 dX9_book_13 ?_
    refine z_aload_n F dX9_book_16 rfl 0 rfl ?_
    refine zg_9_1 F t0 wF_X9_19 dX9_book_17 ?_
    refine zg_0_1 F (zt_f tc_9_1 t0) wF_X9_134 dX9_book_20 ?_
    obtain ⟨v_3, hq23, h⟩ := zbindv_ex h
    refine z_callVv F [zr G (zrf x0 0), .int (v_1 (zrf x0 1) 1)] [] (kX1_read x.2.1 G (zrf x0 6) (zt_f tc_9_6 t0) (zrf x0 0) (zt_f tc_9_0 t0) (v_1 (zrf x0 1) 1) v_1 v_3 hq23) mI_X1_read (c := 1) rfl (zt_f tc_9_6 t0) wM_X9_141 mi_X1_read sl_X1_read dX9_book_23 rfl ⟨Nat.le_of_ble_eq_true rfl, Nat.le_of_ble_eq_true rfl⟩ rfl (Nat.le_of_ble_eq_true rfl) ⟨Nat.le_trans (Nat.le_of_ble_eq_true rfl) hcs.1, Nat.le_trans (Nat.le_of_ble_eq_true rfl) hcs.2⟩ ?_
    refine z_aload_n F dX9_book_26 rfl 0 rfl ?_
    refine zg_9_0 F t0 wF_X9_10 dX9_book_27 ?_
    refine zg_8_2 F (zt_f tc_9_0 t0) wF_X9_112 dX9_book_30 ?_
    refine z_if_eq F 47 dX9_book_33 rfl (fun hc => ?_) (fun hc => ?_)
    · replace h := zif_t hc h
      refine z_aload_n F dX9_book_47 rfl 0 rfl ?_
      refine zg_9_5 F t0 wF_X9_39 dX9_book_48 ?_
      refine z_aload_n F dX9_book_51 rfl 0 rfl ?_
      refine zg_9_6 F t0 wF_X9_43 dX9_book_52 ?_
      obtain ⟨v_4, hq55, h⟩ := zbindv_ex h
      refine z_callVv F [zr G (zrf x0 6)] [] (kX1_copy x.2.1 G (zrf x0 5) (zt_f tc_9_5 t0) (zrf x0 6) (zt_f tc_9_6 t0) v_3 v_4 hq55) mI_X1_copy (c := 1) rfl (zt_f tc_9_5 t0) wM_X9_144 mi_X1_copy sl_X1_copy dX9_book_55 rfl ⟨Nat.le_of_ble_eq_true rfl, Nat.le_of_ble_eq_true rfl⟩ rfl (Nat.le_of_ble_eq_true rfl) ⟨Nat.le_trans (Nat.le_of_ble_eq_true rfl) hcs.1, Nat.le_trans (Nat.le_of_ble_eq_true rfl) hcs.2⟩ ?_
      refine z_aload_n F dX9_book_58 rfl 0 rfl ?_
      refine zg_9_5 F t0 wF_X9_39 dX9_book_59 ?_
      refine zg_1_0 F (zt_f tc_9_5 t0) wF_X9_122 dX9_book_62 ?_
      cases h
      exact z_xreti F hr hk (Nat.le_of_ble_eq_true rfl) (Nat.le_of_ble_eq_true rfl) dX9_book_65
    · replace h := zif_f hc h
      refine z_aload_n F dX9_book_36 rfl 0 rfl ?_
      refine zg_9_0 F t0 wF_X9_10 dX9_book_37 ?_
      refine zg_8_2 F (zt_f tc_9_0 t0) wF_X9_112 dX9_book_40 ?_
      refine z_bipush (y := (10 : Int32)) F dX9_book_43 rfl ?_
      refine z_isub F dX9_book_45 ?_
      cases h
      exact z_xreti F hr hk (Nat.le_of_ble_eq_true rfl) (Nat.le_of_ble_eq_true rfl) dX9_book_46
  · have hM9 := kX9_openText x.2.1 G x0 t0 x1 (150 : Int32) v (c1 + 1) r_2 v_1 hfl hq5
    cases h
    exact z_xcall1 F hnt hk [.int x1, .int (150 : Int32)] [] hM9 mI_X9_openText (c := 9) rfl t0 wM_X9_104 mi_X9_openText sl_X9_openText dX9_book_5 rfl ⟨Nat.le_of_ble_eq_true rfl, Nat.le_of_ble_eq_true rfl⟩ rfl (Nat.le_of_ble_eq_true rfl) ⟨Nat.le_trans (Nat.le_of_ble_eq_true rfl) hcs.1, Nat.le_trans (Nat.le_of_ble_eq_true rfl) hcs.2⟩ (Nat.le_of_ble_eq_true rfl) (Nat.le_of_ble_eq_true rfl)

theorem dX9_told_0 : decode cX9_told 0 = .ok (.aload_n 0, 1) := by decide +kernel
theorem dX9_told_1 : decode cX9_told 1 = .ok (.iload_n 1, 1) := by decide +kernel
theorem dX9_told_2 : decode cX9_told 2 = .ok (.iconst 0, 1) := by decide +kernel
theorem dX9_told_3 : decode cX9_told 3 = .ok (.bipush 8, 2) := by decide +kernel
theorem dX9_told_5 : decode cX9_told 5 = .ok (.invokestatic 150, 3) := by decide +kernel
theorem dX9_told_8 : decode cX9_told 8 = .ok (.invokevirtual 154, 3) := by decide +kernel
theorem dX9_told_11 : decode cX9_told 11 = .ok (.iload_n 1, 1) := by decide +kernel
theorem dX9_told_12 : decode cX9_told 12 = .ok (.tableswitch 112 0 7 #[48, 56, 64, 72, 80, 88, 96, 104], 48) := by decide +kernel
theorem dX9_told_60 : decode cX9_told 60 = .ok (.aload_n 0, 1) := by decide +kernel
theorem dX9_told_61 : decode cX9_told 61 = .ok (.getfield 19, 3) := by decide +kernel
theorem dX9_told_64 : decode cX9_told 64 = .ok (.getfield 158, 3) := by decide +kernel
theorem dX9_told_67 : decode cX9_told 67 = .ok (.ireturn, 1) := by decide +kernel
theorem dX9_told_68 : decode cX9_told 68 = .ok (.aload_n 0, 1) := by decide +kernel
theorem dX9_told_69 : decode cX9_told 69 = .ok (.getfield 19, 3) := by decide +kernel
theorem dX9_told_72 : decode cX9_told 72 = .ok (.getfield 134, 3) := by decide +kernel
theorem dX9_told_75 : decode cX9_told 75 = .ok (.ireturn, 1) := by decide +kernel
theorem dX9_told_76 : decode cX9_told 76 = .ok (.aload_n 0, 1) := by decide +kernel
theorem dX9_told_77 : decode cX9_told 77 = .ok (.getfield 19, 3) := by decide +kernel
theorem dX9_told_80 : decode cX9_told 80 = .ok (.getfield 161, 3) := by decide +kernel
theorem dX9_told_83 : decode cX9_told 83 = .ok (.ireturn, 1) := by decide +kernel
theorem dX9_told_84 : decode cX9_told 84 = .ok (.aload_n 0, 1) := by decide +kernel
theorem dX9_told_85 : decode cX9_told 85 = .ok (.getfield 49, 3) := by decide +kernel
theorem dX9_told_88 : decode cX9_told 88 = .ok (.getfield 164, 3) := by decide +kernel
theorem dX9_told_91 : decode cX9_told 91 = .ok (.ireturn, 1) := by decide +kernel
theorem dX9_told_92 : decode cX9_told 92 = .ok (.aload_n 0, 1) := by decide +kernel
theorem dX9_told_93 : decode cX9_told 93 = .ok (.getfield 49, 3) := by decide +kernel
theorem dX9_told_96 : decode cX9_told 96 = .ok (.getfield 167, 3) := by decide +kernel
theorem dX9_told_99 : decode cX9_told 99 = .ok (.ireturn, 1) := by decide +kernel
theorem dX9_told_100 : decode cX9_told 100 = .ok (.aload_n 0, 1) := by decide +kernel
theorem dX9_told_101 : decode cX9_told 101 = .ok (.getfield 92, 3) := by decide +kernel
theorem dX9_told_104 : decode cX9_told 104 = .ok (.invokevirtual 170, 3) := by decide +kernel
theorem dX9_told_107 : decode cX9_told 107 = .ok (.ireturn, 1) := by decide +kernel
theorem dX9_told_108 : decode cX9_told 108 = .ok (.aload_n 0, 1) := by decide +kernel
theorem dX9_told_109 : decode cX9_told 109 = .ok (.getfield 19, 3) := by decide +kernel
theorem dX9_told_112 : decode cX9_told 112 = .ok (.getfield 174, 3) := by decide +kernel
theorem dX9_told_115 : decode cX9_told 115 = .ok (.ireturn, 1) := by decide +kernel
theorem dX9_told_116 : decode cX9_told 116 = .ok (.aload_n 0, 1) := by decide +kernel
theorem dX9_told_117 : decode cX9_told 117 = .ok (.getfield 19, 3) := by decide +kernel
theorem dX9_told_120 : decode cX9_told 120 = .ok (.getfield 177, 3) := by decide +kernel
theorem dX9_told_123 : decode cX9_told 123 = .ok (.ireturn, 1) := by decide +kernel
theorem dX9_told_124 : decode cX9_told 124 = .ok (.aload_n 0, 1) := by decide +kernel
theorem dX9_told_125 : decode cX9_told 125 = .ok (.getfield 39, 3) := by decide +kernel
theorem dX9_told_128 : decode cX9_told 128 = .ok (.getfield 122, 3) := by decide +kernel
theorem dX9_told_131 : decode cX9_told 131 = .ok (.ireturn, 1) := by decide +kernel
def fX9_told (x0 : Nat) (x1 : Int32) (v : zV) : Option (Nat × Int32 × zV) :=
  zbind (fX9_within x1 (0 : Int32) (8 : Int32) v) fun r_2 v_1 =>
  zbindx (fX9_need x0 r_2 v_1) (fun r_4 v_3 =>
    if x1 = (0 : Int32) then
      some (0, v_3 (zrf x0 1) 0, v_3)
    else
      if x1 = (1 : Int32) then
        some (0, v_3 (zrf x0 1) 1, v_3)
      else
        if x1 = (2 : Int32) then
          some (0, v_3 (zrf x0 1) 2, v_3)
        else
          if x1 = (3 : Int32) then
            some (0, v_3 (zrf x0 7) 0, v_3)
          else
            if x1 = (4 : Int32) then
              some (0, v_3 (zrf x0 7) 1, v_3)
            else
              if x1 = (5 : Int32) then
                zbind (fX3_waitingMen (zrf x0 14) v_3) fun r_6 v_5 =>
                some (0, r_6, v_5)
              else
                if x1 = (6 : Int32) then
                  some (0, v_3 (zrf x0 1) 4, v_3)
                else
                  if x1 = (7 : Int32) then
                    some (0, v_3 (zrf x0 1) 5, v_3)
                  else
                    some (0, v_3 (zrf x0 5) 0, v_3))
  (0 : Int32)
set_option maxRecDepth 4000 in
theorem kX9_told (l : Launch) (G : zG) (x0 : Nat) (t0 : zty G x0 1 9) (x1 : Int32) (v : zV) (c : Nat) (r : Int32) (w : zV) (hfl9 : l.stackTraces = false) (h : fX9_told x0 x1 v = some (c, r, w)) : zXM l yX9_told cX9_told 2 (Option.some FieldType.int) 7 144 1 6 [zr G x0, .int x1] G v c (some (.int r)) w := by
  refine zXM_of (own := RX9) (by decide) rfl (Nat.le_of_ble_eq_true rfl) (fun x hl F hr hk hcs hnt => ?_)
  subst hl
  have hfl := hfl9
  refine z_ls [(0, zr G x0), (1, .int x1)] [0, 1] rfl ?_
  unfold fX9_told at h
  refine z_aload_n F dX9_told_0 rfl 0 rfl ?_
  refine z_iload_n F dX9_told_1 rfl 1 rfl ?_
  refine z_iconst (y := (0 : Int32)) F dX9_told_2 rfl ?_
  refine z_bipush (y := (8 : Int32)) F dX9_told_3 rfl ?_
  obtain ⟨r_2, v_1, hq5, h⟩ := zbind_ex h
  refine z_callSi F [.int x1, .int (0 : Int32), .int (8 : Int32)] [zr G x0] (kX9_within x.2.1 G x1 (0 : Int32) (8 : Int32) v r_2 v_1 hq5) mI_X9_within wM_X9_150 ms_X9_within dX9_told_5 rfl ⟨Nat.le_of_ble_eq_true rfl, Nat.le_of_ble_eq_true rfl⟩ rfl (Nat.le_of_ble_eq_true rfl) ⟨Nat.le_trans (Nat.le_of_ble_eq_true rfl) hcs.1, Nat.le_trans (Nat.le_of_ble_eq_true rfl) hcs.2⟩ ?_
  rcases zbindx_ex h with ⟨r_4, v_3, hq8, h⟩ | ⟨c1, r_4, v_3, hq8, h⟩
  · have hM9 := kX9_need x.2.1 G x0 t0 r_2 v_1 0 r_4 v_3 hfl hq8
    refine z_xcall0 F [.int r_2] [] hM9 mI_X9_need (c := 9) rfl t0 wM_X9_154 mi_X9_need sl_X9_need dX9_told_8 rfl ⟨Nat.le_of_ble_eq_true rfl, Nat.le_of_ble_eq_true rfl⟩ rfl (Nat.le_of_ble_eq_true rfl) ⟨Nat.le_trans (Nat.le_of_ble_eq_true rfl) hcs.1, Nat.le_trans (Nat.le_of_ble_eq_true rfl) hcs.2⟩ ?_
    refine z_id (st := []) ?_
    refine z_iload_n F dX9_told_11 rfl 1 rfl ?_
    by_cases hc : x1 = (0 : Int32)
    · replace h := zif_t hc h
      refine z_swIn F 60 hc dX9_told_12 (by decide) (by decide) rfl rfl ?_
      refine z_aload_n F dX9_told_60 rfl 0 rfl ?_
      refine zg_9_1 F t0 wF_X9_19 dX9_told_61 ?_
      refine zg_0_0 F (zt_f tc_9_1 t0) wF_X9_158 dX9_told_64 ?_
      cases h
      exact z_xreti F hr hk (Nat.le_of_ble_eq_true rfl) (Nat.le_of_ble_eq_true rfl) dX9_told_67
    · replace h := zif_f hc h
      have hn0 := zsw_ne hc
      by_cases hc : x1 = (1 : Int32)
      · replace h := zif_t hc h
        refine z_swIn F 68 hc dX9_told_12 (by decide) (by decide) rfl rfl ?_
        refine z_aload_n F dX9_told_68 rfl 0 rfl ?_
        refine zg_9_1 F t0 wF_X9_19 dX9_told_69 ?_
        refine zg_0_1 F (zt_f tc_9_1 t0) wF_X9_134 dX9_told_72 ?_
        cases h
        exact z_xreti F hr hk (Nat.le_of_ble_eq_true rfl) (Nat.le_of_ble_eq_true rfl) dX9_told_75
      · replace h := zif_f hc h
        have hn1 := zsw_ne hc
        by_cases hc : x1 = (2 : Int32)
        · replace h := zif_t hc h
          refine z_swIn F 76 hc dX9_told_12 (by decide) (by decide) rfl rfl ?_
          refine z_aload_n F dX9_told_76 rfl 0 rfl ?_
          refine zg_9_1 F t0 wF_X9_19 dX9_told_77 ?_
          refine zg_0_2 F (zt_f tc_9_1 t0) wF_X9_161 dX9_told_80 ?_
          cases h
          exact z_xreti F hr hk (Nat.le_of_ble_eq_true rfl) (Nat.le_of_ble_eq_true rfl) dX9_told_83
        · replace h := zif_f hc h
          have hn2 := zsw_ne hc
          by_cases hc : x1 = (3 : Int32)
          · replace h := zif_t hc h
            refine z_swIn F 84 hc dX9_told_12 (by decide) (by decide) rfl rfl ?_
            refine z_aload_n F dX9_told_84 rfl 0 rfl ?_
            refine zg_9_7 F t0 wF_X9_49 dX9_told_85 ?_
            refine zg_7_0 F (zt_f tc_9_7 t0) wF_X9_164 dX9_told_88 ?_
            cases h
            exact z_xreti F hr hk (Nat.le_of_ble_eq_true rfl) (Nat.le_of_ble_eq_true rfl) dX9_told_91
          · replace h := zif_f hc h
            have hn3 := zsw_ne hc
            by_cases hc : x1 = (4 : Int32)
            · replace h := zif_t hc h
              refine z_swIn F 92 hc dX9_told_12 (by decide) (by decide) rfl rfl ?_
              refine z_aload_n F dX9_told_92 rfl 0 rfl ?_
              refine zg_9_7 F t0 wF_X9_49 dX9_told_93 ?_
              refine zg_7_1 F (zt_f tc_9_7 t0) wF_X9_167 dX9_told_96 ?_
              cases h
              exact z_xreti F hr hk (Nat.le_of_ble_eq_true rfl) (Nat.le_of_ble_eq_true rfl) dX9_told_99
            · replace h := zif_f hc h
              have hn4 := zsw_ne hc
              by_cases hc : x1 = (5 : Int32)
              · replace h := zif_t hc h
                refine z_swIn F 100 hc dX9_told_12 (by decide) (by decide) rfl rfl ?_
                refine z_aload_n F dX9_told_100 rfl 0 rfl ?_
                refine zg_9_14 F t0 wF_X9_92 dX9_told_101 ?_
                obtain ⟨r_6, v_5, hq104, h⟩ := zbind_ex h
                refine z_callVi F [] [] (kX3_waitingMen x.2.1 G (zrf x0 14) (zt_f tc_9_14 t0) v_3 r_6 v_5 hq104) mI_X3_waitingMen (c := 3) rfl (zt_f tc_9_14 t0) wM_X9_170 mi_X3_waitingMen sl_X3_waitingMen dX9_told_104 rfl ⟨Nat.le_of_ble_eq_true rfl, Nat.le_of_ble_eq_true rfl⟩ rfl (Nat.le_of_ble_eq_true rfl) ⟨Nat.le_trans (Nat.le_of_ble_eq_true rfl) hcs.1, Nat.le_trans (Nat.le_of_ble_eq_true rfl) hcs.2⟩ ?_
                cases h
                exact z_xreti F hr hk (Nat.le_of_ble_eq_true rfl) (Nat.le_of_ble_eq_true rfl) dX9_told_107
              · replace h := zif_f hc h
                have hn5 := zsw_ne hc
                by_cases hc : x1 = (6 : Int32)
                · replace h := zif_t hc h
                  refine z_swIn F 108 hc dX9_told_12 (by decide) (by decide) rfl rfl ?_
                  refine z_aload_n F dX9_told_108 rfl 0 rfl ?_
                  refine zg_9_1 F t0 wF_X9_19 dX9_told_109 ?_
                  refine zg_0_4 F (zt_f tc_9_1 t0) wF_X9_174 dX9_told_112 ?_
                  cases h
                  exact z_xreti F hr hk (Nat.le_of_ble_eq_true rfl) (Nat.le_of_ble_eq_true rfl) dX9_told_115
                · replace h := zif_f hc h
                  have hn6 := zsw_ne hc
                  by_cases hc : x1 = (7 : Int32)
                  · replace h := zif_t hc h
                    refine z_swIn F 116 hc dX9_told_12 (by decide) (by decide) rfl rfl ?_
                    refine z_aload_n F dX9_told_116 rfl 0 rfl ?_
                    refine zg_9_1 F t0 wF_X9_19 dX9_told_117 ?_
                    refine zg_0_5 F (zt_f tc_9_1 t0) wF_X9_177 dX9_told_120 ?_
                    cases h
                    exact z_xreti F hr hk (Nat.le_of_ble_eq_true rfl) (Nat.le_of_ble_eq_true rfl) dX9_told_123
                  · replace h := zif_f hc h
                    have hn7 := zsw_ne hc
                    refine z_tableOut F 124 dX9_told_12 (by have q0 : ((0 : Int32) : Int32).toInt = 0 := rfl; have q1 : ((1 : Int32) : Int32).toInt = 1 := rfl; have q2 : ((2 : Int32) : Int32).toInt = 2 := rfl; have q3 : ((3 : Int32) : Int32).toInt = 3 := rfl; have q4 : ((4 : Int32) : Int32).toInt = 4 := rfl; have q5 : ((5 : Int32) : Int32).toInt = 5 := rfl; have q6 : ((6 : Int32) : Int32).toInt = 6 := rfl; have q7 : ((7 : Int32) : Int32).toInt = 7 := rfl; omega) rfl ?_
                    refine z_aload_n F dX9_told_124 rfl 0 rfl ?_
                    refine zg_9_5 F t0 wF_X9_39 dX9_told_125 ?_
                    refine zg_1_0 F (zt_f tc_9_5 t0) wF_X9_122 dX9_told_128 ?_
                    cases h
                    exact z_xreti F hr hk (Nat.le_of_ble_eq_true rfl) (Nat.le_of_ble_eq_true rfl) dX9_told_131
  · have hM9 := kX9_need x.2.1 G x0 t0 r_2 v_1 (c1 + 1) r_4 v_3 hfl hq8
    cases h
    exact z_xcall1 F hnt hk [.int r_2] [] hM9 mI_X9_need (c := 9) rfl t0 wM_X9_154 mi_X9_need sl_X9_need dX9_told_8 rfl ⟨Nat.le_of_ble_eq_true rfl, Nat.le_of_ble_eq_true rfl⟩ rfl (Nat.le_of_ble_eq_true rfl) ⟨Nat.le_trans (Nat.le_of_ble_eq_true rfl) hcs.1, Nat.le_trans (Nat.le_of_ble_eq_true rfl) hcs.2⟩ (Nat.le_of_ble_eq_true rfl) (Nat.le_of_ble_eq_true rfl)

theorem dX9_needMan_0 : decode cX9_needMan 0 = .ok (.iload_n 1, 1) := by decide +kernel
theorem dX9_needMan_1 : decode cX9_needMan 1 = .ok (.iconst 0, 1) := by decide +kernel
theorem dX9_needMan_2 : decode cX9_needMan 2 = .ok (.aload_n 0, 1) := by decide +kernel
theorem dX9_needMan_3 : decode cX9_needMan 3 = .ok (.getfield 19, 3) := by decide +kernel
theorem dX9_needMan_6 : decode cX9_needMan 6 = .ok (.getfield 134, 3) := by decide +kernel
theorem dX9_needMan_9 : decode cX9_needMan 9 = .ok (.iconst 1, 1) := by decide +kernel
theorem dX9_needMan_10 : decode cX9_needMan 10 = .ok (.isub, 1) := by decide +kernel
theorem dX9_needMan_11 : decode cX9_needMan 11 = .ok (.invokestatic 150, 3) := by decide +kernel
theorem dX9_needMan_14 : decode cX9_needMan 14 = .ok (.ifCond .ne 21, 3) := by decide +kernel
theorem dX9_needMan_17 : decode cX9_needMan 17 = .ok (.aload_n 0, 1) := by decide +kernel
theorem dX9_needMan_18 : decode cX9_needMan 18 = .ok (.dup, 1) := by decide +kernel
theorem dX9_needMan_19 : decode cX9_needMan 19 = .ok (.getfield 363, 3) := by decide +kernel
theorem dX9_needMan_22 : decode cX9_needMan 22 = .ok (.iconst 1, 1) := by decide +kernel
theorem dX9_needMan_23 : decode cX9_needMan 23 = .ok (.iadd, 1) := by decide +kernel
theorem dX9_needMan_24 : decode cX9_needMan 24 = .ok (.putfield 363, 3) := by decide +kernel
theorem dX9_needMan_27 : decode cX9_needMan 27 = .ok (.new 371, 3) := by decide +kernel
theorem dX9_needMan_30 : decode cX9_needMan 30 = .ok (.dup, 1) := by decide +kernel
theorem dX9_needMan_31 : decode cX9_needMan 31 = .ok (.invokespecial 373, 3) := by decide +kernel
theorem dX9_needMan_34 : decode cX9_needMan 34 = .ok (.athrow, 1) := by decide +kernel
theorem dX9_needMan_35 : decode cX9_needMan 35 = .ok (.return_, 1) := by decide +kernel
def fX9_needMan (x0 : Nat) (x1 : Int32) (v : zV) : Option (Nat × Int32 × zV) :=
  zbind (fX9_within x1 (0 : Int32) ((v (zrf x0 1) 1) - (1 : Int32)) v) fun r_2 v_1 =>
  if r_2 = (0 : Int32) then
    zlet (zup v_1 x0 15 ((v_1 x0 15) + (1 : Int32))) fun v_3 =>
    some (1, (0 : Int32), v_3)
  else
    some (0, (0 : Int32), v_1)
set_option maxRecDepth 4000 in
theorem kX9_needMan (l : Launch) (G : zG) (x0 : Nat) (t0 : zty G x0 1 9) (x1 : Int32) (v : zV) (c : Nat) (r : Int32) (w : zV) (hfl9 : l.stackTraces = false) (h : fX9_needMan x0 x1 v = some (c, r, w)) : zXM l yX9_needMan cX9_needMan 2 (Option.none : Option FieldType) 6 110 1 6 [zr G x0, .int x1] G v c none w := by
  refine zXM_of (own := RX9) (by decide) rfl (Nat.le_of_ble_eq_true rfl) (fun x hl F hr hk hcs hnt => ?_)
  subst hl
  have hfl := hfl9
  refine z_ls [(0, zr G x0), (1, .int x1)] [0, 1] rfl ?_
  unfold fX9_needMan at h
  refine z_iload_n F dX9_needMan_0 rfl 1 rfl ?_
  refine z_iconst (y := (0 : Int32)) F dX9_needMan_1 rfl ?_
  refine z_aload_n F dX9_needMan_2 rfl 0 rfl ?_
  refine zg_9_1 F t0 wF_X9_19 dX9_needMan_3 ?_
  refine zg_0_1 F (zt_f tc_9_1 t0) wF_X9_134 dX9_needMan_6 ?_
  refine z_iconst (y := (1 : Int32)) F dX9_needMan_9 rfl ?_
  refine z_isub F dX9_needMan_10 ?_
  obtain ⟨r_2, v_1, hq11, h⟩ := zbind_ex h
  refine z_callSi F [.int x1, .int (0 : Int32), .int ((v (zrf x0 1) 1) - (1 : Int32))] [] (kX9_within x.2.1 G x1 (0 : Int32) ((v (zrf x0 1) 1) - (1 : Int32)) v r_2 v_1 hq11) mI_X9_within wM_X9_150 ms_X9_within dX9_needMan_11 rfl ⟨Nat.le_of_ble_eq_true rfl, Nat.le_of_ble_eq_true rfl⟩ rfl (Nat.le_of_ble_eq_true rfl) ⟨Nat.le_trans (Nat.le_of_ble_eq_true rfl) hcs.1, Nat.le_trans (Nat.le_of_ble_eq_true rfl) hcs.2⟩ ?_
  refine z_if_ne F 35 dX9_needMan_14 rfl (fun hc => ?_) (fun hc => ?_)
  · replace h := zif_f hc h
    cases h
    exact z_xretv F hr hk (Nat.le_of_ble_eq_true rfl) (Nat.le_of_ble_eq_true rfl) dX9_needMan_35
  · replace h := zif_t hc h
    refine z_aload_n F dX9_needMan_17 rfl 0 rfl ?_
    refine z_dup F dX9_needMan_18 rfl ?_
    refine zg_9_15 F t0 wF_X9_363 dX9_needMan_19 ?_
    refine z_iconst (y := (1 : Int32)) F dX9_needMan_22 rfl ?_
    refine z_iadd F dX9_needMan_23 ?_
    refine zp_9_15 F t0 wF_X9_363 dX9_needMan_24 ?_
    obtain ⟨v_3, ev_3, h⟩ := zlet_ex h
    refine z_heap ev_3 ?_
    cases h
    exact z_xthrow F hfl hnt hk (cls := "java/util/NoSuchElementException") (names := ["java/lang/RuntimeException", "java/lang/Exception"]) rfl (by decide) (by decide) zck_X9_371 zci_N (zau_N G) zgo_N zlU zlN zlI dX9_needMan_27 dX9_needMan_30 dX9_needMan_31 dX9_needMan_34 (Nat.le_of_ble_eq_true rfl) (Nat.le_of_ble_eq_true rfl) (Nat.le_of_ble_eq_true rfl) ⟨Nat.le_trans (Nat.le_of_ble_eq_true rfl) hcs.1, Nat.le_trans (Nat.le_of_ble_eq_true rfl) hcs.2⟩ (Nat.le_of_ble_eq_true rfl) (Nat.le_of_ble_eq_true rfl)

theorem dX9_man_0 : decode cX9_man 0 = .ok (.aload_n 0, 1) := by decide +kernel
theorem dX9_man_1 : decode cX9_man 1 = .ok (.iload_n 1, 1) := by decide +kernel
theorem dX9_man_2 : decode cX9_man 2 = .ok (.invokevirtual 180, 3) := by decide +kernel
theorem dX9_man_5 : decode cX9_man 5 = .ok (.aload_n 0, 1) := by decide +kernel
theorem dX9_man_6 : decode cX9_man 6 = .ok (.iload_n 2, 1) := by decide +kernel
theorem dX9_man_7 : decode cX9_man 7 = .ok (.iconst 0, 1) := by decide +kernel
theorem dX9_man_8 : decode cX9_man 8 = .ok (.iconst 4, 1) := by decide +kernel
theorem dX9_man_9 : decode cX9_man 9 = .ok (.invokestatic 150, 3) := by decide +kernel
theorem dX9_man_12 : decode cX9_man 12 = .ok (.invokevirtual 154, 3) := by decide +kernel
theorem dX9_man_15 : decode cX9_man 15 = .ok (.iload_n 2, 1) := by decide +kernel
theorem dX9_man_16 : decode cX9_man 16 = .ok (.tableswitch 81 0 3 #[32, 48, 60, 69], 32) := by decide +kernel
theorem dX9_man_48 : decode cX9_man 48 = .ok (.aload_n 0, 1) := by decide +kernel
theorem dX9_man_49 : decode cX9_man 49 = .ok (.getfield 19, 3) := by decide +kernel
theorem dX9_man_52 : decode cX9_man 52 = .ok (.iload_n 1, 1) := by decide +kernel
theorem dX9_man_53 : decode cX9_man 53 = .ok (.aload_n 0, 1) := by decide +kernel
theorem dX9_man_54 : decode cX9_man 54 = .ok (.getfield 49, 3) := by decide +kernel
theorem dX9_man_57 : decode cX9_man 57 = .ok (.getfield 164, 3) := by decide +kernel
theorem dX9_man_60 : decode cX9_man 60 = .ok (.invokevirtual 183, 3) := by decide +kernel
theorem dX9_man_63 : decode cX9_man 63 = .ok (.ireturn, 1) := by decide +kernel
theorem dX9_man_64 : decode cX9_man 64 = .ok (.aload_n 0, 1) := by decide +kernel
theorem dX9_man_65 : decode cX9_man 65 = .ok (.getfield 49, 3) := by decide +kernel
theorem dX9_man_68 : decode cX9_man 68 = .ok (.getfield 187, 3) := by decide +kernel
theorem dX9_man_71 : decode cX9_man 71 = .ok (.iload_n 1, 1) := by decide +kernel
theorem dX9_man_72 : decode cX9_man 72 = .ok (.invokestatic 191, 3) := by decide +kernel
theorem dX9_man_75 : decode cX9_man 75 = .ok (.ireturn, 1) := by decide +kernel
theorem dX9_man_76 : decode cX9_man 76 = .ok (.aload_n 0, 1) := by decide +kernel
theorem dX9_man_77 : decode cX9_man 77 = .ok (.getfield 49, 3) := by decide +kernel
theorem dX9_man_80 : decode cX9_man 80 = .ok (.iload_n 1, 1) := by decide +kernel
theorem dX9_man_81 : decode cX9_man 81 = .ok (.invokevirtual 195, 3) := by decide +kernel
theorem dX9_man_84 : decode cX9_man 84 = .ok (.ireturn, 1) := by decide +kernel
theorem dX9_man_85 : decode cX9_man 85 = .ok (.aload_n 0, 1) := by decide +kernel
theorem dX9_man_86 : decode cX9_man 86 = .ok (.getfield 49, 3) := by decide +kernel
theorem dX9_man_89 : decode cX9_man 89 = .ok (.getfield 199, 3) := by decide +kernel
theorem dX9_man_92 : decode cX9_man 92 = .ok (.iload_n 1, 1) := by decide +kernel
theorem dX9_man_93 : decode cX9_man 93 = .ok (.invokestatic 191, 3) := by decide +kernel
theorem dX9_man_96 : decode cX9_man 96 = .ok (.ireturn, 1) := by decide +kernel
theorem dX9_man_97 : decode cX9_man 97 = .ok (.aload_n 0, 1) := by decide +kernel
theorem dX9_man_98 : decode cX9_man 98 = .ok (.getfield 49, 3) := by decide +kernel
theorem dX9_man_101 : decode cX9_man 101 = .ok (.getfield 202, 3) := by decide +kernel
theorem dX9_man_104 : decode cX9_man 104 = .ok (.iload_n 1, 1) := by decide +kernel
theorem dX9_man_105 : decode cX9_man 105 = .ok (.invokestatic 191, 3) := by decide +kernel
theorem dX9_man_108 : decode cX9_man 108 = .ok (.ireturn, 1) := by decide +kernel
def fX9_man (x0 : Nat) (x1 : Int32) (x2 : Int32) (v : zV) : Option (Nat × Int32 × zV) :=
  zbindx (fX9_needMan x0 x1 v) (fun r_2 v_1 =>
    zbind (fX9_within x2 (0 : Int32) (4 : Int32) v_1) fun r_4 v_3 =>
    zbindx (fX9_need x0 r_4 v_3) (fun r_6 v_5 =>
      if x2 = (0 : Int32) then
        zbind (fX0_ageIn (zrf x0 1) x1 (v_5 (zrf x0 7) 0) v_5) fun r_8 v_7 =>
        some (0, r_8, v_7)
      else
        if x2 = (1 : Int32) then
          zbind (fX9_get (zrf (zrf x0 7) 9) x1 v_5) fun r_10 v_9 =>
          some (0, r_10, v_9)
        else
          if x2 = (2 : Int32) then
            zbind (fX7_chairOf (zrf x0 7) x1 v_5) fun r_12 v_11 =>
            some (0, r_12, v_11)
          else
            if x2 = (3 : Int32) then
              zbind (fX9_get (zrf (zrf x0 7) 10) x1 v_5) fun r_14 v_13 =>
              some (0, r_14, v_13)
            else
              zbind (fX9_get (zrf (zrf x0 7) 11) x1 v_5) fun r_16 v_15 =>
              some (0, r_16, v_15))
    (0 : Int32))
  (0 : Int32)
set_option maxRecDepth 4000 in
theorem kX9_man (l : Launch) (G : zG) (x0 : Nat) (t0 : zty G x0 1 9) (x1 : Int32) (x2 : Int32) (v : zV) (c : Nat) (r : Int32) (w : zV) (hfl9 : l.stackTraces = false) (h : fX9_man x0 x1 x2 v = some (c, r, w)) : zXM l yX9_man cX9_man 3 (Option.some FieldType.int) 7 131 2 12 [zr G x0, .int x1, .int x2] G v c (some (.int r)) w := by
  refine zXM_of (own := RX9) (by decide) rfl (Nat.le_of_ble_eq_true rfl) (fun x hl F hr hk hcs hnt => ?_)
  subst hl
  have hfl := hfl9
  refine z_ls [(0, zr G x0), (1, .int x1), (2, .int x2)] [0, 1, 2] rfl ?_
  unfold fX9_man at h
  refine z_aload_n F dX9_man_0 rfl 0 rfl ?_
  refine z_iload_n F dX9_man_1 rfl 1 rfl ?_
  rcases zbindx_ex h with ⟨r_2, v_1, hq2, h⟩ | ⟨c1, r_2, v_1, hq2, h⟩
  · have hM9 := kX9_needMan x.2.1 G x0 t0 x1 v 0 r_2 v_1 hfl hq2
    refine z_xcall0 F [.int x1] [] hM9 mI_X9_needMan (c := 9) rfl t0 wM_X9_180 mi_X9_needMan sl_X9_needMan dX9_man_2 rfl ⟨Nat.le_of_ble_eq_true rfl, Nat.le_of_ble_eq_true rfl⟩ rfl (Nat.le_of_ble_eq_true rfl) ⟨Nat.le_trans (Nat.le_of_ble_eq_true rfl) hcs.1, Nat.le_trans (Nat.le_of_ble_eq_true rfl) hcs.2⟩ ?_
    refine z_id (st := []) ?_
    refine z_aload_n F dX9_man_5 rfl 0 rfl ?_
    refine z_iload_n F dX9_man_6 rfl 2 rfl ?_
    refine z_iconst (y := (0 : Int32)) F dX9_man_7 rfl ?_
    refine z_iconst (y := (4 : Int32)) F dX9_man_8 rfl ?_
    obtain ⟨r_4, v_3, hq9, h⟩ := zbind_ex h
    refine z_callSi F [.int x2, .int (0 : Int32), .int (4 : Int32)] [zr G x0] (kX9_within x.2.1 G x2 (0 : Int32) (4 : Int32) v_1 r_4 v_3 hq9) mI_X9_within wM_X9_150 ms_X9_within dX9_man_9 rfl ⟨Nat.le_of_ble_eq_true rfl, Nat.le_of_ble_eq_true rfl⟩ rfl (Nat.le_of_ble_eq_true rfl) ⟨Nat.le_trans (Nat.le_of_ble_eq_true rfl) hcs.1, Nat.le_trans (Nat.le_of_ble_eq_true rfl) hcs.2⟩ ?_
    rcases zbindx_ex h with ⟨r_6, v_5, hq12, h⟩ | ⟨c1, r_6, v_5, hq12, h⟩
    · have hM9 := kX9_need x.2.1 G x0 t0 r_4 v_3 0 r_6 v_5 hfl hq12
      refine z_xcall0 F [.int r_4] [] hM9 mI_X9_need (c := 9) rfl t0 wM_X9_154 mi_X9_need sl_X9_need dX9_man_12 rfl ⟨Nat.le_of_ble_eq_true rfl, Nat.le_of_ble_eq_true rfl⟩ rfl (Nat.le_of_ble_eq_true rfl) ⟨Nat.le_trans (Nat.le_of_ble_eq_true rfl) hcs.1, Nat.le_trans (Nat.le_of_ble_eq_true rfl) hcs.2⟩ ?_
      refine z_id (st := []) ?_
      refine z_iload_n F dX9_man_15 rfl 2 rfl ?_
      by_cases hc : x2 = (0 : Int32)
      · replace h := zif_t hc h
        refine z_swIn F 48 hc dX9_man_16 (by decide) (by decide) rfl rfl ?_
        refine z_aload_n F dX9_man_48 rfl 0 rfl ?_
        refine zg_9_1 F t0 wF_X9_19 dX9_man_49 ?_
        refine z_iload_n F dX9_man_52 rfl 1 rfl ?_
        refine z_aload_n F dX9_man_53 rfl 0 rfl ?_
        refine zg_9_7 F t0 wF_X9_49 dX9_man_54 ?_
        refine zg_7_0 F (zt_f tc_9_7 t0) wF_X9_164 dX9_man_57 ?_
        obtain ⟨r_8, v_7, hq60, h⟩ := zbind_ex h
        refine z_callVi F [.int x1, .int (v_5 (zrf x0 7) 0)] [] (kX0_ageIn x.2.1 G (zrf x0 1) (zt_f tc_9_1 t0) x1 (v_5 (zrf x0 7) 0) v_5 r_8 v_7 hq60) mI_X0_ageIn (c := 0) rfl (zt_f tc_9_1 t0) wM_X9_183 mi_X0_ageIn sl_X0_ageIn dX9_man_60 rfl ⟨Nat.le_of_ble_eq_true rfl, Nat.le_of_ble_eq_true rfl⟩ rfl (Nat.le_of_ble_eq_true rfl) ⟨Nat.le_trans (Nat.le_of_ble_eq_true rfl) hcs.1, Nat.le_trans (Nat.le_of_ble_eq_true rfl) hcs.2⟩ ?_
        cases h
        exact z_xreti F hr hk (Nat.le_of_ble_eq_true rfl) (Nat.le_of_ble_eq_true rfl) dX9_man_63
      · replace h := zif_f hc h
        have hn0 := zsw_ne hc
        by_cases hc : x2 = (1 : Int32)
        · replace h := zif_t hc h
          refine z_swIn F 64 hc dX9_man_16 (by decide) (by decide) rfl rfl ?_
          refine z_aload_n F dX9_man_64 rfl 0 rfl ?_
          refine zg_9_7 F t0 wF_X9_49 dX9_man_65 ?_
          refine zg_7_9 F (zt_f tc_9_7 t0) wF_X9_187 dX9_man_68 ?_
          refine z_iload_n F dX9_man_71 rfl 1 rfl ?_
          obtain ⟨r_10, v_9, hq72, h⟩ := zbind_ex h
          refine z_callSi F [zr G (zrf (zrf x0 7) 9), .int x1] [] (kX9_get x.2.1 G (zrf (zrf x0 7) 9) (zt_f tc_7_9 (zt_f tc_9_7 t0)) x1 v_5 r_10 v_9 hq72) mI_X9_get wM_X9_191 ms_X9_get dX9_man_72 rfl ⟨Nat.le_of_ble_eq_true rfl, Nat.le_of_ble_eq_true rfl⟩ rfl (Nat.le_of_ble_eq_true rfl) ⟨Nat.le_trans (Nat.le_of_ble_eq_true rfl) hcs.1, Nat.le_trans (Nat.le_of_ble_eq_true rfl) hcs.2⟩ ?_
          cases h
          exact z_xreti F hr hk (Nat.le_of_ble_eq_true rfl) (Nat.le_of_ble_eq_true rfl) dX9_man_75
        · replace h := zif_f hc h
          have hn1 := zsw_ne hc
          by_cases hc : x2 = (2 : Int32)
          · replace h := zif_t hc h
            refine z_swIn F 76 hc dX9_man_16 (by decide) (by decide) rfl rfl ?_
            refine z_aload_n F dX9_man_76 rfl 0 rfl ?_
            refine zg_9_7 F t0 wF_X9_49 dX9_man_77 ?_
            refine z_iload_n F dX9_man_80 rfl 1 rfl ?_
            obtain ⟨r_12, v_11, hq81, h⟩ := zbind_ex h
            refine z_callVi F [.int x1] [] (kX7_chairOf x.2.1 G (zrf x0 7) (zt_f tc_9_7 t0) x1 v_5 r_12 v_11 hq81) mI_X7_chairOf (c := 7) rfl (zt_f tc_9_7 t0) wM_X9_195 mi_X7_chairOf sl_X7_chairOf dX9_man_81 rfl ⟨Nat.le_of_ble_eq_true rfl, Nat.le_of_ble_eq_true rfl⟩ rfl (Nat.le_of_ble_eq_true rfl) ⟨Nat.le_trans (Nat.le_of_ble_eq_true rfl) hcs.1, Nat.le_trans (Nat.le_of_ble_eq_true rfl) hcs.2⟩ ?_
            cases h
            exact z_xreti F hr hk (Nat.le_of_ble_eq_true rfl) (Nat.le_of_ble_eq_true rfl) dX9_man_84
          · replace h := zif_f hc h
            have hn2 := zsw_ne hc
            by_cases hc : x2 = (3 : Int32)
            · replace h := zif_t hc h
              refine z_swIn F 85 hc dX9_man_16 (by decide) (by decide) rfl rfl ?_
              refine z_aload_n F dX9_man_85 rfl 0 rfl ?_
              refine zg_9_7 F t0 wF_X9_49 dX9_man_86 ?_
              refine zg_7_10 F (zt_f tc_9_7 t0) wF_X9_199 dX9_man_89 ?_
              refine z_iload_n F dX9_man_92 rfl 1 rfl ?_
              obtain ⟨r_14, v_13, hq93, h⟩ := zbind_ex h
              refine z_callSi F [zr G (zrf (zrf x0 7) 10), .int x1] [] (kX9_get x.2.1 G (zrf (zrf x0 7) 10) (zt_f tc_7_10 (zt_f tc_9_7 t0)) x1 v_5 r_14 v_13 hq93) mI_X9_get wM_X9_191 ms_X9_get dX9_man_93 rfl ⟨Nat.le_of_ble_eq_true rfl, Nat.le_of_ble_eq_true rfl⟩ rfl (Nat.le_of_ble_eq_true rfl) ⟨Nat.le_trans (Nat.le_of_ble_eq_true rfl) hcs.1, Nat.le_trans (Nat.le_of_ble_eq_true rfl) hcs.2⟩ ?_
              cases h
              exact z_xreti F hr hk (Nat.le_of_ble_eq_true rfl) (Nat.le_of_ble_eq_true rfl) dX9_man_96
            · replace h := zif_f hc h
              have hn3 := zsw_ne hc
              refine z_tableOut F 97 dX9_man_16 (by have q0 : ((0 : Int32) : Int32).toInt = 0 := rfl; have q1 : ((1 : Int32) : Int32).toInt = 1 := rfl; have q2 : ((2 : Int32) : Int32).toInt = 2 := rfl; have q3 : ((3 : Int32) : Int32).toInt = 3 := rfl; omega) rfl ?_
              refine z_aload_n F dX9_man_97 rfl 0 rfl ?_
              refine zg_9_7 F t0 wF_X9_49 dX9_man_98 ?_
              refine zg_7_11 F (zt_f tc_9_7 t0) wF_X9_202 dX9_man_101 ?_
              refine z_iload_n F dX9_man_104 rfl 1 rfl ?_
              obtain ⟨r_16, v_15, hq105, h⟩ := zbind_ex h
              refine z_callSi F [zr G (zrf (zrf x0 7) 11), .int x1] [] (kX9_get x.2.1 G (zrf (zrf x0 7) 11) (zt_f tc_7_11 (zt_f tc_9_7 t0)) x1 v_5 r_16 v_15 hq105) mI_X9_get wM_X9_191 ms_X9_get dX9_man_105 rfl ⟨Nat.le_of_ble_eq_true rfl, Nat.le_of_ble_eq_true rfl⟩ rfl (Nat.le_of_ble_eq_true rfl) ⟨Nat.le_trans (Nat.le_of_ble_eq_true rfl) hcs.1, Nat.le_trans (Nat.le_of_ble_eq_true rfl) hcs.2⟩ ?_
              cases h
              exact z_xreti F hr hk (Nat.le_of_ble_eq_true rfl) (Nat.le_of_ble_eq_true rfl) dX9_man_108
    · have hM9 := kX9_need x.2.1 G x0 t0 r_4 v_3 (c1 + 1) r_6 v_5 hfl hq12
      cases h
      exact z_xcall1 F hnt hk [.int r_4] [] hM9 mI_X9_need (c := 9) rfl t0 wM_X9_154 mi_X9_need sl_X9_need dX9_man_12 rfl ⟨Nat.le_of_ble_eq_true rfl, Nat.le_of_ble_eq_true rfl⟩ rfl (Nat.le_of_ble_eq_true rfl) ⟨Nat.le_trans (Nat.le_of_ble_eq_true rfl) hcs.1, Nat.le_trans (Nat.le_of_ble_eq_true rfl) hcs.2⟩ (Nat.le_of_ble_eq_true rfl) (Nat.le_of_ble_eq_true rfl)
  · have hM9 := kX9_needMan x.2.1 G x0 t0 x1 v (c1 + 1) r_2 v_1 hfl hq2
    cases h
    exact z_xcall1 F hnt hk [.int x1] [] hM9 mI_X9_needMan (c := 9) rfl t0 wM_X9_180 mi_X9_needMan sl_X9_needMan dX9_man_2 rfl ⟨Nat.le_of_ble_eq_true rfl, Nat.le_of_ble_eq_true rfl⟩ rfl (Nat.le_of_ble_eq_true rfl) ⟨Nat.le_trans (Nat.le_of_ble_eq_true rfl) hcs.1, Nat.le_trans (Nat.le_of_ble_eq_true rfl) hcs.2⟩ (Nat.le_of_ble_eq_true rfl) (Nat.le_of_ble_eq_true rfl)

theorem dX9_needQuestion_0 : decode cX9_needQuestion 0 = .ok (.iload_n 1, 1) := by decide +kernel
theorem dX9_needQuestion_1 : decode cX9_needQuestion 1 = .ok (.iconst 0, 1) := by decide +kernel
theorem dX9_needQuestion_2 : decode cX9_needQuestion 2 = .ok (.aload_n 0, 1) := by decide +kernel
theorem dX9_needQuestion_3 : decode cX9_needQuestion 3 = .ok (.getfield 19, 3) := by decide +kernel
theorem dX9_needQuestion_6 : decode cX9_needQuestion 6 = .ok (.getfield 158, 3) := by decide +kernel
theorem dX9_needQuestion_9 : decode cX9_needQuestion 9 = .ok (.iconst 1, 1) := by decide +kernel
theorem dX9_needQuestion_10 : decode cX9_needQuestion 10 = .ok (.isub, 1) := by decide +kernel
theorem dX9_needQuestion_11 : decode cX9_needQuestion 11 = .ok (.invokestatic 150, 3) := by decide +kernel
theorem dX9_needQuestion_14 : decode cX9_needQuestion 14 = .ok (.ifCond .ne 21, 3) := by decide +kernel
theorem dX9_needQuestion_17 : decode cX9_needQuestion 17 = .ok (.aload_n 0, 1) := by decide +kernel
theorem dX9_needQuestion_18 : decode cX9_needQuestion 18 = .ok (.dup, 1) := by decide +kernel
theorem dX9_needQuestion_19 : decode cX9_needQuestion 19 = .ok (.getfield 363, 3) := by decide +kernel
theorem dX9_needQuestion_22 : decode cX9_needQuestion 22 = .ok (.iconst 1, 1) := by decide +kernel
theorem dX9_needQuestion_23 : decode cX9_needQuestion 23 = .ok (.iadd, 1) := by decide +kernel
theorem dX9_needQuestion_24 : decode cX9_needQuestion 24 = .ok (.putfield 363, 3) := by decide +kernel
theorem dX9_needQuestion_27 : decode cX9_needQuestion 27 = .ok (.new 371, 3) := by decide +kernel
theorem dX9_needQuestion_30 : decode cX9_needQuestion 30 = .ok (.dup, 1) := by decide +kernel
theorem dX9_needQuestion_31 : decode cX9_needQuestion 31 = .ok (.invokespecial 373, 3) := by decide +kernel
theorem dX9_needQuestion_34 : decode cX9_needQuestion 34 = .ok (.athrow, 1) := by decide +kernel
theorem dX9_needQuestion_35 : decode cX9_needQuestion 35 = .ok (.return_, 1) := by decide +kernel
def fX9_needQuestion (x0 : Nat) (x1 : Int32) (v : zV) : Option (Nat × Int32 × zV) :=
  zbind (fX9_within x1 (0 : Int32) ((v (zrf x0 1) 0) - (1 : Int32)) v) fun r_2 v_1 =>
  if r_2 = (0 : Int32) then
    zlet (zup v_1 x0 15 ((v_1 x0 15) + (1 : Int32))) fun v_3 =>
    some (1, (0 : Int32), v_3)
  else
    some (0, (0 : Int32), v_1)
set_option maxRecDepth 4000 in
theorem kX9_needQuestion (l : Launch) (G : zG) (x0 : Nat) (t0 : zty G x0 1 9) (x1 : Int32) (v : zV) (c : Nat) (r : Int32) (w : zV) (hfl9 : l.stackTraces = false) (h : fX9_needQuestion x0 x1 v = some (c, r, w)) : zXM l yX9_needQuestion cX9_needQuestion 2 (Option.none : Option FieldType) 6 110 1 6 [zr G x0, .int x1] G v c none w := by
  refine zXM_of (own := RX9) (by decide) rfl (Nat.le_of_ble_eq_true rfl) (fun x hl F hr hk hcs hnt => ?_)
  subst hl
  have hfl := hfl9
  refine z_ls [(0, zr G x0), (1, .int x1)] [0, 1] rfl ?_
  unfold fX9_needQuestion at h
  refine z_iload_n F dX9_needQuestion_0 rfl 1 rfl ?_
  refine z_iconst (y := (0 : Int32)) F dX9_needQuestion_1 rfl ?_
  refine z_aload_n F dX9_needQuestion_2 rfl 0 rfl ?_
  refine zg_9_1 F t0 wF_X9_19 dX9_needQuestion_3 ?_
  refine zg_0_0 F (zt_f tc_9_1 t0) wF_X9_158 dX9_needQuestion_6 ?_
  refine z_iconst (y := (1 : Int32)) F dX9_needQuestion_9 rfl ?_
  refine z_isub F dX9_needQuestion_10 ?_
  obtain ⟨r_2, v_1, hq11, h⟩ := zbind_ex h
  refine z_callSi F [.int x1, .int (0 : Int32), .int ((v (zrf x0 1) 0) - (1 : Int32))] [] (kX9_within x.2.1 G x1 (0 : Int32) ((v (zrf x0 1) 0) - (1 : Int32)) v r_2 v_1 hq11) mI_X9_within wM_X9_150 ms_X9_within dX9_needQuestion_11 rfl ⟨Nat.le_of_ble_eq_true rfl, Nat.le_of_ble_eq_true rfl⟩ rfl (Nat.le_of_ble_eq_true rfl) ⟨Nat.le_trans (Nat.le_of_ble_eq_true rfl) hcs.1, Nat.le_trans (Nat.le_of_ble_eq_true rfl) hcs.2⟩ ?_
  refine z_if_ne F 35 dX9_needQuestion_14 rfl (fun hc => ?_) (fun hc => ?_)
  · replace h := zif_f hc h
    cases h
    exact z_xretv F hr hk (Nat.le_of_ble_eq_true rfl) (Nat.le_of_ble_eq_true rfl) dX9_needQuestion_35
  · replace h := zif_t hc h
    refine z_aload_n F dX9_needQuestion_17 rfl 0 rfl ?_
    refine z_dup F dX9_needQuestion_18 rfl ?_
    refine zg_9_15 F t0 wF_X9_363 dX9_needQuestion_19 ?_
    refine z_iconst (y := (1 : Int32)) F dX9_needQuestion_22 rfl ?_
    refine z_iadd F dX9_needQuestion_23 ?_
    refine zp_9_15 F t0 wF_X9_363 dX9_needQuestion_24 ?_
    obtain ⟨v_3, ev_3, h⟩ := zlet_ex h
    refine z_heap ev_3 ?_
    cases h
    exact z_xthrow F hfl hnt hk (cls := "java/util/NoSuchElementException") (names := ["java/lang/RuntimeException", "java/lang/Exception"]) rfl (by decide) (by decide) zck_X9_371 zci_N (zau_N G) zgo_N zlU zlN zlI dX9_needQuestion_27 dX9_needQuestion_30 dX9_needQuestion_31 dX9_needQuestion_34 (Nat.le_of_ble_eq_true rfl) (Nat.le_of_ble_eq_true rfl) (Nat.le_of_ble_eq_true rfl) ⟨Nat.le_trans (Nat.le_of_ble_eq_true rfl) hcs.1, Nat.le_trans (Nat.le_of_ble_eq_true rfl) hcs.2⟩ (Nat.le_of_ble_eq_true rfl) (Nat.le_of_ble_eq_true rfl)

theorem dX9_sides_0 : decode cX9_sides 0 = .ok (.aload_n 0, 1) := by decide +kernel
theorem dX9_sides_1 : decode cX9_sides 1 = .ok (.iload_n 1, 1) := by decide +kernel
theorem dX9_sides_2 : decode cX9_sides 2 = .ok (.invokevirtual 205, 3) := by decide +kernel
theorem dX9_sides_5 : decode cX9_sides 5 = .ok (.aload_n 0, 1) := by decide +kernel
theorem dX9_sides_6 : decode cX9_sides 6 = .ok (.getfield 19, 3) := by decide +kernel
theorem dX9_sides_9 : decode cX9_sides 9 = .ok (.getfield 208, 3) := by decide +kernel
theorem dX9_sides_12 : decode cX9_sides 12 = .ok (.iload_n 1, 1) := by decide +kernel
theorem dX9_sides_13 : decode cX9_sides 13 = .ok (.invokestatic 191, 3) := by decide +kernel
theorem dX9_sides_16 : decode cX9_sides 16 = .ok (.ireturn, 1) := by decide +kernel
def fX9_sides (x0 : Nat) (x1 : Int32) (v : zV) : Option (Nat × Int32 × zV) :=
  zbindx (fX9_needQuestion x0 x1 v) (fun r_2 v_1 =>
    zbind (fX9_get (zrf (zrf x0 1) 7) x1 v_1) fun r_4 v_3 =>
    some (0, r_4, v_3))
  (0 : Int32)
set_option maxRecDepth 4000 in
theorem kX9_sides (l : Launch) (G : zG) (x0 : Nat) (t0 : zty G x0 1 9) (x1 : Int32) (v : zV) (c : Nat) (r : Int32) (w : zV) (hfl9 : l.stackTraces = false) (h : fX9_sides x0 x1 v = some (c, r, w)) : zXM l yX9_sides cX9_sides 2 (Option.some FieldType.int) 7 131 1 6 [zr G x0, .int x1] G v c (some (.int r)) w := by
  refine zXM_of (own := RX9) (by decide) rfl (Nat.le_of_ble_eq_true rfl) (fun x hl F hr hk hcs hnt => ?_)
  subst hl
  have hfl := hfl9
  refine z_ls [(0, zr G x0), (1, .int x1)] [0, 1] rfl ?_
  unfold fX9_sides at h
  refine z_aload_n F dX9_sides_0 rfl 0 rfl ?_
  refine z_iload_n F dX9_sides_1 rfl 1 rfl ?_
  rcases zbindx_ex h with ⟨r_2, v_1, hq2, h⟩ | ⟨c1, r_2, v_1, hq2, h⟩
  · have hM9 := kX9_needQuestion x.2.1 G x0 t0 x1 v 0 r_2 v_1 hfl hq2
    refine z_xcall0 F [.int x1] [] hM9 mI_X9_needQuestion (c := 9) rfl t0 wM_X9_205 mi_X9_needQuestion sl_X9_needQuestion dX9_sides_2 rfl ⟨Nat.le_of_ble_eq_true rfl, Nat.le_of_ble_eq_true rfl⟩ rfl (Nat.le_of_ble_eq_true rfl) ⟨Nat.le_trans (Nat.le_of_ble_eq_true rfl) hcs.1, Nat.le_trans (Nat.le_of_ble_eq_true rfl) hcs.2⟩ ?_
    refine z_id (st := []) ?_
    refine z_aload_n F dX9_sides_5 rfl 0 rfl ?_
    refine zg_9_1 F t0 wF_X9_19 dX9_sides_6 ?_
    refine zg_0_7 F (zt_f tc_9_1 t0) wF_X9_208 dX9_sides_9 ?_
    refine z_iload_n F dX9_sides_12 rfl 1 rfl ?_
    obtain ⟨r_4, v_3, hq13, h⟩ := zbind_ex h
    refine z_callSi F [zr G (zrf (zrf x0 1) 7), .int x1] [] (kX9_get x.2.1 G (zrf (zrf x0 1) 7) (zt_f tc_0_7 (zt_f tc_9_1 t0)) x1 v_1 r_4 v_3 hq13) mI_X9_get wM_X9_191 ms_X9_get dX9_sides_13 rfl ⟨Nat.le_of_ble_eq_true rfl, Nat.le_of_ble_eq_true rfl⟩ rfl (Nat.le_of_ble_eq_true rfl) ⟨Nat.le_trans (Nat.le_of_ble_eq_true rfl) hcs.1, Nat.le_trans (Nat.le_of_ble_eq_true rfl) hcs.2⟩ ?_
    cases h
    exact z_xreti F hr hk (Nat.le_of_ble_eq_true rfl) (Nat.le_of_ble_eq_true rfl) dX9_sides_16
  · have hM9 := kX9_needQuestion x.2.1 G x0 t0 x1 v (c1 + 1) r_2 v_1 hfl hq2
    cases h
    exact z_xcall1 F hnt hk [.int x1] [] hM9 mI_X9_needQuestion (c := 9) rfl t0 wM_X9_205 mi_X9_needQuestion sl_X9_needQuestion dX9_sides_2 rfl ⟨Nat.le_of_ble_eq_true rfl, Nat.le_of_ble_eq_true rfl⟩ rfl (Nat.le_of_ble_eq_true rfl) ⟨Nat.le_trans (Nat.le_of_ble_eq_true rfl) hcs.1, Nat.le_trans (Nat.le_of_ble_eq_true rfl) hcs.2⟩ (Nat.le_of_ble_eq_true rfl) (Nat.le_of_ble_eq_true rfl)

theorem dX9_believes_0 : decode cX9_believes 0 = .ok (.aload_n 0, 1) := by decide +kernel
theorem dX9_believes_1 : decode cX9_believes 1 = .ok (.iload_n 1, 1) := by decide +kernel
theorem dX9_believes_2 : decode cX9_believes 2 = .ok (.invokevirtual 180, 3) := by decide +kernel
theorem dX9_believes_5 : decode cX9_believes 5 = .ok (.aload_n 0, 1) := by decide +kernel
theorem dX9_believes_6 : decode cX9_believes 6 = .ok (.iload_n 2, 1) := by decide +kernel
theorem dX9_believes_7 : decode cX9_believes 7 = .ok (.invokevirtual 205, 3) := by decide +kernel
theorem dX9_believes_10 : decode cX9_believes 10 = .ok (.aload_n 0, 1) := by decide +kernel
theorem dX9_believes_11 : decode cX9_believes 11 = .ok (.getfield 19, 3) := by decide +kernel
theorem dX9_believes_14 : decode cX9_believes 14 = .ok (.iload_n 1, 1) := by decide +kernel
theorem dX9_believes_15 : decode cX9_believes 15 = .ok (.iload_n 2, 1) := by decide +kernel
theorem dX9_believes_16 : decode cX9_believes 16 = .ok (.invokevirtual 211, 3) := by decide +kernel
theorem dX9_believes_19 : decode cX9_believes 19 = .ok (.ireturn, 1) := by decide +kernel
def fX9_believes (x0 : Nat) (x1 : Int32) (x2 : Int32) (v : zV) : Option (Nat × Int32 × zV) :=
  zbindx (fX9_needMan x0 x1 v) (fun r_2 v_1 =>
    zbindx (fX9_needQuestion x0 x2 v_1) (fun r_4 v_3 =>
      zbind (fX0_sideOf (zrf x0 1) x1 x2 v_3) fun r_6 v_5 =>
      some (0, r_6, v_5))
    (0 : Int32))
  (0 : Int32)
set_option maxRecDepth 4000 in
theorem kX9_believes (l : Launch) (G : zG) (x0 : Nat) (t0 : zty G x0 1 9) (x1 : Int32) (x2 : Int32) (v : zV) (c : Nat) (r : Int32) (w : zV) (hfl9 : l.stackTraces = false) (h : fX9_believes x0 x1 x2 v = some (c, r, w)) : zXM l yX9_believes cX9_believes 3 (Option.some FieldType.int) 7 131 2 12 [zr G x0, .int x1, .int x2] G v c (some (.int r)) w := by
  refine zXM_of (own := RX9) (by decide) rfl (Nat.le_of_ble_eq_true rfl) (fun x hl F hr hk hcs hnt => ?_)
  subst hl
  have hfl := hfl9
  refine z_ls [(0, zr G x0), (1, .int x1), (2, .int x2)] [0, 1, 2] rfl ?_
  unfold fX9_believes at h
  refine z_aload_n F dX9_believes_0 rfl 0 rfl ?_
  refine z_iload_n F dX9_believes_1 rfl 1 rfl ?_
  rcases zbindx_ex h with ⟨r_2, v_1, hq2, h⟩ | ⟨c1, r_2, v_1, hq2, h⟩
  · have hM9 := kX9_needMan x.2.1 G x0 t0 x1 v 0 r_2 v_1 hfl hq2
    refine z_xcall0 F [.int x1] [] hM9 mI_X9_needMan (c := 9) rfl t0 wM_X9_180 mi_X9_needMan sl_X9_needMan dX9_believes_2 rfl ⟨Nat.le_of_ble_eq_true rfl, Nat.le_of_ble_eq_true rfl⟩ rfl (Nat.le_of_ble_eq_true rfl) ⟨Nat.le_trans (Nat.le_of_ble_eq_true rfl) hcs.1, Nat.le_trans (Nat.le_of_ble_eq_true rfl) hcs.2⟩ ?_
    refine z_id (st := []) ?_
    refine z_aload_n F dX9_believes_5 rfl 0 rfl ?_
    refine z_iload_n F dX9_believes_6 rfl 2 rfl ?_
    rcases zbindx_ex h with ⟨r_4, v_3, hq7, h⟩ | ⟨c1, r_4, v_3, hq7, h⟩
    · have hM9 := kX9_needQuestion x.2.1 G x0 t0 x2 v_1 0 r_4 v_3 hfl hq7
      refine z_xcall0 F [.int x2] [] hM9 mI_X9_needQuestion (c := 9) rfl t0 wM_X9_205 mi_X9_needQuestion sl_X9_needQuestion dX9_believes_7 rfl ⟨Nat.le_of_ble_eq_true rfl, Nat.le_of_ble_eq_true rfl⟩ rfl (Nat.le_of_ble_eq_true rfl) ⟨Nat.le_trans (Nat.le_of_ble_eq_true rfl) hcs.1, Nat.le_trans (Nat.le_of_ble_eq_true rfl) hcs.2⟩ ?_
      refine z_id (st := []) ?_
      refine z_aload_n F dX9_believes_10 rfl 0 rfl ?_
      refine zg_9_1 F t0 wF_X9_19 dX9_believes_11 ?_
      refine z_iload_n F dX9_believes_14 rfl 1 rfl ?_
      refine z_iload_n F dX9_believes_15 rfl 2 rfl ?_
      obtain ⟨r_6, v_5, hq16, h⟩ := zbind_ex h
      refine z_callVi F [.int x1, .int x2] [] (kX0_sideOf x.2.1 G (zrf x0 1) (zt_f tc_9_1 t0) x1 x2 v_3 r_6 v_5 hq16) mI_X0_sideOf (c := 0) rfl (zt_f tc_9_1 t0) wM_X9_211 mi_X0_sideOf sl_X0_sideOf dX9_believes_16 rfl ⟨Nat.le_of_ble_eq_true rfl, Nat.le_of_ble_eq_true rfl⟩ rfl (Nat.le_of_ble_eq_true rfl) ⟨Nat.le_trans (Nat.le_of_ble_eq_true rfl) hcs.1, Nat.le_trans (Nat.le_of_ble_eq_true rfl) hcs.2⟩ ?_
      cases h
      exact z_xreti F hr hk (Nat.le_of_ble_eq_true rfl) (Nat.le_of_ble_eq_true rfl) dX9_believes_19
    · have hM9 := kX9_needQuestion x.2.1 G x0 t0 x2 v_1 (c1 + 1) r_4 v_3 hfl hq7
      cases h
      exact z_xcall1 F hnt hk [.int x2] [] hM9 mI_X9_needQuestion (c := 9) rfl t0 wM_X9_205 mi_X9_needQuestion sl_X9_needQuestion dX9_believes_7 rfl ⟨Nat.le_of_ble_eq_true rfl, Nat.le_of_ble_eq_true rfl⟩ rfl (Nat.le_of_ble_eq_true rfl) ⟨Nat.le_trans (Nat.le_of_ble_eq_true rfl) hcs.1, Nat.le_trans (Nat.le_of_ble_eq_true rfl) hcs.2⟩ (Nat.le_of_ble_eq_true rfl) (Nat.le_of_ble_eq_true rfl)
  · have hM9 := kX9_needMan x.2.1 G x0 t0 x1 v (c1 + 1) r_2 v_1 hfl hq2
    cases h
    exact z_xcall1 F hnt hk [.int x1] [] hM9 mI_X9_needMan (c := 9) rfl t0 wM_X9_180 mi_X9_needMan sl_X9_needMan dX9_believes_2 rfl ⟨Nat.le_of_ble_eq_true rfl, Nat.le_of_ble_eq_true rfl⟩ rfl (Nat.le_of_ble_eq_true rfl) ⟨Nat.le_trans (Nat.le_of_ble_eq_true rfl) hcs.1, Nat.le_trans (Nat.le_of_ble_eq_true rfl) hcs.2⟩ (Nat.le_of_ble_eq_true rfl) (Nat.le_of_ble_eq_true rfl)

theorem dX9_chair_0 : decode cX9_chair 0 = .ok (.aload_n 0, 1) := by decide +kernel
theorem dX9_chair_1 : decode cX9_chair 1 = .ok (.iload_n 1, 1) := by decide +kernel
theorem dX9_chair_2 : decode cX9_chair 2 = .ok (.iconst 0, 1) := by decide +kernel
theorem dX9_chair_3 : decode cX9_chair 3 = .ok (.bipush 11, 2) := by decide +kernel
theorem dX9_chair_5 : decode cX9_chair 5 = .ok (.invokestatic 150, 3) := by decide +kernel
theorem dX9_chair_8 : decode cX9_chair 8 = .ok (.invokevirtual 154, 3) := by decide +kernel
theorem dX9_chair_11 : decode cX9_chair 11 = .ok (.aload_n 0, 1) := by decide +kernel
theorem dX9_chair_12 : decode cX9_chair 12 = .ok (.getfield 49, 3) := by decide +kernel
theorem dX9_chair_15 : decode cX9_chair 15 = .ok (.iload_n 1, 1) := by decide +kernel
theorem dX9_chair_16 : decode cX9_chair 16 = .ok (.invokevirtual 214, 3) := by decide +kernel
theorem dX9_chair_19 : decode cX9_chair 19 = .ok (.ireturn, 1) := by decide +kernel
def fX9_chair (x0 : Nat) (x1 : Int32) (v : zV) : Option (Nat × Int32 × zV) :=
  zbind (fX9_within x1 (0 : Int32) (11 : Int32) v) fun r_2 v_1 =>
  zbindx (fX9_need x0 r_2 v_1) (fun r_4 v_3 =>
    zbind (fX7_onChair (zrf x0 7) x1 v_3) fun r_6 v_5 =>
    some (0, r_6, v_5))
  (0 : Int32)
set_option maxRecDepth 4000 in
theorem kX9_chair (l : Launch) (G : zG) (x0 : Nat) (t0 : zty G x0 1 9) (x1 : Int32) (v : zV) (c : Nat) (r : Int32) (w : zV) (hfl9 : l.stackTraces = false) (h : fX9_chair x0 x1 v = some (c, r, w)) : zXM l yX9_chair cX9_chair 2 (Option.some FieldType.int) 7 131 1 6 [zr G x0, .int x1] G v c (some (.int r)) w := by
  refine zXM_of (own := RX9) (by decide) rfl (Nat.le_of_ble_eq_true rfl) (fun x hl F hr hk hcs hnt => ?_)
  subst hl
  have hfl := hfl9
  refine z_ls [(0, zr G x0), (1, .int x1)] [0, 1] rfl ?_
  unfold fX9_chair at h
  refine z_aload_n F dX9_chair_0 rfl 0 rfl ?_
  refine z_iload_n F dX9_chair_1 rfl 1 rfl ?_
  refine z_iconst (y := (0 : Int32)) F dX9_chair_2 rfl ?_
  refine z_bipush (y := (11 : Int32)) F dX9_chair_3 rfl ?_
  obtain ⟨r_2, v_1, hq5, h⟩ := zbind_ex h
  refine z_callSi F [.int x1, .int (0 : Int32), .int (11 : Int32)] [zr G x0] (kX9_within x.2.1 G x1 (0 : Int32) (11 : Int32) v r_2 v_1 hq5) mI_X9_within wM_X9_150 ms_X9_within dX9_chair_5 rfl ⟨Nat.le_of_ble_eq_true rfl, Nat.le_of_ble_eq_true rfl⟩ rfl (Nat.le_of_ble_eq_true rfl) ⟨Nat.le_trans (Nat.le_of_ble_eq_true rfl) hcs.1, Nat.le_trans (Nat.le_of_ble_eq_true rfl) hcs.2⟩ ?_
  rcases zbindx_ex h with ⟨r_4, v_3, hq8, h⟩ | ⟨c1, r_4, v_3, hq8, h⟩
  · have hM9 := kX9_need x.2.1 G x0 t0 r_2 v_1 0 r_4 v_3 hfl hq8
    refine z_xcall0 F [.int r_2] [] hM9 mI_X9_need (c := 9) rfl t0 wM_X9_154 mi_X9_need sl_X9_need dX9_chair_8 rfl ⟨Nat.le_of_ble_eq_true rfl, Nat.le_of_ble_eq_true rfl⟩ rfl (Nat.le_of_ble_eq_true rfl) ⟨Nat.le_trans (Nat.le_of_ble_eq_true rfl) hcs.1, Nat.le_trans (Nat.le_of_ble_eq_true rfl) hcs.2⟩ ?_
    refine z_id (st := []) ?_
    refine z_aload_n F dX9_chair_11 rfl 0 rfl ?_
    refine zg_9_7 F t0 wF_X9_49 dX9_chair_12 ?_
    refine z_iload_n F dX9_chair_15 rfl 1 rfl ?_
    obtain ⟨r_6, v_5, hq16, h⟩ := zbind_ex h
    refine z_callVi F [.int x1] [] (kX7_onChair x.2.1 G (zrf x0 7) (zt_f tc_9_7 t0) x1 v_3 r_6 v_5 hq16) mI_X7_onChair (c := 7) rfl (zt_f tc_9_7 t0) wM_X9_214 mi_X7_onChair sl_X7_onChair dX9_chair_16 rfl ⟨Nat.le_of_ble_eq_true rfl, Nat.le_of_ble_eq_true rfl⟩ rfl (Nat.le_of_ble_eq_true rfl) ⟨Nat.le_trans (Nat.le_of_ble_eq_true rfl) hcs.1, Nat.le_trans (Nat.le_of_ble_eq_true rfl) hcs.2⟩ ?_
    cases h
    exact z_xreti F hr hk (Nat.le_of_ble_eq_true rfl) (Nat.le_of_ble_eq_true rfl) dX9_chair_19
  · have hM9 := kX9_need x.2.1 G x0 t0 r_2 v_1 (c1 + 1) r_4 v_3 hfl hq8
    cases h
    exact z_xcall1 F hnt hk [.int r_2] [] hM9 mI_X9_need (c := 9) rfl t0 wM_X9_154 mi_X9_need sl_X9_need dX9_chair_8 rfl ⟨Nat.le_of_ble_eq_true rfl, Nat.le_of_ble_eq_true rfl⟩ rfl (Nat.le_of_ble_eq_true rfl) ⟨Nat.le_trans (Nat.le_of_ble_eq_true rfl) hcs.1, Nat.le_trans (Nat.le_of_ble_eq_true rfl) hcs.2⟩ (Nat.le_of_ble_eq_true rfl) (Nat.le_of_ble_eq_true rfl)

theorem dX9_differs_0 : decode cX9_differs 0 = .ok (.aload_n 0, 1) := by decide +kernel
theorem dX9_differs_1 : decode cX9_differs 1 = .ok (.iload_n 1, 1) := by decide +kernel
theorem dX9_differs_2 : decode cX9_differs 2 = .ok (.invokevirtual 180, 3) := by decide +kernel
theorem dX9_differs_5 : decode cX9_differs 5 = .ok (.aload_n 0, 1) := by decide +kernel
theorem dX9_differs_6 : decode cX9_differs 6 = .ok (.iload_n 2, 1) := by decide +kernel
theorem dX9_differs_7 : decode cX9_differs 7 = .ok (.invokevirtual 180, 3) := by decide +kernel
theorem dX9_differs_10 : decode cX9_differs 10 = .ok (.aload_n 0, 1) := by decide +kernel
theorem dX9_differs_11 : decode cX9_differs 11 = .ok (.getfield 19, 3) := by decide +kernel
theorem dX9_differs_14 : decode cX9_differs 14 = .ok (.iload_n 1, 1) := by decide +kernel
theorem dX9_differs_15 : decode cX9_differs 15 = .ok (.iload_n 2, 1) := by decide +kernel
theorem dX9_differs_16 : decode cX9_differs 16 = .ok (.invokevirtual 217, 3) := by decide +kernel
theorem dX9_differs_19 : decode cX9_differs 19 = .ok (.ireturn, 1) := by decide +kernel
def fX9_differs (x0 : Nat) (x1 : Int32) (x2 : Int32) (v : zV) : Option (Nat × Int32 × zV) :=
  zbindx (fX9_needMan x0 x1 v) (fun r_2 v_1 =>
    zbindx (fX9_needMan x0 x2 v_1) (fun r_4 v_3 =>
      zbind (fX0_differing (zrf x0 1) x1 x2 v_3) fun r_6 v_5 =>
      some (0, r_6, v_5))
    (0 : Int32))
  (0 : Int32)
set_option maxRecDepth 4000 in
theorem kX9_differs (l : Launch) (G : zG) (x0 : Nat) (t0 : zty G x0 1 9) (x1 : Int32) (x2 : Int32) (v : zV) (c : Nat) (r : Int32) (w : zV) (hfl9 : l.stackTraces = false) (h : fX9_differs x0 x1 x2 v = some (c, r, w)) : zXM l yX9_differs cX9_differs 3 (Option.some FieldType.int) 7 131 2 12 [zr G x0, .int x1, .int x2] G v c (some (.int r)) w := by
  refine zXM_of (own := RX9) (by decide) rfl (Nat.le_of_ble_eq_true rfl) (fun x hl F hr hk hcs hnt => ?_)
  subst hl
  have hfl := hfl9
  refine z_ls [(0, zr G x0), (1, .int x1), (2, .int x2)] [0, 1, 2] rfl ?_
  unfold fX9_differs at h
  refine z_aload_n F dX9_differs_0 rfl 0 rfl ?_
  refine z_iload_n F dX9_differs_1 rfl 1 rfl ?_
  rcases zbindx_ex h with ⟨r_2, v_1, hq2, h⟩ | ⟨c1, r_2, v_1, hq2, h⟩
  · have hM9 := kX9_needMan x.2.1 G x0 t0 x1 v 0 r_2 v_1 hfl hq2
    refine z_xcall0 F [.int x1] [] hM9 mI_X9_needMan (c := 9) rfl t0 wM_X9_180 mi_X9_needMan sl_X9_needMan dX9_differs_2 rfl ⟨Nat.le_of_ble_eq_true rfl, Nat.le_of_ble_eq_true rfl⟩ rfl (Nat.le_of_ble_eq_true rfl) ⟨Nat.le_trans (Nat.le_of_ble_eq_true rfl) hcs.1, Nat.le_trans (Nat.le_of_ble_eq_true rfl) hcs.2⟩ ?_
    refine z_id (st := []) ?_
    refine z_aload_n F dX9_differs_5 rfl 0 rfl ?_
    refine z_iload_n F dX9_differs_6 rfl 2 rfl ?_
    rcases zbindx_ex h with ⟨r_4, v_3, hq7, h⟩ | ⟨c1, r_4, v_3, hq7, h⟩
    · have hM9 := kX9_needMan x.2.1 G x0 t0 x2 v_1 0 r_4 v_3 hfl hq7
      refine z_xcall0 F [.int x2] [] hM9 mI_X9_needMan (c := 9) rfl t0 wM_X9_180 mi_X9_needMan sl_X9_needMan dX9_differs_7 rfl ⟨Nat.le_of_ble_eq_true rfl, Nat.le_of_ble_eq_true rfl⟩ rfl (Nat.le_of_ble_eq_true rfl) ⟨Nat.le_trans (Nat.le_of_ble_eq_true rfl) hcs.1, Nat.le_trans (Nat.le_of_ble_eq_true rfl) hcs.2⟩ ?_
      refine z_id (st := []) ?_
      refine z_aload_n F dX9_differs_10 rfl 0 rfl ?_
      refine zg_9_1 F t0 wF_X9_19 dX9_differs_11 ?_
      refine z_iload_n F dX9_differs_14 rfl 1 rfl ?_
      refine z_iload_n F dX9_differs_15 rfl 2 rfl ?_
      obtain ⟨r_6, v_5, hq16, h⟩ := zbind_ex h
      refine z_callVi F [.int x1, .int x2] [] (kX0_differing x.2.1 G (zrf x0 1) (zt_f tc_9_1 t0) x1 x2 v_3 r_6 v_5 hq16) mI_X0_differing (c := 0) rfl (zt_f tc_9_1 t0) wM_X9_217 mi_X0_differing sl_X0_differing dX9_differs_16 rfl ⟨Nat.le_of_ble_eq_true rfl, Nat.le_of_ble_eq_true rfl⟩ rfl (Nat.le_of_ble_eq_true rfl) ⟨Nat.le_trans (Nat.le_of_ble_eq_true rfl) hcs.1, Nat.le_trans (Nat.le_of_ble_eq_true rfl) hcs.2⟩ ?_
      cases h
      exact z_xreti F hr hk (Nat.le_of_ble_eq_true rfl) (Nat.le_of_ble_eq_true rfl) dX9_differs_19
    · have hM9 := kX9_needMan x.2.1 G x0 t0 x2 v_1 (c1 + 1) r_4 v_3 hfl hq7
      cases h
      exact z_xcall1 F hnt hk [.int x2] [] hM9 mI_X9_needMan (c := 9) rfl t0 wM_X9_180 mi_X9_needMan sl_X9_needMan dX9_differs_7 rfl ⟨Nat.le_of_ble_eq_true rfl, Nat.le_of_ble_eq_true rfl⟩ rfl (Nat.le_of_ble_eq_true rfl) ⟨Nat.le_trans (Nat.le_of_ble_eq_true rfl) hcs.1, Nat.le_trans (Nat.le_of_ble_eq_true rfl) hcs.2⟩ (Nat.le_of_ble_eq_true rfl) (Nat.le_of_ble_eq_true rfl)
  · have hM9 := kX9_needMan x.2.1 G x0 t0 x1 v (c1 + 1) r_2 v_1 hfl hq2
    cases h
    exact z_xcall1 F hnt hk [.int x1] [] hM9 mI_X9_needMan (c := 9) rfl t0 wM_X9_180 mi_X9_needMan sl_X9_needMan dX9_differs_2 rfl ⟨Nat.le_of_ble_eq_true rfl, Nat.le_of_ble_eq_true rfl⟩ rfl (Nat.le_of_ble_eq_true rfl) ⟨Nat.le_trans (Nat.le_of_ble_eq_true rfl) hcs.1, Nat.le_trans (Nat.le_of_ble_eq_true rfl) hcs.2⟩ (Nat.le_of_ble_eq_true rfl) (Nat.le_of_ble_eq_true rfl)

theorem dX9_score_0 : decode cX9_score 0 = .ok (.aload_n 0, 1) := by decide +kernel
theorem dX9_score_1 : decode cX9_score 1 = .ok (.iload_n 1, 1) := by decide +kernel
theorem dX9_score_2 : decode cX9_score 2 = .ok (.invokevirtual 180, 3) := by decide +kernel
theorem dX9_score_5 : decode cX9_score 5 = .ok (.aload_n 0, 1) := by decide +kernel
theorem dX9_score_6 : decode cX9_score 6 = .ok (.getfield 65, 3) := by decide +kernel
theorem dX9_score_9 : decode cX9_score 9 = .ok (.aload_n 0, 1) := by decide +kernel
theorem dX9_score_10 : decode cX9_score 10 = .ok (.getfield 49, 3) := by decide +kernel
theorem dX9_score_13 : decode cX9_score 13 = .ok (.iload_n 1, 1) := by decide +kernel
theorem dX9_score_14 : decode cX9_score 14 = .ok (.invokevirtual 220, 3) := by decide +kernel
theorem dX9_score_17 : decode cX9_score 17 = .ok (.ireturn, 1) := by decide +kernel
def fX9_score (x0 : Nat) (x1 : Int32) (v : zV) : Option (Nat × Int32 × zV) :=
  zbindx (fX9_needMan x0 x1 v) (fun r_2 v_1 =>
    zbind (fX2_scoreOf (zrf x0 11) (zrf x0 7) x1 v_1) fun r_4 v_3 =>
    some (0, r_4, v_3))
  (0 : Int32)
set_option maxRecDepth 4000 in
theorem kX9_score (l : Launch) (G : zG) (x0 : Nat) (t0 : zty G x0 1 9) (x1 : Int32) (v : zV) (c : Nat) (r : Int32) (w : zV) (hfl9 : l.stackTraces = false) (h : fX9_score x0 x1 v = some (c, r, w)) : zXM l yX9_score cX9_score 2 (Option.some FieldType.int) 7 148 1 6 [zr G x0, .int x1] G v c (some (.int r)) w := by
  refine zXM_of (own := RX9) (by decide) rfl (Nat.le_of_ble_eq_true rfl) (fun x hl F hr hk hcs hnt => ?_)
  subst hl
  have hfl := hfl9
  refine z_ls [(0, zr G x0), (1, .int x1)] [0, 1] rfl ?_
  unfold fX9_score at h
  refine z_aload_n F dX9_score_0 rfl 0 rfl ?_
  refine z_iload_n F dX9_score_1 rfl 1 rfl ?_
  rcases zbindx_ex h with ⟨r_2, v_1, hq2, h⟩ | ⟨c1, r_2, v_1, hq2, h⟩
  · have hM9 := kX9_needMan x.2.1 G x0 t0 x1 v 0 r_2 v_1 hfl hq2
    refine z_xcall0 F [.int x1] [] hM9 mI_X9_needMan (c := 9) rfl t0 wM_X9_180 mi_X9_needMan sl_X9_needMan dX9_score_2 rfl ⟨Nat.le_of_ble_eq_true rfl, Nat.le_of_ble_eq_true rfl⟩ rfl (Nat.le_of_ble_eq_true rfl) ⟨Nat.le_trans (Nat.le_of_ble_eq_true rfl) hcs.1, Nat.le_trans (Nat.le_of_ble_eq_true rfl) hcs.2⟩ ?_
    refine z_id (st := []) ?_
    refine z_aload_n F dX9_score_5 rfl 0 rfl ?_
    refine zg_9_11 F t0 wF_X9_65 dX9_score_6 ?_
    refine z_aload_n F dX9_score_9 rfl 0 rfl ?_
    refine zg_9_7 F t0 wF_X9_49 dX9_score_10 ?_
    refine z_iload_n F dX9_score_13 rfl 1 rfl ?_
    obtain ⟨r_4, v_3, hq14, h⟩ := zbind_ex h
    refine z_callVi F [zr G (zrf x0 7), .int x1] [] (kX2_scoreOf x.2.1 G (zrf x0 11) (zt_f tc_9_11 t0) (zrf x0 7) (zt_f tc_9_7 t0) x1 v_1 r_4 v_3 hq14) mI_X2_scoreOf (c := 2) rfl (zt_f tc_9_11 t0) wM_X9_220 mi_X2_scoreOf sl_X2_scoreOf dX9_score_14 rfl ⟨Nat.le_of_ble_eq_true rfl, Nat.le_of_ble_eq_true rfl⟩ rfl (Nat.le_of_ble_eq_true rfl) ⟨Nat.le_trans (Nat.le_of_ble_eq_true rfl) hcs.1, Nat.le_trans (Nat.le_of_ble_eq_true rfl) hcs.2⟩ ?_
    cases h
    exact z_xreti F hr hk (Nat.le_of_ble_eq_true rfl) (Nat.le_of_ble_eq_true rfl) dX9_score_17
  · have hM9 := kX9_needMan x.2.1 G x0 t0 x1 v (c1 + 1) r_2 v_1 hfl hq2
    cases h
    exact z_xcall1 F hnt hk [.int x1] [] hM9 mI_X9_needMan (c := 9) rfl t0 wM_X9_180 mi_X9_needMan sl_X9_needMan dX9_score_2 rfl ⟨Nat.le_of_ble_eq_true rfl, Nat.le_of_ble_eq_true rfl⟩ rfl (Nat.le_of_ble_eq_true rfl) ⟨Nat.le_trans (Nat.le_of_ble_eq_true rfl) hcs.1, Nat.le_trans (Nat.le_of_ble_eq_true rfl) hcs.2⟩ (Nat.le_of_ble_eq_true rfl) (Nat.le_of_ble_eq_true rfl)

theorem dX9_years_0 : decode cX9_years 0 = .ok (.aload_n 0, 1) := by decide +kernel
theorem dX9_years_1 : decode cX9_years 1 = .ok (.iload_n 1, 1) := by decide +kernel
theorem dX9_years_2 : decode cX9_years 2 = .ok (.iconst 1, 1) := by decide +kernel
theorem dX9_years_3 : decode cX9_years 3 = .ok (.bipush 60, 2) := by decide +kernel
theorem dX9_years_5 : decode cX9_years 5 = .ok (.invokestatic 150, 3) := by decide +kernel
theorem dX9_years_8 : decode cX9_years 8 = .ok (.invokevirtual 154, 3) := by decide +kernel
theorem dX9_years_11 : decode cX9_years 11 = .ok (.iconst 0, 1) := by decide +kernel
theorem dX9_years_12 : decode cX9_years 12 = .ok (.istore_n 2, 1) := by decide +kernel
theorem dX9_years_13 : decode cX9_years 13 = .ok (.iload_n 2, 1) := by decide +kernel
theorem dX9_years_14 : decode cX9_years 14 = .ok (.iload_n 1, 1) := by decide +kernel
theorem dX9_years_15 : decode cX9_years 15 = .ok (.if_icmp .ge 34, 3) := by decide +kernel
theorem dX9_years_18 : decode cX9_years 18 = .ok (.aload_n 0, 1) := by decide +kernel
theorem dX9_years_19 : decode cX9_years 19 = .ok (.getfield 49, 3) := by decide +kernel
theorem dX9_years_22 : decode cX9_years 22 = .ok (.getfield 164, 3) := by decide +kernel
theorem dX9_years_25 : decode cX9_years 25 = .ok (.sipush 200, 3) := by decide +kernel
theorem dX9_years_28 : decode cX9_years 28 = .ok (.if_icmp .ge 21, 3) := by decide +kernel
theorem dX9_years_31 : decode cX9_years 31 = .ok (.aload_n 0, 1) := by decide +kernel
theorem dX9_years_32 : decode cX9_years 32 = .ok (.getfield 65, 3) := by decide +kernel
theorem dX9_years_35 : decode cX9_years 35 = .ok (.aload_n 0, 1) := by decide +kernel
theorem dX9_years_36 : decode cX9_years 36 = .ok (.getfield 49, 3) := by decide +kernel
theorem dX9_years_39 : decode cX9_years 39 = .ok (.invokevirtual 227, 3) := by decide +kernel
theorem dX9_years_42 : decode cX9_years 42 = .ok (.pop, 1) := by decide +kernel
theorem dX9_years_43 : decode cX9_years 43 = .ok (.iinc 2 1, 3) := by decide +kernel
theorem dX9_years_46 : decode cX9_years 46 = .ok (.goto (-33), 3) := by decide +kernel
theorem dX9_years_49 : decode cX9_years 49 = .ok (.aload_n 0, 1) := by decide +kernel
theorem dX9_years_50 : decode cX9_years 50 = .ok (.getfield 49, 3) := by decide +kernel
theorem dX9_years_53 : decode cX9_years 53 = .ok (.getfield 164, 3) := by decide +kernel
theorem dX9_years_56 : decode cX9_years 56 = .ok (.ireturn, 1) := by decide +kernel
def fX9_years_13  : Nat → Nat → Int32 → Int32 → zV → Option (Nat × Int32 × zV)
  | 0 => fun _ _ _ _ => none
  | n + 1 => fun x0 x1 x2 v =>
    if x1 ≤ x2 then
      some (0, v (zrf x0 7) 0, v)
    else
      if (200 : Int32) ≤ (v (zrf x0 7) 0) then
        some (0, v (zrf x0 7) 0, v)
      else
        zbind (fX2_pass (zrf x0 11) (zrf x0 7) v) fun r_2 v_1 =>
        (fX9_years_13 n) x0 x1 (x2 + (1 : Int32)) v_1
set_option maxRecDepth 4000 in
theorem jX9_years_13 (x : zCx) (G : zG) (F : zF x G cX9_years 3 RX9 7 214) (hr : x.2.2.2.2.2.2.2.2.1.sig.returnType = (Option.some FieldType.int)) (hk : x.2.2.2.2.2.2.2.2.1.locks = false) (hcs : 1 ≤ x.2.2.2.1.cells ∧ 6 ≤ x.2.2.2.1.slots) (hfl : x.2.1.stackTraces = false) (hnt : ∀ z ∈ x.2.2.2.2.2.2.2.2.2.exceptionTable.toList, False) (c : Nat) (r : Int32) (w : zV)  : ∀ (n : Nat) (x0 : Nat) (t0 : zty G x0 1 9) (x1 : Int32) (x2 : Int32) (v : zV), fX9_years_13 n x0 x1 x2 v = some (c, r, w) → zJ x G 3 (zXQ x G c (some (.int r)) w 1 6) 1 6 13 [(0, zr G x0), (1, .int x1), (2, .int x2)] [] v := by
  intro n
  induction n with
  | zero => intro x0 t0 x1 x2 v h; exact absurd h (by intro q; cases q)
  | succ n ih =>
    intro x0 t0 x1 x2 v h
    rw [fX9_years_13] at h
    dsimp only at h
    refine z_iload_n F dX9_years_13 rfl 2 rfl ?_
    refine z_iload_n F dX9_years_14 rfl 1 rfl ?_
    refine z_icmp_ge F 49 dX9_years_15 rfl (fun hc => ?_) (fun hc => ?_)
    · replace h := zif_t hc h
      refine z_aload_n F dX9_years_49 rfl 0 rfl ?_
      refine zg_9_7 F t0 wF_X9_49 dX9_years_50 ?_
      refine zg_7_0 F (zt_f tc_9_7 t0) wF_X9_164 dX9_years_53 ?_
      cases h
      exact z_xreti F hr hk (Nat.le_of_ble_eq_true rfl) (Nat.le_of_ble_eq_true rfl) dX9_years_56
    · replace h := zif_f hc h
      refine z_aload_n F dX9_years_18 rfl 0 rfl ?_
      refine zg_9_7 F t0 wF_X9_49 dX9_years_19 ?_
      refine zg_7_0 F (zt_f tc_9_7 t0) wF_X9_164 dX9_years_22 ?_
      refine z_sipush (y := (200 : Int32)) F dX9_years_25 rfl ?_
      refine z_icmp_ge F 49 dX9_years_28 rfl (fun hc => ?_) (fun hc => ?_)
      · replace h := zif_t hc h
        refine z_aload_n F dX9_years_49 rfl 0 rfl ?_
        refine zg_9_7 F t0 wF_X9_49 dX9_years_50 ?_
        refine zg_7_0 F (zt_f tc_9_7 t0) wF_X9_164 dX9_years_53 ?_
        cases h
        exact z_xreti F hr hk (Nat.le_of_ble_eq_true rfl) (Nat.le_of_ble_eq_true rfl) dX9_years_56
      · replace h := zif_f hc h
        refine z_aload_n F dX9_years_31 rfl 0 rfl ?_
        refine zg_9_11 F t0 wF_X9_65 dX9_years_32 ?_
        refine z_aload_n F dX9_years_35 rfl 0 rfl ?_
        refine zg_9_7 F t0 wF_X9_49 dX9_years_36 ?_
        obtain ⟨r_2, v_1, hq39, h⟩ := zbind_ex h
        refine z_callVi F [zr G (zrf x0 7)] [] (kX2_pass x.2.1 G (zrf x0 11) (zt_f tc_9_11 t0) (zrf x0 7) (zt_f tc_9_7 t0) v r_2 v_1 hq39) mI_X2_pass (c := 2) rfl (zt_f tc_9_11 t0) wM_X9_227 mi_X2_pass sl_X2_pass dX9_years_39 rfl ⟨Nat.le_of_ble_eq_true rfl, Nat.le_of_ble_eq_true rfl⟩ rfl (Nat.le_of_ble_eq_true rfl) ⟨Nat.le_trans (Nat.le_of_ble_eq_true rfl) hcs.1, Nat.le_trans (Nat.le_of_ble_eq_true rfl) hcs.2⟩ ?_
        refine z_pop F dX9_years_42 rfl ?_
        refine z_iinc F [(2, .int (x2 + (1 : Int32))), (0, zr G x0), (1, .int x1)] dX9_years_43 2 rfl rfl (Nat.le_of_ble_eq_true rfl) rfl ?_
        refine z_goto F 13 dX9_years_46 rfl ?_
        refine z_wide (cs' := 1) (sl' := 6) (Nat.le_of_ble_eq_true rfl) (Nat.le_of_ble_eq_true rfl) ?_
        refine z_ls [(0, zr G x0), (1, .int x1), (2, .int (x2 + (1 : Int32)))] [1, 2, 0] rfl ?_
        exact ih x0 t0 x1 (x2 + (1 : Int32)) v_1 h

def fX9_years (x0 : Nat) (x1 : Int32) (v : zV) : Option (Nat × Int32 × zV) :=
  zbind (fX9_within x1 (1 : Int32) (60 : Int32) v) fun r_2 v_1 =>
  zbindx (fX9_need x0 r_2 v_1) (fun r_4 v_3 =>
    fX9_years_13  zFU x0 x1 (0 : Int32) v_3)
  (0 : Int32)
set_option maxRecDepth 4000 in
theorem kX9_years (l : Launch) (G : zG) (x0 : Nat) (t0 : zty G x0 1 9) (x1 : Int32) (v : zV) (c : Nat) (r : Int32) (w : zV) (hfl9 : l.stackTraces = false) (h : fX9_years x0 x1 v = some (c, r, w)) : zXM l yX9_years cX9_years 3 (Option.some FieldType.int) 7 214 1 6 [zr G x0, .int x1] G v c (some (.int r)) w := by
  refine zXM_of (own := RX9) (by decide) rfl (Nat.le_of_ble_eq_true rfl) (fun x hl F hr hk hcs hnt => ?_)
  subst hl
  have hfl := hfl9
  refine z_ls [(0, zr G x0), (1, .int x1)] [0, 1] rfl ?_
  unfold fX9_years at h
  refine z_aload_n F dX9_years_0 rfl 0 rfl ?_
  refine z_iload_n F dX9_years_1 rfl 1 rfl ?_
  refine z_iconst (y := (1 : Int32)) F dX9_years_2 rfl ?_
  refine z_bipush (y := (60 : Int32)) F dX9_years_3 rfl ?_
  obtain ⟨r_2, v_1, hq5, h⟩ := zbind_ex h
  refine z_callSi F [.int x1, .int (1 : Int32), .int (60 : Int32)] [zr G x0] (kX9_within x.2.1 G x1 (1 : Int32) (60 : Int32) v r_2 v_1 hq5) mI_X9_within wM_X9_150 ms_X9_within dX9_years_5 rfl ⟨Nat.le_of_ble_eq_true rfl, Nat.le_of_ble_eq_true rfl⟩ rfl (Nat.le_of_ble_eq_true rfl) ⟨Nat.le_trans (Nat.le_of_ble_eq_true rfl) hcs.1, Nat.le_trans (Nat.le_of_ble_eq_true rfl) hcs.2⟩ ?_
  rcases zbindx_ex h with ⟨r_4, v_3, hq8, h⟩ | ⟨c1, r_4, v_3, hq8, h⟩
  · have hM9 := kX9_need x.2.1 G x0 t0 r_2 v_1 0 r_4 v_3 hfl hq8
    refine z_xcall0 F [.int r_2] [] hM9 mI_X9_need (c := 9) rfl t0 wM_X9_154 mi_X9_need sl_X9_need dX9_years_8 rfl ⟨Nat.le_of_ble_eq_true rfl, Nat.le_of_ble_eq_true rfl⟩ rfl (Nat.le_of_ble_eq_true rfl) ⟨Nat.le_trans (Nat.le_of_ble_eq_true rfl) hcs.1, Nat.le_trans (Nat.le_of_ble_eq_true rfl) hcs.2⟩ ?_
    refine z_id (st := []) ?_
    refine z_iconst (y := (0 : Int32)) F dX9_years_11 rfl ?_
    refine z_istore_n F [(2, .int (0 : Int32)), (0, zr G x0), (1, .int x1)] dX9_years_12 rfl (Nat.le_of_ble_eq_true rfl) rfl ?_
    refine z_wide (cs' := 1) (sl' := 6) (Nat.le_of_ble_eq_true rfl) (Nat.le_of_ble_eq_true rfl) ?_
    refine z_ls [(0, zr G x0), (1, .int x1), (2, .int (0 : Int32))] [1, 2, 0] rfl ?_
    exact jX9_years_13 x G F hr hk hcs hfl hnt c r w   zFU x0 t0 x1 (0 : Int32) v_3 h
  · have hM9 := kX9_need x.2.1 G x0 t0 r_2 v_1 (c1 + 1) r_4 v_3 hfl hq8
    cases h
    exact z_xcall1 F hnt hk [.int r_2] [] hM9 mI_X9_need (c := 9) rfl t0 wM_X9_154 mi_X9_need sl_X9_need dX9_years_8 rfl ⟨Nat.le_of_ble_eq_true rfl, Nat.le_of_ble_eq_true rfl⟩ rfl (Nat.le_of_ble_eq_true rfl) ⟨Nat.le_trans (Nat.le_of_ble_eq_true rfl) hcs.1, Nat.le_trans (Nat.le_of_ble_eq_true rfl) hcs.2⟩ (Nat.le_of_ble_eq_true rfl) (Nat.le_of_ble_eq_true rfl)

theorem dX9_undo_0 : decode cX9_undo 0 = .ok (.aload_n 0, 1) := by decide +kernel
theorem dX9_undo_1 : decode cX9_undo 1 = .ok (.iload_n 1, 1) := by decide +kernel
theorem dX9_undo_2 : decode cX9_undo 2 = .ok (.iconst 1, 1) := by decide +kernel
theorem dX9_undo_3 : decode cX9_undo 3 = .ok (.bipush 60, 2) := by decide +kernel
theorem dX9_undo_5 : decode cX9_undo 5 = .ok (.invokestatic 150, 3) := by decide +kernel
theorem dX9_undo_8 : decode cX9_undo 8 = .ok (.invokevirtual 154, 3) := by decide +kernel
theorem dX9_undo_11 : decode cX9_undo 11 = .ok (.iload_n 1, 1) := by decide +kernel
theorem dX9_undo_12 : decode cX9_undo 12 = .ok (.aload_n 0, 1) := by decide +kernel
theorem dX9_undo_13 : decode cX9_undo 13 = .ok (.getfield 49, 3) := by decide +kernel
theorem dX9_undo_16 : decode cX9_undo 16 = .ok (.getfield 164, 3) := by decide +kernel
theorem dX9_undo_19 : decode cX9_undo 19 = .ok (.aload_n 0, 1) := by decide +kernel
theorem dX9_undo_20 : decode cX9_undo 20 = .ok (.getfield 53, 3) := by decide +kernel
theorem dX9_undo_23 : decode cX9_undo 23 = .ok (.getfield 164, 3) := by decide +kernel
theorem dX9_undo_26 : decode cX9_undo 26 = .ok (.isub, 1) := by decide +kernel
theorem dX9_undo_27 : decode cX9_undo 27 = .ok (.invokestatic 231, 3) := by decide +kernel
theorem dX9_undo_30 : decode cX9_undo 30 = .ok (.istore_n 2, 1) := by decide +kernel
theorem dX9_undo_31 : decode cX9_undo 31 = .ok (.aload_n 0, 1) := by decide +kernel
theorem dX9_undo_32 : decode cX9_undo 32 = .ok (.getfield 49, 3) := by decide +kernel
theorem dX9_undo_35 : decode cX9_undo 35 = .ok (.getfield 164, 3) := by decide +kernel
theorem dX9_undo_38 : decode cX9_undo 38 = .ok (.iload_n 2, 1) := by decide +kernel
theorem dX9_undo_39 : decode cX9_undo 39 = .ok (.isub, 1) := by decide +kernel
theorem dX9_undo_40 : decode cX9_undo 40 = .ok (.istore_n 3, 1) := by decide +kernel
theorem dX9_undo_41 : decode cX9_undo 41 = .ok (.aload_n 0, 1) := by decide +kernel
theorem dX9_undo_42 : decode cX9_undo 42 = .ok (.getfield 49, 3) := by decide +kernel
theorem dX9_undo_45 : decode cX9_undo 45 = .ok (.aload_n 0, 1) := by decide +kernel
theorem dX9_undo_46 : decode cX9_undo 46 = .ok (.getfield 53, 3) := by decide +kernel
theorem dX9_undo_49 : decode cX9_undo 49 = .ok (.invokevirtual 131, 3) := by decide +kernel
theorem dX9_undo_52 : decode cX9_undo 52 = .ok (.aload_n 0, 1) := by decide +kernel
theorem dX9_undo_53 : decode cX9_undo 53 = .ok (.getfield 53, 3) := by decide +kernel
theorem dX9_undo_56 : decode cX9_undo 56 = .ok (.getfield 164, 3) := by decide +kernel
theorem dX9_undo_59 : decode cX9_undo 59 = .ok (.istore 4, 2) := by decide +kernel
theorem dX9_undo_61 : decode cX9_undo 61 = .ok (.iload 4, 2) := by decide +kernel
theorem dX9_undo_63 : decode cX9_undo 63 = .ok (.iload_n 3, 1) := by decide +kernel
theorem dX9_undo_64 : decode cX9_undo 64 = .ok (.if_icmp .ge 21, 3) := by decide +kernel
theorem dX9_undo_67 : decode cX9_undo 67 = .ok (.aload_n 0, 1) := by decide +kernel
theorem dX9_undo_68 : decode cX9_undo 68 = .ok (.getfield 65, 3) := by decide +kernel
theorem dX9_undo_71 : decode cX9_undo 71 = .ok (.aload_n 0, 1) := by decide +kernel
theorem dX9_undo_72 : decode cX9_undo 72 = .ok (.getfield 49, 3) := by decide +kernel
theorem dX9_undo_75 : decode cX9_undo 75 = .ok (.invokevirtual 227, 3) := by decide +kernel
theorem dX9_undo_78 : decode cX9_undo 78 = .ok (.pop, 1) := by decide +kernel
theorem dX9_undo_79 : decode cX9_undo 79 = .ok (.iinc 4 1, 3) := by decide +kernel
theorem dX9_undo_82 : decode cX9_undo 82 = .ok (.goto (-21), 3) := by decide +kernel
theorem dX9_undo_85 : decode cX9_undo 85 = .ok (.iload_n 2, 1) := by decide +kernel
theorem dX9_undo_86 : decode cX9_undo 86 = .ok (.ireturn, 1) := by decide +kernel
def fX9_undo_61  : Nat → Nat → Int32 → Int32 → Int32 → zV → Option (Nat × Int32 × zV)
  | 0 => fun _ _ _ _ _ => none
  | n + 1 => fun x0 x2 x3 x4 v =>
    if x3 ≤ x4 then
      some (0, x2, v)
    else
      zbind (fX2_pass (zrf x0 11) (zrf x0 7) v) fun r_2 v_1 =>
      (fX9_undo_61 n) x0 x2 x3 (x4 + (1 : Int32)) v_1
set_option maxRecDepth 4000 in
theorem jX9_undo_61 (x : zCx) (G : zG) (F : zF x G cX9_undo 5 RX9 7 214) (hr : x.2.2.2.2.2.2.2.2.1.sig.returnType = (Option.some FieldType.int)) (hk : x.2.2.2.2.2.2.2.2.1.locks = false) (hcs : 1 ≤ x.2.2.2.1.cells ∧ 6 ≤ x.2.2.2.1.slots) (hfl : x.2.1.stackTraces = false) (hnt : ∀ z ∈ x.2.2.2.2.2.2.2.2.2.exceptionTable.toList, False) (c : Nat) (r : Int32) (w : zV)  : ∀ (n : Nat) (x0 : Nat) (t0 : zty G x0 1 9) (x2 : Int32) (x3 : Int32) (x4 : Int32) (v : zV), fX9_undo_61 n x0 x2 x3 x4 v = some (c, r, w) → zJ x G 5 (zXQ x G c (some (.int r)) w 1 6) 1 6 61 [(0, zr G x0), (2, .int x2), (3, .int x3), (4, .int x4)] [] v := by
  intro n
  induction n with
  | zero => intro x0 t0 x2 x3 x4 v h; exact absurd h (by intro q; cases q)
  | succ n ih =>
    intro x0 t0 x2 x3 x4 v h
    rw [fX9_undo_61] at h
    dsimp only at h
    refine z_iload F dX9_undo_61 3 rfl ?_
    refine z_iload_n F dX9_undo_63 rfl 2 rfl ?_
    refine z_icmp_ge F 85 dX9_undo_64 rfl (fun hc => ?_) (fun hc => ?_)
    · replace h := zif_t hc h
      refine z_iload_n F dX9_undo_85 rfl 1 rfl ?_
      cases h
      exact z_xreti F hr hk (Nat.le_of_ble_eq_true rfl) (Nat.le_of_ble_eq_true rfl) dX9_undo_86
    · replace h := zif_f hc h
      refine z_aload_n F dX9_undo_67 rfl 0 rfl ?_
      refine zg_9_11 F t0 wF_X9_65 dX9_undo_68 ?_
      refine z_aload_n F dX9_undo_71 rfl 0 rfl ?_
      refine zg_9_7 F t0 wF_X9_49 dX9_undo_72 ?_
      obtain ⟨r_2, v_1, hq75, h⟩ := zbind_ex h
      refine z_callVi F [zr G (zrf x0 7)] [] (kX2_pass x.2.1 G (zrf x0 11) (zt_f tc_9_11 t0) (zrf x0 7) (zt_f tc_9_7 t0) v r_2 v_1 hq75) mI_X2_pass (c := 2) rfl (zt_f tc_9_11 t0) wM_X9_227 mi_X2_pass sl_X2_pass dX9_undo_75 rfl ⟨Nat.le_of_ble_eq_true rfl, Nat.le_of_ble_eq_true rfl⟩ rfl (Nat.le_of_ble_eq_true rfl) ⟨Nat.le_trans (Nat.le_of_ble_eq_true rfl) hcs.1, Nat.le_trans (Nat.le_of_ble_eq_true rfl) hcs.2⟩ ?_
      refine z_pop F dX9_undo_78 rfl ?_
      refine z_iinc F [(4, .int (x4 + (1 : Int32))), (0, zr G x0), (2, .int x2), (3, .int x3)] dX9_undo_79 3 rfl rfl (Nat.le_of_ble_eq_true rfl) rfl ?_
      refine z_goto F 61 dX9_undo_82 rfl ?_
      refine z_wide (cs' := 1) (sl' := 6) (Nat.le_of_ble_eq_true rfl) (Nat.le_of_ble_eq_true rfl) ?_
      refine z_ls [(0, zr G x0), (2, .int x2), (3, .int x3), (4, .int (x4 + (1 : Int32)))] [1, 2, 3, 0] rfl ?_
      exact ih x0 t0 x2 x3 (x4 + (1 : Int32)) v_1 h

def fX9_undo (x0 : Nat) (x1 : Int32) (v : zV) : Option (Nat × Int32 × zV) :=
  zbind (fX9_within x1 (1 : Int32) (60 : Int32) v) fun r_2 v_1 =>
  zbindx (fX9_need x0 r_2 v_1) (fun r_4 v_3 =>
    zlet ((v_3 (zrf x0 7) 0) - (zmin x1 ((v_3 (zrf x0 7) 0) - (v_3 (zrf x0 8) 0)))) fun y_5 =>
    zbindv (fX7_copy (zrf x0 7) (zrf x0 8) v_3) fun v_6 =>
    fX9_undo_61  zFU x0 (zmin x1 ((v_3 (zrf x0 7) 0) - (v_3 (zrf x0 8) 0))) y_5 (v_6 (zrf x0 8) 0) v_6)
  (0 : Int32)
set_option maxRecDepth 4000 in
theorem kX9_undo (l : Launch) (G : zG) (x0 : Nat) (t0 : zty G x0 1 9) (x1 : Int32) (v : zV) (c : Nat) (r : Int32) (w : zV) (hfl9 : l.stackTraces = false) (h : fX9_undo x0 x1 v = some (c, r, w)) : zXM l yX9_undo cX9_undo 5 (Option.some FieldType.int) 7 214 1 6 [zr G x0, .int x1] G v c (some (.int r)) w := by
  refine zXM_of (own := RX9) (by decide) rfl (Nat.le_of_ble_eq_true rfl) (fun x hl F hr hk hcs hnt => ?_)
  subst hl
  have hfl := hfl9
  refine z_ls [(0, zr G x0), (1, .int x1)] [0, 1] rfl ?_
  unfold fX9_undo at h
  refine z_aload_n F dX9_undo_0 rfl 0 rfl ?_
  refine z_iload_n F dX9_undo_1 rfl 1 rfl ?_
  refine z_iconst (y := (1 : Int32)) F dX9_undo_2 rfl ?_
  refine z_bipush (y := (60 : Int32)) F dX9_undo_3 rfl ?_
  obtain ⟨r_2, v_1, hq5, h⟩ := zbind_ex h
  refine z_callSi F [.int x1, .int (1 : Int32), .int (60 : Int32)] [zr G x0] (kX9_within x.2.1 G x1 (1 : Int32) (60 : Int32) v r_2 v_1 hq5) mI_X9_within wM_X9_150 ms_X9_within dX9_undo_5 rfl ⟨Nat.le_of_ble_eq_true rfl, Nat.le_of_ble_eq_true rfl⟩ rfl (Nat.le_of_ble_eq_true rfl) ⟨Nat.le_trans (Nat.le_of_ble_eq_true rfl) hcs.1, Nat.le_trans (Nat.le_of_ble_eq_true rfl) hcs.2⟩ ?_
  rcases zbindx_ex h with ⟨r_4, v_3, hq8, h⟩ | ⟨c1, r_4, v_3, hq8, h⟩
  · have hM9 := kX9_need x.2.1 G x0 t0 r_2 v_1 0 r_4 v_3 hfl hq8
    refine z_xcall0 F [.int r_2] [] hM9 mI_X9_need (c := 9) rfl t0 wM_X9_154 mi_X9_need sl_X9_need dX9_undo_8 rfl ⟨Nat.le_of_ble_eq_true rfl, Nat.le_of_ble_eq_true rfl⟩ rfl (Nat.le_of_ble_eq_true rfl) ⟨Nat.le_trans (Nat.le_of_ble_eq_true rfl) hcs.1, Nat.le_trans (Nat.le_of_ble_eq_true rfl) hcs.2⟩ ?_
    refine z_id (st := []) ?_
    refine z_iload_n F dX9_undo_11 rfl 1 rfl ?_
    refine z_aload_n F dX9_undo_12 rfl 0 rfl ?_
    refine zg_9_7 F t0 wF_X9_49 dX9_undo_13 ?_
    refine zg_7_0 F (zt_f tc_9_7 t0) wF_X9_164 dX9_undo_16 ?_
    refine z_aload_n F dX9_undo_19 rfl 0 rfl ?_
    refine zg_9_8 F t0 wF_X9_53 dX9_undo_20 ?_
    refine zg_7_0 F (zt_f tc_9_8 t0) wF_X9_164 dX9_undo_23 ?_
    refine z_isub F dX9_undo_26 ?_
    refine z_min F wM_X9_231 dX9_undo_27 (Nat.le_of_ble_eq_true rfl) (Nat.le_of_ble_eq_true rfl) (Nat.le_of_ble_eq_true rfl) ⟨Nat.le_trans (Nat.le_of_ble_eq_true rfl) hcs.1, Nat.le_trans (Nat.le_of_ble_eq_true rfl) hcs.2⟩ ?_
    refine z_istore_n F [(2, .int (zmin x1 ((v_3 (zrf x0 7) 0) - (v_3 (zrf x0 8) 0)))), (0, zr G x0), (1, .int x1)] dX9_undo_30 rfl (Nat.le_of_ble_eq_true rfl) rfl ?_
    refine z_aload_n F dX9_undo_31 rfl 1 rfl ?_
    refine zg_9_7 F t0 wF_X9_49 dX9_undo_32 ?_
    refine zg_7_0 F (zt_f tc_9_7 t0) wF_X9_164 dX9_undo_35 ?_
    refine z_iload_n F dX9_undo_38 rfl 0 rfl ?_
    refine z_isub F dX9_undo_39 ?_
    obtain ⟨y_5, ey_5, h⟩ := zlet_ex h
    refine z_topi ey_5 ?_
    refine z_istore_n F [(3, .int y_5), (2, .int (zmin x1 ((v_3 (zrf x0 7) 0) - (v_3 (zrf x0 8) 0)))), (0, zr G x0), (1, .int x1)] dX9_undo_40 rfl (Nat.le_of_ble_eq_true rfl) rfl ?_
    refine z_aload_n F dX9_undo_41 rfl 2 rfl ?_
    refine zg_9_7 F t0 wF_X9_49 dX9_undo_42 ?_
    refine z_aload_n F dX9_undo_45 rfl 2 rfl ?_
    refine zg_9_8 F t0 wF_X9_53 dX9_undo_46 ?_
    obtain ⟨v_6, hq49, h⟩ := zbindv_ex h
    refine z_callVv F [zr G (zrf x0 8)] [] (kX7_copy x.2.1 G (zrf x0 7) (zt_f tc_9_7 t0) (zrf x0 8) (zt_f tc_9_8 t0) v_3 v_6 hq49) mI_X7_copy (c := 7) rfl (zt_f tc_9_7 t0) wM_X9_131 mi_X7_copy sl_X7_copy dX9_undo_49 rfl ⟨Nat.le_of_ble_eq_true rfl, Nat.le_of_ble_eq_true rfl⟩ rfl (Nat.le_of_ble_eq_true rfl) ⟨Nat.le_trans (Nat.le_of_ble_eq_true rfl) hcs.1, Nat.le_trans (Nat.le_of_ble_eq_true rfl) hcs.2⟩ ?_
    refine z_aload_n F dX9_undo_52 rfl 2 rfl ?_
    refine zg_9_8 F t0 wF_X9_53 dX9_undo_53 ?_
    refine zg_7_0 F (zt_f tc_9_8 t0) wF_X9_164 dX9_undo_56 ?_
    refine z_istore (n := 0) F [(4, .int (v_6 (zrf x0 8) 0)), (3, .int y_5), (2, .int (zmin x1 ((v_3 (zrf x0 7) 0) - (v_3 (zrf x0 8) 0)))), (0, zr G x0), (1, .int x1)] dX9_undo_59 (Nat.le_of_ble_eq_true rfl) rfl ?_
    refine z_wide (cs' := 1) (sl' := 6) (Nat.le_of_ble_eq_true rfl) (Nat.le_of_ble_eq_true rfl) ?_
    refine z_ls [(0, zr G x0), (2, .int (zmin x1 ((v_3 (zrf x0 7) 0) - (v_3 (zrf x0 8) 0)))), (3, .int y_5), (4, .int (v_6 (zrf x0 8) 0))] [3, 2, 1, 0] rfl ?_
    exact jX9_undo_61 x G F hr hk hcs hfl hnt c r w   zFU x0 t0 (zmin x1 ((v_3 (zrf x0 7) 0) - (v_3 (zrf x0 8) 0))) y_5 (v_6 (zrf x0 8) 0) v_6 h
  · have hM9 := kX9_need x.2.1 G x0 t0 r_2 v_1 (c1 + 1) r_4 v_3 hfl hq8
    cases h
    exact z_xcall1 F hnt hk [.int r_2] [] hM9 mI_X9_need (c := 9) rfl t0 wM_X9_154 mi_X9_need sl_X9_need dX9_undo_8 rfl ⟨Nat.le_of_ble_eq_true rfl, Nat.le_of_ble_eq_true rfl⟩ rfl (Nat.le_of_ble_eq_true rfl) ⟨Nat.le_trans (Nat.le_of_ble_eq_true rfl) hcs.1, Nat.le_trans (Nat.le_of_ble_eq_true rfl) hcs.2⟩ (Nat.le_of_ble_eq_true rfl) (Nat.le_of_ble_eq_true rfl)

theorem dX9_sums_0 : decode cX9_sums 0 = .ok (.aload_n 0, 1) := by decide +kernel
theorem dX9_sums_1 : decode cX9_sums 1 = .ok (.iload_n 1, 1) := by decide +kernel
theorem dX9_sums_2 : decode cX9_sums 2 = .ok (.iconst 0, 1) := by decide +kernel
theorem dX9_sums_3 : decode cX9_sums 3 = .ok (.iconst 3, 1) := by decide +kernel
theorem dX9_sums_4 : decode cX9_sums 4 = .ok (.invokestatic 150, 3) := by decide +kernel
theorem dX9_sums_7 : decode cX9_sums 7 = .ok (.invokevirtual 154, 3) := by decide +kernel
theorem dX9_sums_10 : decode cX9_sums 10 = .ok (.iload_n 1, 1) := by decide +kernel
theorem dX9_sums_11 : decode cX9_sums 11 = .ok (.tableswitch 49 0 2 #[25, 33, 41], 25) := by decide +kernel
theorem dX9_sums_36 : decode cX9_sums 36 = .ok (.aload_n 0, 1) := by decide +kernel
theorem dX9_sums_37 : decode cX9_sums 37 = .ok (.getfield 49, 3) := by decide +kernel
theorem dX9_sums_40 : decode cX9_sums 40 = .ok (.getfield 236, 3) := by decide +kernel
theorem dX9_sums_43 : decode cX9_sums 43 = .ok (.ireturn, 1) := by decide +kernel
theorem dX9_sums_44 : decode cX9_sums 44 = .ok (.aload_n 0, 1) := by decide +kernel
theorem dX9_sums_45 : decode cX9_sums 45 = .ok (.getfield 49, 3) := by decide +kernel
theorem dX9_sums_48 : decode cX9_sums 48 = .ok (.getfield 239, 3) := by decide +kernel
theorem dX9_sums_51 : decode cX9_sums 51 = .ok (.ireturn, 1) := by decide +kernel
theorem dX9_sums_52 : decode cX9_sums 52 = .ok (.aload_n 0, 1) := by decide +kernel
theorem dX9_sums_53 : decode cX9_sums 53 = .ok (.getfield 49, 3) := by decide +kernel
theorem dX9_sums_56 : decode cX9_sums 56 = .ok (.getfield 242, 3) := by decide +kernel
theorem dX9_sums_59 : decode cX9_sums 59 = .ok (.ireturn, 1) := by decide +kernel
theorem dX9_sums_60 : decode cX9_sums 60 = .ok (.aload_n 0, 1) := by decide +kernel
theorem dX9_sums_61 : decode cX9_sums 61 = .ok (.getfield 49, 3) := by decide +kernel
theorem dX9_sums_64 : decode cX9_sums 64 = .ok (.getfield 245, 3) := by decide +kernel
theorem dX9_sums_67 : decode cX9_sums 67 = .ok (.ireturn, 1) := by decide +kernel
def fX9_sums (x0 : Nat) (x1 : Int32) (v : zV) : Option (Nat × Int32 × zV) :=
  zbind (fX9_within x1 (0 : Int32) (3 : Int32) v) fun r_2 v_1 =>
  zbindx (fX9_need x0 r_2 v_1) (fun r_4 v_3 =>
    if x1 = (0 : Int32) then
      some (0, v_3 (zrf x0 7) 2, v_3)
    else
      if x1 = (1 : Int32) then
        some (0, v_3 (zrf x0 7) 3, v_3)
      else
        if x1 = (2 : Int32) then
          some (0, v_3 (zrf x0 7) 4, v_3)
        else
          some (0, v_3 (zrf x0 7) 5, v_3))
  (0 : Int32)
set_option maxRecDepth 4000 in
theorem kX9_sums (l : Launch) (G : zG) (x0 : Nat) (t0 : zty G x0 1 9) (x1 : Int32) (v : zV) (c : Nat) (r : Int32) (w : zV) (hfl9 : l.stackTraces = false) (h : fX9_sums x0 x1 v = some (c, r, w)) : zXM l yX9_sums cX9_sums 2 (Option.some FieldType.int) 7 131 1 6 [zr G x0, .int x1] G v c (some (.int r)) w := by
  refine zXM_of (own := RX9) (by decide) rfl (Nat.le_of_ble_eq_true rfl) (fun x hl F hr hk hcs hnt => ?_)
  subst hl
  have hfl := hfl9
  refine z_ls [(0, zr G x0), (1, .int x1)] [0, 1] rfl ?_
  unfold fX9_sums at h
  refine z_aload_n F dX9_sums_0 rfl 0 rfl ?_
  refine z_iload_n F dX9_sums_1 rfl 1 rfl ?_
  refine z_iconst (y := (0 : Int32)) F dX9_sums_2 rfl ?_
  refine z_iconst (y := (3 : Int32)) F dX9_sums_3 rfl ?_
  obtain ⟨r_2, v_1, hq4, h⟩ := zbind_ex h
  refine z_callSi F [.int x1, .int (0 : Int32), .int (3 : Int32)] [zr G x0] (kX9_within x.2.1 G x1 (0 : Int32) (3 : Int32) v r_2 v_1 hq4) mI_X9_within wM_X9_150 ms_X9_within dX9_sums_4 rfl ⟨Nat.le_of_ble_eq_true rfl, Nat.le_of_ble_eq_true rfl⟩ rfl (Nat.le_of_ble_eq_true rfl) ⟨Nat.le_trans (Nat.le_of_ble_eq_true rfl) hcs.1, Nat.le_trans (Nat.le_of_ble_eq_true rfl) hcs.2⟩ ?_
  rcases zbindx_ex h with ⟨r_4, v_3, hq7, h⟩ | ⟨c1, r_4, v_3, hq7, h⟩
  · have hM9 := kX9_need x.2.1 G x0 t0 r_2 v_1 0 r_4 v_3 hfl hq7
    refine z_xcall0 F [.int r_2] [] hM9 mI_X9_need (c := 9) rfl t0 wM_X9_154 mi_X9_need sl_X9_need dX9_sums_7 rfl ⟨Nat.le_of_ble_eq_true rfl, Nat.le_of_ble_eq_true rfl⟩ rfl (Nat.le_of_ble_eq_true rfl) ⟨Nat.le_trans (Nat.le_of_ble_eq_true rfl) hcs.1, Nat.le_trans (Nat.le_of_ble_eq_true rfl) hcs.2⟩ ?_
    refine z_id (st := []) ?_
    refine z_iload_n F dX9_sums_10 rfl 1 rfl ?_
    by_cases hc : x1 = (0 : Int32)
    · replace h := zif_t hc h
      refine z_swIn F 36 hc dX9_sums_11 (by decide) (by decide) rfl rfl ?_
      refine z_aload_n F dX9_sums_36 rfl 0 rfl ?_
      refine zg_9_7 F t0 wF_X9_49 dX9_sums_37 ?_
      refine zg_7_2 F (zt_f tc_9_7 t0) wF_X9_236 dX9_sums_40 ?_
      cases h
      exact z_xreti F hr hk (Nat.le_of_ble_eq_true rfl) (Nat.le_of_ble_eq_true rfl) dX9_sums_43
    · replace h := zif_f hc h
      have hn0 := zsw_ne hc
      by_cases hc : x1 = (1 : Int32)
      · replace h := zif_t hc h
        refine z_swIn F 44 hc dX9_sums_11 (by decide) (by decide) rfl rfl ?_
        refine z_aload_n F dX9_sums_44 rfl 0 rfl ?_
        refine zg_9_7 F t0 wF_X9_49 dX9_sums_45 ?_
        refine zg_7_3 F (zt_f tc_9_7 t0) wF_X9_239 dX9_sums_48 ?_
        cases h
        exact z_xreti F hr hk (Nat.le_of_ble_eq_true rfl) (Nat.le_of_ble_eq_true rfl) dX9_sums_51
      · replace h := zif_f hc h
        have hn1 := zsw_ne hc
        by_cases hc : x1 = (2 : Int32)
        · replace h := zif_t hc h
          refine z_swIn F 52 hc dX9_sums_11 (by decide) (by decide) rfl rfl ?_
          refine z_aload_n F dX9_sums_52 rfl 0 rfl ?_
          refine zg_9_7 F t0 wF_X9_49 dX9_sums_53 ?_
          refine zg_7_4 F (zt_f tc_9_7 t0) wF_X9_242 dX9_sums_56 ?_
          cases h
          exact z_xreti F hr hk (Nat.le_of_ble_eq_true rfl) (Nat.le_of_ble_eq_true rfl) dX9_sums_59
        · replace h := zif_f hc h
          have hn2 := zsw_ne hc
          refine z_tableOut F 60 dX9_sums_11 (by have q0 : ((0 : Int32) : Int32).toInt = 0 := rfl; have q1 : ((1 : Int32) : Int32).toInt = 1 := rfl; have q2 : ((2 : Int32) : Int32).toInt = 2 := rfl; omega) rfl ?_
          refine z_aload_n F dX9_sums_60 rfl 0 rfl ?_
          refine zg_9_7 F t0 wF_X9_49 dX9_sums_61 ?_
          refine zg_7_5 F (zt_f tc_9_7 t0) wF_X9_245 dX9_sums_64 ?_
          cases h
          exact z_xreti F hr hk (Nat.le_of_ble_eq_true rfl) (Nat.le_of_ble_eq_true rfl) dX9_sums_67
  · have hM9 := kX9_need x.2.1 G x0 t0 r_2 v_1 (c1 + 1) r_4 v_3 hfl hq7
    cases h
    exact z_xcall1 F hnt hk [.int r_2] [] hM9 mI_X9_need (c := 9) rfl t0 wM_X9_154 mi_X9_need sl_X9_need dX9_sums_7 rfl ⟨Nat.le_of_ble_eq_true rfl, Nat.le_of_ble_eq_true rfl⟩ rfl (Nat.le_of_ble_eq_true rfl) ⟨Nat.le_trans (Nat.le_of_ble_eq_true rfl) hcs.1, Nat.le_trans (Nat.le_of_ble_eq_true rfl) hcs.2⟩ (Nat.le_of_ble_eq_true rfl) (Nat.le_of_ble_eq_true rfl)

theorem dX9_die_0 : decode cX9_die 0 = .ok (.aload_n 0, 1) := by decide +kernel
theorem dX9_die_1 : decode cX9_die 1 = .ok (.iload_n 1, 1) := by decide +kernel
theorem dX9_die_2 : decode cX9_die 2 = .ok (.invokevirtual 180, 3) := by decide +kernel
theorem dX9_die_5 : decode cX9_die 5 = .ok (.aload_n 0, 1) := by decide +kernel
theorem dX9_die_6 : decode cX9_die 6 = .ok (.getfield 65, 3) := by decide +kernel
theorem dX9_die_9 : decode cX9_die 9 = .ok (.aload_n 0, 1) := by decide +kernel
theorem dX9_die_10 : decode cX9_die 10 = .ok (.getfield 49, 3) := by decide +kernel
theorem dX9_die_13 : decode cX9_die 13 = .ok (.iload_n 1, 1) := by decide +kernel
theorem dX9_die_14 : decode cX9_die 14 = .ok (.invokevirtual 248, 3) := by decide +kernel
theorem dX9_die_17 : decode cX9_die 17 = .ok (.istore_n 2, 1) := by decide +kernel
theorem dX9_die_18 : decode cX9_die 18 = .ok (.iload_n 2, 1) := by decide +kernel
theorem dX9_die_19 : decode cX9_die 19 = .ok (.ifCond .le 14, 3) := by decide +kernel
theorem dX9_die_22 : decode cX9_die 22 = .ok (.aload_n 0, 1) := by decide +kernel
theorem dX9_die_23 : decode cX9_die 23 = .ok (.getfield 53, 3) := by decide +kernel
theorem dX9_die_26 : decode cX9_die 26 = .ok (.aload_n 0, 1) := by decide +kernel
theorem dX9_die_27 : decode cX9_die 27 = .ok (.getfield 49, 3) := by decide +kernel
theorem dX9_die_30 : decode cX9_die 30 = .ok (.invokevirtual 131, 3) := by decide +kernel
theorem dX9_die_33 : decode cX9_die 33 = .ok (.iload_n 2, 1) := by decide +kernel
theorem dX9_die_34 : decode cX9_die 34 = .ok (.ireturn, 1) := by decide +kernel
def fX9_die (x0 : Nat) (x1 : Int32) (v : zV) : Option (Nat × Int32 × zV) :=
  zbindx (fX9_needMan x0 x1 v) (fun r_2 v_1 =>
    zbind (fX2_kill (zrf x0 11) (zrf x0 7) x1 v_1) fun r_4 v_3 =>
    if r_4 ≤ (0 : Int32) then
      some (0, r_4, v_3)
    else
      zbindv (fX7_copy (zrf x0 8) (zrf x0 7) v_3) fun v_5 =>
      some (0, r_4, v_5))
  (0 : Int32)
set_option maxRecDepth 4000 in
theorem kX9_die (l : Launch) (G : zG) (x0 : Nat) (t0 : zty G x0 1 9) (x1 : Int32) (v : zV) (c : Nat) (r : Int32) (w : zV) (hfl9 : l.stackTraces = false) (h : fX9_die x0 x1 v = some (c, r, w)) : zXM l yX9_die cX9_die 3 (Option.some FieldType.int) 7 170 1 6 [zr G x0, .int x1] G v c (some (.int r)) w := by
  refine zXM_of (own := RX9) (by decide) rfl (Nat.le_of_ble_eq_true rfl) (fun x hl F hr hk hcs hnt => ?_)
  subst hl
  have hfl := hfl9
  refine z_ls [(0, zr G x0), (1, .int x1)] [0, 1] rfl ?_
  unfold fX9_die at h
  refine z_aload_n F dX9_die_0 rfl 0 rfl ?_
  refine z_iload_n F dX9_die_1 rfl 1 rfl ?_
  rcases zbindx_ex h with ⟨r_2, v_1, hq2, h⟩ | ⟨c1, r_2, v_1, hq2, h⟩
  · have hM9 := kX9_needMan x.2.1 G x0 t0 x1 v 0 r_2 v_1 hfl hq2
    refine z_xcall0 F [.int x1] [] hM9 mI_X9_needMan (c := 9) rfl t0 wM_X9_180 mi_X9_needMan sl_X9_needMan dX9_die_2 rfl ⟨Nat.le_of_ble_eq_true rfl, Nat.le_of_ble_eq_true rfl⟩ rfl (Nat.le_of_ble_eq_true rfl) ⟨Nat.le_trans (Nat.le_of_ble_eq_true rfl) hcs.1, Nat.le_trans (Nat.le_of_ble_eq_true rfl) hcs.2⟩ ?_
    refine z_id (st := []) ?_
    refine z_aload_n F dX9_die_5 rfl 0 rfl ?_
    refine zg_9_11 F t0 wF_X9_65 dX9_die_6 ?_
    refine z_aload_n F dX9_die_9 rfl 0 rfl ?_
    refine zg_9_7 F t0 wF_X9_49 dX9_die_10 ?_
    refine z_iload_n F dX9_die_13 rfl 1 rfl ?_
    obtain ⟨r_4, v_3, hq14, h⟩ := zbind_ex h
    refine z_callVi F [zr G (zrf x0 7), .int x1] [] (kX2_kill x.2.1 G (zrf x0 11) (zt_f tc_9_11 t0) (zrf x0 7) (zt_f tc_9_7 t0) x1 v_1 r_4 v_3 hq14) mI_X2_kill (c := 2) rfl (zt_f tc_9_11 t0) wM_X9_248 mi_X2_kill sl_X2_kill dX9_die_14 rfl ⟨Nat.le_of_ble_eq_true rfl, Nat.le_of_ble_eq_true rfl⟩ rfl (Nat.le_of_ble_eq_true rfl) ⟨Nat.le_trans (Nat.le_of_ble_eq_true rfl) hcs.1, Nat.le_trans (Nat.le_of_ble_eq_true rfl) hcs.2⟩ ?_
    refine z_istore_n F [(2, .int r_4), (0, zr G x0), (1, .int x1)] dX9_die_17 rfl (Nat.le_of_ble_eq_true rfl) rfl ?_
    refine z_iload_n F dX9_die_18 rfl 0 rfl ?_
    refine z_if_le F 33 dX9_die_19 rfl (fun hc => ?_) (fun hc => ?_)
    · replace h := zif_t hc h
      refine z_iload_n F dX9_die_33 rfl 0 rfl ?_
      cases h
      exact z_xreti F hr hk (Nat.le_of_ble_eq_true rfl) (Nat.le_of_ble_eq_true rfl) dX9_die_34
    · replace h := zif_f hc h
      refine z_aload_n F dX9_die_22 rfl 1 rfl ?_
      refine zg_9_8 F t0 wF_X9_53 dX9_die_23 ?_
      refine z_aload_n F dX9_die_26 rfl 1 rfl ?_
      refine zg_9_7 F t0 wF_X9_49 dX9_die_27 ?_
      obtain ⟨v_5, hq30, h⟩ := zbindv_ex h
      refine z_callVv F [zr G (zrf x0 7)] [] (kX7_copy x.2.1 G (zrf x0 8) (zt_f tc_9_8 t0) (zrf x0 7) (zt_f tc_9_7 t0) v_3 v_5 hq30) mI_X7_copy (c := 7) rfl (zt_f tc_9_8 t0) wM_X9_131 mi_X7_copy sl_X7_copy dX9_die_30 rfl ⟨Nat.le_of_ble_eq_true rfl, Nat.le_of_ble_eq_true rfl⟩ rfl (Nat.le_of_ble_eq_true rfl) ⟨Nat.le_trans (Nat.le_of_ble_eq_true rfl) hcs.1, Nat.le_trans (Nat.le_of_ble_eq_true rfl) hcs.2⟩ ?_
      refine z_iload_n F dX9_die_33 rfl 0 rfl ?_
      cases h
      exact z_xreti F hr hk (Nat.le_of_ble_eq_true rfl) (Nat.le_of_ble_eq_true rfl) dX9_die_34
  · have hM9 := kX9_needMan x.2.1 G x0 t0 x1 v (c1 + 1) r_2 v_1 hfl hq2
    cases h
    exact z_xcall1 F hnt hk [.int x1] [] hM9 mI_X9_needMan (c := 9) rfl t0 wM_X9_180 mi_X9_needMan sl_X9_needMan dX9_die_2 rfl ⟨Nat.le_of_ble_eq_true rfl, Nat.le_of_ble_eq_true rfl⟩ rfl (Nat.le_of_ble_eq_true rfl) ⟨Nat.le_trans (Nat.le_of_ble_eq_true rfl) hcs.1, Nat.le_trans (Nat.le_of_ble_eq_true rfl) hcs.2⟩ (Nat.le_of_ble_eq_true rfl) (Nat.le_of_ble_eq_true rfl)

theorem dX9_praise_0 : decode cX9_praise 0 = .ok (.aload_n 0, 1) := by decide +kernel
theorem dX9_praise_1 : decode cX9_praise 1 = .ok (.iload_n 1, 1) := by decide +kernel
theorem dX9_praise_2 : decode cX9_praise 2 = .ok (.invokevirtual 180, 3) := by decide +kernel
theorem dX9_praise_5 : decode cX9_praise 5 = .ok (.aload_n 0, 1) := by decide +kernel
theorem dX9_praise_6 : decode cX9_praise 6 = .ok (.iload_n 2, 1) := by decide +kernel
theorem dX9_praise_7 : decode cX9_praise 7 = .ok (.iconst 1, 1) := by decide +kernel
theorem dX9_praise_8 : decode cX9_praise 8 = .ok (.bipush 99, 2) := by decide +kernel
theorem dX9_praise_10 : decode cX9_praise 10 = .ok (.invokestatic 150, 3) := by decide +kernel
theorem dX9_praise_13 : decode cX9_praise 13 = .ok (.invokevirtual 154, 3) := by decide +kernel
theorem dX9_praise_16 : decode cX9_praise 16 = .ok (.aload_n 0, 1) := by decide +kernel
theorem dX9_praise_17 : decode cX9_praise 17 = .ok (.getfield 49, 3) := by decide +kernel
theorem dX9_praise_20 : decode cX9_praise 20 = .ok (.iload_n 1, 1) := by decide +kernel
theorem dX9_praise_21 : decode cX9_praise 21 = .ok (.invokevirtual 251, 3) := by decide +kernel
theorem dX9_praise_24 : decode cX9_praise 24 = .ok (.ifCond .eq 15, 3) := by decide +kernel
theorem dX9_praise_27 : decode cX9_praise 27 = .ok (.aload_n 0, 1) := by decide +kernel
theorem dX9_praise_28 : decode cX9_praise 28 = .ok (.getfield 49, 3) := by decide +kernel
theorem dX9_praise_31 : decode cX9_praise 31 = .ok (.getfield 255, 3) := by decide +kernel
theorem dX9_praise_34 : decode cX9_praise 34 = .ok (.bipush 12, 2) := by decide +kernel
theorem dX9_praise_36 : decode cX9_praise 36 = .ok (.if_icmp .lt 5, 3) := by decide +kernel
theorem dX9_praise_39 : decode cX9_praise 39 = .ok (.iconst 0, 1) := by decide +kernel
theorem dX9_praise_40 : decode cX9_praise 40 = .ok (.ireturn, 1) := by decide +kernel
theorem dX9_praise_41 : decode cX9_praise 41 = .ok (.aload_n 0, 1) := by decide +kernel
theorem dX9_praise_42 : decode cX9_praise 42 = .ok (.getfield 49, 3) := by decide +kernel
theorem dX9_praise_45 : decode cX9_praise 45 = .ok (.dup, 1) := by decide +kernel
theorem dX9_praise_46 : decode cX9_praise 46 = .ok (.getfield 255, 3) := by decide +kernel
theorem dX9_praise_49 : decode cX9_praise 49 = .ok (.iconst 1, 1) := by decide +kernel
theorem dX9_praise_50 : decode cX9_praise 50 = .ok (.iadd, 1) := by decide +kernel
theorem dX9_praise_51 : decode cX9_praise 51 = .ok (.putfield 255, 3) := by decide +kernel
theorem dX9_praise_54 : decode cX9_praise 54 = .ok (.aload_n 0, 1) := by decide +kernel
theorem dX9_praise_55 : decode cX9_praise 55 = .ok (.getfield 49, 3) := by decide +kernel
theorem dX9_praise_58 : decode cX9_praise 58 = .ok (.iload_n 1, 1) := by decide +kernel
theorem dX9_praise_59 : decode cX9_praise 59 = .ok (.iload_n 2, 1) := by decide +kernel
theorem dX9_praise_60 : decode cX9_praise 60 = .ok (.invokevirtual 258, 3) := by decide +kernel
theorem dX9_praise_63 : decode cX9_praise 63 = .ok (.aload_n 0, 1) := by decide +kernel
theorem dX9_praise_64 : decode cX9_praise 64 = .ok (.getfield 53, 3) := by decide +kernel
theorem dX9_praise_67 : decode cX9_praise 67 = .ok (.aload_n 0, 1) := by decide +kernel
theorem dX9_praise_68 : decode cX9_praise 68 = .ok (.getfield 49, 3) := by decide +kernel
theorem dX9_praise_71 : decode cX9_praise 71 = .ok (.invokevirtual 131, 3) := by decide +kernel
theorem dX9_praise_74 : decode cX9_praise 74 = .ok (.iconst 1, 1) := by decide +kernel
theorem dX9_praise_75 : decode cX9_praise 75 = .ok (.ireturn, 1) := by decide +kernel
def fX9_praise (x0 : Nat) (x1 : Int32) (x2 : Int32) (v : zV) : Option (Nat × Int32 × zV) :=
  zbindx (fX9_needMan x0 x1 v) (fun r_2 v_1 =>
    zbind (fX9_within x2 (1 : Int32) (99 : Int32) v_1) fun r_4 v_3 =>
    zbindx (fX9_need x0 r_4 v_3) (fun r_6 v_5 =>
      zbind (fX7_isWaiting (zrf x0 7) x1 v_5) fun r_8 v_7 =>
      if r_8 = (0 : Int32) then
        some (0, (0 : Int32), v_7)
      else
        if (v_7 (zrf x0 7) 6) < (12 : Int32) then
          zlet (zup v_7 (zrf x0 7) 6 ((v_7 (zrf x0 7) 6) + (1 : Int32))) fun v_9 =>
          zbindv (fX7_praiseMore (zrf x0 7) x1 x2 v_9) fun v_10 =>
          zbindv (fX7_copy (zrf x0 8) (zrf x0 7) v_10) fun v_11 =>
          some (0, (1 : Int32), v_11)
        else
          some (0, (0 : Int32), v_7))
    (0 : Int32))
  (0 : Int32)
set_option maxRecDepth 4000 in
theorem kX9_praise (l : Launch) (G : zG) (x0 : Nat) (t0 : zty G x0 1 9) (x1 : Int32) (x2 : Int32) (v : zV) (c : Nat) (r : Int32) (w : zV) (hfl9 : l.stackTraces = false) (h : fX9_praise x0 x1 x2 v = some (c, r, w)) : zXM l yX9_praise cX9_praise 3 (Option.some FieldType.int) 7 131 2 12 [zr G x0, .int x1, .int x2] G v c (some (.int r)) w := by
  refine zXM_of (own := RX9) (by decide) rfl (Nat.le_of_ble_eq_true rfl) (fun x hl F hr hk hcs hnt => ?_)
  subst hl
  have hfl := hfl9
  refine z_ls [(0, zr G x0), (1, .int x1), (2, .int x2)] [0, 1, 2] rfl ?_
  unfold fX9_praise at h
  refine z_aload_n F dX9_praise_0 rfl 0 rfl ?_
  refine z_iload_n F dX9_praise_1 rfl 1 rfl ?_
  rcases zbindx_ex h with ⟨r_2, v_1, hq2, h⟩ | ⟨c1, r_2, v_1, hq2, h⟩
  · have hM9 := kX9_needMan x.2.1 G x0 t0 x1 v 0 r_2 v_1 hfl hq2
    refine z_xcall0 F [.int x1] [] hM9 mI_X9_needMan (c := 9) rfl t0 wM_X9_180 mi_X9_needMan sl_X9_needMan dX9_praise_2 rfl ⟨Nat.le_of_ble_eq_true rfl, Nat.le_of_ble_eq_true rfl⟩ rfl (Nat.le_of_ble_eq_true rfl) ⟨Nat.le_trans (Nat.le_of_ble_eq_true rfl) hcs.1, Nat.le_trans (Nat.le_of_ble_eq_true rfl) hcs.2⟩ ?_
    refine z_id (st := []) ?_
    refine z_aload_n F dX9_praise_5 rfl 0 rfl ?_
    refine z_iload_n F dX9_praise_6 rfl 2 rfl ?_
    refine z_iconst (y := (1 : Int32)) F dX9_praise_7 rfl ?_
    refine z_bipush (y := (99 : Int32)) F dX9_praise_8 rfl ?_
    obtain ⟨r_4, v_3, hq10, h⟩ := zbind_ex h
    refine z_callSi F [.int x2, .int (1 : Int32), .int (99 : Int32)] [zr G x0] (kX9_within x.2.1 G x2 (1 : Int32) (99 : Int32) v_1 r_4 v_3 hq10) mI_X9_within wM_X9_150 ms_X9_within dX9_praise_10 rfl ⟨Nat.le_of_ble_eq_true rfl, Nat.le_of_ble_eq_true rfl⟩ rfl (Nat.le_of_ble_eq_true rfl) ⟨Nat.le_trans (Nat.le_of_ble_eq_true rfl) hcs.1, Nat.le_trans (Nat.le_of_ble_eq_true rfl) hcs.2⟩ ?_
    rcases zbindx_ex h with ⟨r_6, v_5, hq13, h⟩ | ⟨c1, r_6, v_5, hq13, h⟩
    · have hM9 := kX9_need x.2.1 G x0 t0 r_4 v_3 0 r_6 v_5 hfl hq13
      refine z_xcall0 F [.int r_4] [] hM9 mI_X9_need (c := 9) rfl t0 wM_X9_154 mi_X9_need sl_X9_need dX9_praise_13 rfl ⟨Nat.le_of_ble_eq_true rfl, Nat.le_of_ble_eq_true rfl⟩ rfl (Nat.le_of_ble_eq_true rfl) ⟨Nat.le_trans (Nat.le_of_ble_eq_true rfl) hcs.1, Nat.le_trans (Nat.le_of_ble_eq_true rfl) hcs.2⟩ ?_
      refine z_id (st := []) ?_
      refine z_aload_n F dX9_praise_16 rfl 0 rfl ?_
      refine zg_9_7 F t0 wF_X9_49 dX9_praise_17 ?_
      refine z_iload_n F dX9_praise_20 rfl 1 rfl ?_
      obtain ⟨r_8, v_7, hq21, h⟩ := zbind_ex h
      refine z_callVi F [.int x1] [] (kX7_isWaiting x.2.1 G (zrf x0 7) (zt_f tc_9_7 t0) x1 v_5 r_8 v_7 hq21) mI_X7_isWaiting (c := 7) rfl (zt_f tc_9_7 t0) wM_X9_251 mi_X7_isWaiting sl_X7_isWaiting dX9_praise_21 rfl ⟨Nat.le_of_ble_eq_true rfl, Nat.le_of_ble_eq_true rfl⟩ rfl (Nat.le_of_ble_eq_true rfl) ⟨Nat.le_trans (Nat.le_of_ble_eq_true rfl) hcs.1, Nat.le_trans (Nat.le_of_ble_eq_true rfl) hcs.2⟩ ?_
      refine z_if_eq F 39 dX9_praise_24 rfl (fun hc => ?_) (fun hc => ?_)
      · replace h := zif_t hc h
        refine z_iconst (y := (0 : Int32)) F dX9_praise_39 rfl ?_
        cases h
        exact z_xreti F hr hk (Nat.le_of_ble_eq_true rfl) (Nat.le_of_ble_eq_true rfl) dX9_praise_40
      · replace h := zif_f hc h
        refine z_aload_n F dX9_praise_27 rfl 0 rfl ?_
        refine zg_9_7 F t0 wF_X9_49 dX9_praise_28 ?_
        refine zg_7_6 F (zt_f tc_9_7 t0) wF_X9_255 dX9_praise_31 ?_
        refine z_bipush (y := (12 : Int32)) F dX9_praise_34 rfl ?_
        refine z_icmp_lt F 41 dX9_praise_36 rfl (fun hc => ?_) (fun hc => ?_)
        · replace h := zif_t hc h
          refine z_aload_n F dX9_praise_41 rfl 0 rfl ?_
          refine zg_9_7 F t0 wF_X9_49 dX9_praise_42 ?_
          refine z_dup F dX9_praise_45 rfl ?_
          refine zg_7_6 F (zt_f tc_9_7 t0) wF_X9_255 dX9_praise_46 ?_
          refine z_iconst (y := (1 : Int32)) F dX9_praise_49 rfl ?_
          refine z_iadd F dX9_praise_50 ?_
          refine zp_7_6 F (zt_f tc_9_7 t0) wF_X9_255 dX9_praise_51 ?_
          obtain ⟨v_9, ev_9, h⟩ := zlet_ex h
          refine z_heap ev_9 ?_
          refine z_aload_n F dX9_praise_54 rfl 0 rfl ?_
          refine zg_9_7 F t0 wF_X9_49 dX9_praise_55 ?_
          refine z_iload_n F dX9_praise_58 rfl 1 rfl ?_
          refine z_iload_n F dX9_praise_59 rfl 2 rfl ?_
          obtain ⟨v_10, hq60, h⟩ := zbindv_ex h
          refine z_callVv F [.int x1, .int x2] [] (kX7_praiseMore x.2.1 G (zrf x0 7) (zt_f tc_9_7 t0) x1 x2 v_9 v_10 hq60) mI_X7_praiseMore (c := 7) rfl (zt_f tc_9_7 t0) wM_X9_258 mi_X7_praiseMore sl_X7_praiseMore dX9_praise_60 rfl ⟨Nat.le_of_ble_eq_true rfl, Nat.le_of_ble_eq_true rfl⟩ rfl (Nat.le_of_ble_eq_true rfl) ⟨Nat.le_trans (Nat.le_of_ble_eq_true rfl) hcs.1, Nat.le_trans (Nat.le_of_ble_eq_true rfl) hcs.2⟩ ?_
          refine z_aload_n F dX9_praise_63 rfl 0 rfl ?_
          refine zg_9_8 F t0 wF_X9_53 dX9_praise_64 ?_
          refine z_aload_n F dX9_praise_67 rfl 0 rfl ?_
          refine zg_9_7 F t0 wF_X9_49 dX9_praise_68 ?_
          obtain ⟨v_11, hq71, h⟩ := zbindv_ex h
          refine z_callVv F [zr G (zrf x0 7)] [] (kX7_copy x.2.1 G (zrf x0 8) (zt_f tc_9_8 t0) (zrf x0 7) (zt_f tc_9_7 t0) v_10 v_11 hq71) mI_X7_copy (c := 7) rfl (zt_f tc_9_8 t0) wM_X9_131 mi_X7_copy sl_X7_copy dX9_praise_71 rfl ⟨Nat.le_of_ble_eq_true rfl, Nat.le_of_ble_eq_true rfl⟩ rfl (Nat.le_of_ble_eq_true rfl) ⟨Nat.le_trans (Nat.le_of_ble_eq_true rfl) hcs.1, Nat.le_trans (Nat.le_of_ble_eq_true rfl) hcs.2⟩ ?_
          refine z_iconst (y := (1 : Int32)) F dX9_praise_74 rfl ?_
          cases h
          exact z_xreti F hr hk (Nat.le_of_ble_eq_true rfl) (Nat.le_of_ble_eq_true rfl) dX9_praise_75
        · replace h := zif_f hc h
          refine z_iconst (y := (0 : Int32)) F dX9_praise_39 rfl ?_
          cases h
          exact z_xreti F hr hk (Nat.le_of_ble_eq_true rfl) (Nat.le_of_ble_eq_true rfl) dX9_praise_40
    · have hM9 := kX9_need x.2.1 G x0 t0 r_4 v_3 (c1 + 1) r_6 v_5 hfl hq13
      cases h
      exact z_xcall1 F hnt hk [.int r_4] [] hM9 mI_X9_need (c := 9) rfl t0 wM_X9_154 mi_X9_need sl_X9_need dX9_praise_13 rfl ⟨Nat.le_of_ble_eq_true rfl, Nat.le_of_ble_eq_true rfl⟩ rfl (Nat.le_of_ble_eq_true rfl) ⟨Nat.le_trans (Nat.le_of_ble_eq_true rfl) hcs.1, Nat.le_trans (Nat.le_of_ble_eq_true rfl) hcs.2⟩ (Nat.le_of_ble_eq_true rfl) (Nat.le_of_ble_eq_true rfl)
  · have hM9 := kX9_needMan x.2.1 G x0 t0 x1 v (c1 + 1) r_2 v_1 hfl hq2
    cases h
    exact z_xcall1 F hnt hk [.int x1] [] hM9 mI_X9_needMan (c := 9) rfl t0 wM_X9_180 mi_X9_needMan sl_X9_needMan dX9_praise_2 rfl ⟨Nat.le_of_ble_eq_true rfl, Nat.le_of_ble_eq_true rfl⟩ rfl (Nat.le_of_ble_eq_true rfl) ⟨Nat.le_trans (Nat.le_of_ble_eq_true rfl) hcs.1, Nat.le_trans (Nat.le_of_ble_eq_true rfl) hcs.2⟩ (Nat.le_of_ble_eq_true rfl) (Nat.le_of_ble_eq_true rfl)

theorem dX9_ahead_0 : decode cX9_ahead 0 = .ok (.aload_n 0, 1) := by decide +kernel
theorem dX9_ahead_1 : decode cX9_ahead 1 = .ok (.iload_n 1, 1) := by decide +kernel
theorem dX9_ahead_2 : decode cX9_ahead 2 = .ok (.iconst 0, 1) := by decide +kernel
theorem dX9_ahead_3 : decode cX9_ahead 3 = .ok (.bipush 60, 2) := by decide +kernel
theorem dX9_ahead_5 : decode cX9_ahead 5 = .ok (.invokestatic 150, 3) := by decide +kernel
theorem dX9_ahead_8 : decode cX9_ahead 8 = .ok (.invokevirtual 154, 3) := by decide +kernel
theorem dX9_ahead_11 : decode cX9_ahead 11 = .ok (.aload_n 0, 1) := by decide +kernel
theorem dX9_ahead_12 : decode cX9_ahead 12 = .ok (.iload_n 2, 1) := by decide +kernel
theorem dX9_ahead_13 : decode cX9_ahead 13 = .ok (.iconst 0, 1) := by decide +kernel
theorem dX9_ahead_14 : decode cX9_ahead 14 = .ok (.iconst 2, 1) := by decide +kernel
theorem dX9_ahead_15 : decode cX9_ahead 15 = .ok (.invokestatic 150, 3) := by decide +kernel
theorem dX9_ahead_18 : decode cX9_ahead 18 = .ok (.invokevirtual 154, 3) := by decide +kernel
theorem dX9_ahead_21 : decode cX9_ahead 21 = .ok (.aload_n 0, 1) := by decide +kernel
theorem dX9_ahead_22 : decode cX9_ahead 22 = .ok (.getfield 74, 3) := by decide +kernel
theorem dX9_ahead_25 : decode cX9_ahead 25 = .ok (.iload_n 1, 1) := by decide +kernel
theorem dX9_ahead_26 : decode cX9_ahead 26 = .ok (.iload_n 2, 1) := by decide +kernel
theorem dX9_ahead_27 : decode cX9_ahead 27 = .ok (.invokevirtual 261, 3) := by decide +kernel
theorem dX9_ahead_30 : decode cX9_ahead 30 = .ok (.ireturn, 1) := by decide +kernel
def fX9_ahead (x0 : Nat) (x1 : Int32) (x2 : Int32) (v : zV) : Option (Nat × Int32 × zV) :=
  zbind (fX9_within x1 (0 : Int32) (60 : Int32) v) fun r_2 v_1 =>
  zbindx (fX9_need x0 r_2 v_1) (fun r_4 v_3 =>
    zbind (fX9_within x2 (0 : Int32) (2 : Int32) v_3) fun r_6 v_5 =>
    zbindx (fX9_need x0 r_6 v_5) (fun r_8 v_7 =>
      zbind (fX4_behind (zrf x0 12) x1 x2 v_7) fun r_10 v_9 =>
      some (0, r_10, v_9))
    (0 : Int32))
  (0 : Int32)
set_option maxRecDepth 4000 in
theorem kX9_ahead (l : Launch) (G : zG) (x0 : Nat) (t0 : zty G x0 1 9) (x1 : Int32) (x2 : Int32) (v : zV) (c : Nat) (r : Int32) (w : zV) (hfl9 : l.stackTraces = false) (h : fX9_ahead x0 x1 x2 v = some (c, r, w)) : zXM l yX9_ahead cX9_ahead 3 (Option.some FieldType.int) 8 237 2 12 [zr G x0, .int x1, .int x2] G v c (some (.int r)) w := by
  refine zXM_of (own := RX9) (by decide) rfl (Nat.le_of_ble_eq_true rfl) (fun x hl F hr hk hcs hnt => ?_)
  subst hl
  have hfl := hfl9
  refine z_ls [(0, zr G x0), (1, .int x1), (2, .int x2)] [0, 1, 2] rfl ?_
  unfold fX9_ahead at h
  refine z_aload_n F dX9_ahead_0 rfl 0 rfl ?_
  refine z_iload_n F dX9_ahead_1 rfl 1 rfl ?_
  refine z_iconst (y := (0 : Int32)) F dX9_ahead_2 rfl ?_
  refine z_bipush (y := (60 : Int32)) F dX9_ahead_3 rfl ?_
  obtain ⟨r_2, v_1, hq5, h⟩ := zbind_ex h
  refine z_callSi F [.int x1, .int (0 : Int32), .int (60 : Int32)] [zr G x0] (kX9_within x.2.1 G x1 (0 : Int32) (60 : Int32) v r_2 v_1 hq5) mI_X9_within wM_X9_150 ms_X9_within dX9_ahead_5 rfl ⟨Nat.le_of_ble_eq_true rfl, Nat.le_of_ble_eq_true rfl⟩ rfl (Nat.le_of_ble_eq_true rfl) ⟨Nat.le_trans (Nat.le_of_ble_eq_true rfl) hcs.1, Nat.le_trans (Nat.le_of_ble_eq_true rfl) hcs.2⟩ ?_
  rcases zbindx_ex h with ⟨r_4, v_3, hq8, h⟩ | ⟨c1, r_4, v_3, hq8, h⟩
  · have hM9 := kX9_need x.2.1 G x0 t0 r_2 v_1 0 r_4 v_3 hfl hq8
    refine z_xcall0 F [.int r_2] [] hM9 mI_X9_need (c := 9) rfl t0 wM_X9_154 mi_X9_need sl_X9_need dX9_ahead_8 rfl ⟨Nat.le_of_ble_eq_true rfl, Nat.le_of_ble_eq_true rfl⟩ rfl (Nat.le_of_ble_eq_true rfl) ⟨Nat.le_trans (Nat.le_of_ble_eq_true rfl) hcs.1, Nat.le_trans (Nat.le_of_ble_eq_true rfl) hcs.2⟩ ?_
    refine z_id (st := []) ?_
    refine z_aload_n F dX9_ahead_11 rfl 0 rfl ?_
    refine z_iload_n F dX9_ahead_12 rfl 2 rfl ?_
    refine z_iconst (y := (0 : Int32)) F dX9_ahead_13 rfl ?_
    refine z_iconst (y := (2 : Int32)) F dX9_ahead_14 rfl ?_
    obtain ⟨r_6, v_5, hq15, h⟩ := zbind_ex h
    refine z_callSi F [.int x2, .int (0 : Int32), .int (2 : Int32)] [zr G x0] (kX9_within x.2.1 G x2 (0 : Int32) (2 : Int32) v_3 r_6 v_5 hq15) mI_X9_within wM_X9_150 ms_X9_within dX9_ahead_15 rfl ⟨Nat.le_of_ble_eq_true rfl, Nat.le_of_ble_eq_true rfl⟩ rfl (Nat.le_of_ble_eq_true rfl) ⟨Nat.le_trans (Nat.le_of_ble_eq_true rfl) hcs.1, Nat.le_trans (Nat.le_of_ble_eq_true rfl) hcs.2⟩ ?_
    rcases zbindx_ex h with ⟨r_8, v_7, hq18, h⟩ | ⟨c1, r_8, v_7, hq18, h⟩
    · have hM9 := kX9_need x.2.1 G x0 t0 r_6 v_5 0 r_8 v_7 hfl hq18
      refine z_xcall0 F [.int r_6] [] hM9 mI_X9_need (c := 9) rfl t0 wM_X9_154 mi_X9_need sl_X9_need dX9_ahead_18 rfl ⟨Nat.le_of_ble_eq_true rfl, Nat.le_of_ble_eq_true rfl⟩ rfl (Nat.le_of_ble_eq_true rfl) ⟨Nat.le_trans (Nat.le_of_ble_eq_true rfl) hcs.1, Nat.le_trans (Nat.le_of_ble_eq_true rfl) hcs.2⟩ ?_
      refine z_id (st := []) ?_
      refine z_aload_n F dX9_ahead_21 rfl 0 rfl ?_
      refine zg_9_12 F t0 wF_X9_74 dX9_ahead_22 ?_
      refine z_iload_n F dX9_ahead_25 rfl 1 rfl ?_
      refine z_iload_n F dX9_ahead_26 rfl 2 rfl ?_
      obtain ⟨r_10, v_9, hq27, h⟩ := zbind_ex h
      refine z_callVi F [.int x1, .int x2] [] (kX4_behind x.2.1 G (zrf x0 12) (zt_f tc_9_12 t0) x1 x2 v_7 r_10 v_9 hq27) mI_X4_behind (c := 4) rfl (zt_f tc_9_12 t0) wM_X9_261 mi_X4_behind sl_X4_behind dX9_ahead_27 rfl ⟨Nat.le_of_ble_eq_true rfl, Nat.le_of_ble_eq_true rfl⟩ rfl (Nat.le_of_ble_eq_true rfl) ⟨Nat.le_trans (Nat.le_of_ble_eq_true rfl) hcs.1, Nat.le_trans (Nat.le_of_ble_eq_true rfl) hcs.2⟩ ?_
      cases h
      exact z_xreti F hr hk (Nat.le_of_ble_eq_true rfl) (Nat.le_of_ble_eq_true rfl) dX9_ahead_30
    · have hM9 := kX9_need x.2.1 G x0 t0 r_6 v_5 (c1 + 1) r_8 v_7 hfl hq18
      cases h
      exact z_xcall1 F hnt hk [.int r_6] [] hM9 mI_X9_need (c := 9) rfl t0 wM_X9_154 mi_X9_need sl_X9_need dX9_ahead_18 rfl ⟨Nat.le_of_ble_eq_true rfl, Nat.le_of_ble_eq_true rfl⟩ rfl (Nat.le_of_ble_eq_true rfl) ⟨Nat.le_trans (Nat.le_of_ble_eq_true rfl) hcs.1, Nat.le_trans (Nat.le_of_ble_eq_true rfl) hcs.2⟩ (Nat.le_of_ble_eq_true rfl) (Nat.le_of_ble_eq_true rfl)
  · have hM9 := kX9_need x.2.1 G x0 t0 r_2 v_1 (c1 + 1) r_4 v_3 hfl hq8
    cases h
    exact z_xcall1 F hnt hk [.int r_2] [] hM9 mI_X9_need (c := 9) rfl t0 wM_X9_154 mi_X9_need sl_X9_need dX9_ahead_8 rfl ⟨Nat.le_of_ble_eq_true rfl, Nat.le_of_ble_eq_true rfl⟩ rfl (Nat.le_of_ble_eq_true rfl) ⟨Nat.le_trans (Nat.le_of_ble_eq_true rfl) hcs.1, Nat.le_trans (Nat.le_of_ble_eq_true rfl) hcs.2⟩ (Nat.le_of_ble_eq_true rfl) (Nat.le_of_ble_eq_true rfl)

theorem dX9_when_0 : decode cX9_when 0 = .ok (.aload_n 0, 1) := by decide +kernel
theorem dX9_when_1 : decode cX9_when 1 = .ok (.iload_n 1, 1) := by decide +kernel
theorem dX9_when_2 : decode cX9_when 2 = .ok (.invokevirtual 180, 3) := by decide +kernel
theorem dX9_when_5 : decode cX9_when 5 = .ok (.aload_n 0, 1) := by decide +kernel
theorem dX9_when_6 : decode cX9_when 6 = .ok (.getfield 74, 3) := by decide +kernel
theorem dX9_when_9 : decode cX9_when 9 = .ok (.iload_n 1, 1) := by decide +kernel
theorem dX9_when_10 : decode cX9_when 10 = .ok (.invokevirtual 264, 3) := by decide +kernel
theorem dX9_when_13 : decode cX9_when 13 = .ok (.ireturn, 1) := by decide +kernel
def fX9_when (x0 : Nat) (x1 : Int32) (v : zV) : Option (Nat × Int32 × zV) :=
  zbindx (fX9_needMan x0 x1 v) (fun r_2 v_1 =>
    zbind (fX4_yearOfEntry (zrf x0 12) x1 v_1) fun r_4 v_3 =>
    some (0, r_4, v_3))
  (0 : Int32)
set_option maxRecDepth 4000 in
theorem kX9_when (l : Launch) (G : zG) (x0 : Nat) (t0 : zty G x0 1 9) (x1 : Int32) (v : zV) (c : Nat) (r : Int32) (w : zV) (hfl9 : l.stackTraces = false) (h : fX9_when x0 x1 v = some (c, r, w)) : zXM l yX9_when cX9_when 2 (Option.some FieldType.int) 8 236 1 6 [zr G x0, .int x1] G v c (some (.int r)) w := by
  refine zXM_of (own := RX9) (by decide) rfl (Nat.le_of_ble_eq_true rfl) (fun x hl F hr hk hcs hnt => ?_)
  subst hl
  have hfl := hfl9
  refine z_ls [(0, zr G x0), (1, .int x1)] [0, 1] rfl ?_
  unfold fX9_when at h
  refine z_aload_n F dX9_when_0 rfl 0 rfl ?_
  refine z_iload_n F dX9_when_1 rfl 1 rfl ?_
  rcases zbindx_ex h with ⟨r_2, v_1, hq2, h⟩ | ⟨c1, r_2, v_1, hq2, h⟩
  · have hM9 := kX9_needMan x.2.1 G x0 t0 x1 v 0 r_2 v_1 hfl hq2
    refine z_xcall0 F [.int x1] [] hM9 mI_X9_needMan (c := 9) rfl t0 wM_X9_180 mi_X9_needMan sl_X9_needMan dX9_when_2 rfl ⟨Nat.le_of_ble_eq_true rfl, Nat.le_of_ble_eq_true rfl⟩ rfl (Nat.le_of_ble_eq_true rfl) ⟨Nat.le_trans (Nat.le_of_ble_eq_true rfl) hcs.1, Nat.le_trans (Nat.le_of_ble_eq_true rfl) hcs.2⟩ ?_
    refine z_id (st := []) ?_
    refine z_aload_n F dX9_when_5 rfl 0 rfl ?_
    refine zg_9_12 F t0 wF_X9_74 dX9_when_6 ?_
    refine z_iload_n F dX9_when_9 rfl 1 rfl ?_
    obtain ⟨r_4, v_3, hq10, h⟩ := zbind_ex h
    refine z_callVi F [.int x1] [] (kX4_yearOfEntry x.2.1 G (zrf x0 12) (zt_f tc_9_12 t0) x1 v_1 r_4 v_3 hq10) mI_X4_yearOfEntry (c := 4) rfl (zt_f tc_9_12 t0) wM_X9_264 mi_X4_yearOfEntry sl_X4_yearOfEntry dX9_when_10 rfl ⟨Nat.le_of_ble_eq_true rfl, Nat.le_of_ble_eq_true rfl⟩ rfl (Nat.le_of_ble_eq_true rfl) ⟨Nat.le_trans (Nat.le_of_ble_eq_true rfl) hcs.1, Nat.le_trans (Nat.le_of_ble_eq_true rfl) hcs.2⟩ ?_
    cases h
    exact z_xreti F hr hk (Nat.le_of_ble_eq_true rfl) (Nat.le_of_ble_eq_true rfl) dX9_when_13
  · have hM9 := kX9_needMan x.2.1 G x0 t0 x1 v (c1 + 1) r_2 v_1 hfl hq2
    cases h
    exact z_xcall1 F hnt hk [.int x1] [] hM9 mI_X9_needMan (c := 9) rfl t0 wM_X9_180 mi_X9_needMan sl_X9_needMan dX9_when_2 rfl ⟨Nat.le_of_ble_eq_true rfl, Nat.le_of_ble_eq_true rfl⟩ rfl (Nat.le_of_ble_eq_true rfl) ⟨Nat.le_trans (Nat.le_of_ble_eq_true rfl) hcs.1, Nat.le_trans (Nat.le_of_ble_eq_true rfl) hcs.2⟩ (Nat.le_of_ble_eq_true rfl) (Nat.le_of_ble_eq_true rfl)

theorem dX9_praises_0 : decode cX9_praises 0 = .ok (.aload_n 0, 1) := by decide +kernel
theorem dX9_praises_1 : decode cX9_praises 1 = .ok (.iload_n 1, 1) := by decide +kernel
theorem dX9_praises_2 : decode cX9_praises 2 = .ok (.invokevirtual 180, 3) := by decide +kernel
theorem dX9_praises_5 : decode cX9_praises 5 = .ok (.aload_n 0, 1) := by decide +kernel
theorem dX9_praises_6 : decode cX9_praises 6 = .ok (.iload_n 2, 1) := by decide +kernel
theorem dX9_praises_7 : decode cX9_praises 7 = .ok (.iconst 1, 1) := by decide +kernel
theorem dX9_praises_8 : decode cX9_praises 8 = .ok (.iconst 3, 1) := by decide +kernel
theorem dX9_praises_9 : decode cX9_praises 9 = .ok (.invokestatic 150, 3) := by decide +kernel
theorem dX9_praises_12 : decode cX9_praises 12 = .ok (.invokevirtual 154, 3) := by decide +kernel
theorem dX9_praises_15 : decode cX9_praises 15 = .ok (.aload_n 0, 1) := by decide +kernel
theorem dX9_praises_16 : decode cX9_praises 16 = .ok (.iload_n 3, 1) := by decide +kernel
theorem dX9_praises_17 : decode cX9_praises 17 = .ok (.iconst 1, 1) := by decide +kernel
theorem dX9_praises_18 : decode cX9_praises 18 = .ok (.bipush 99, 2) := by decide +kernel
theorem dX9_praises_20 : decode cX9_praises 20 = .ok (.invokestatic 150, 3) := by decide +kernel
theorem dX9_praises_23 : decode cX9_praises 23 = .ok (.invokevirtual 154, 3) := by decide +kernel
theorem dX9_praises_26 : decode cX9_praises 26 = .ok (.aload_n 0, 1) := by decide +kernel
theorem dX9_praises_27 : decode cX9_praises 27 = .ok (.iload 4, 2) := by decide +kernel
theorem dX9_praises_29 : decode cX9_praises 29 = .ok (.iconst 0, 1) := by decide +kernel
theorem dX9_praises_30 : decode cX9_praises 30 = .ok (.iconst 1, 1) := by decide +kernel
theorem dX9_praises_31 : decode cX9_praises 31 = .ok (.invokestatic 150, 3) := by decide +kernel
theorem dX9_praises_34 : decode cX9_praises 34 = .ok (.invokevirtual 154, 3) := by decide +kernel
theorem dX9_praises_37 : decode cX9_praises 37 = .ok (.aload_n 0, 1) := by decide +kernel
theorem dX9_praises_38 : decode cX9_praises 38 = .ok (.getfield 74, 3) := by decide +kernel
theorem dX9_praises_41 : decode cX9_praises 41 = .ok (.iload_n 1, 1) := by decide +kernel
theorem dX9_praises_42 : decode cX9_praises 42 = .ok (.iload_n 2, 1) := by decide +kernel
theorem dX9_praises_43 : decode cX9_praises 43 = .ok (.iload_n 3, 1) := by decide +kernel
theorem dX9_praises_44 : decode cX9_praises 44 = .ok (.iload 4, 2) := by decide +kernel
theorem dX9_praises_46 : decode cX9_praises 46 = .ok (.invokevirtual 267, 3) := by decide +kernel
theorem dX9_praises_49 : decode cX9_praises 49 = .ok (.ireturn, 1) := by decide +kernel
def fX9_praises (x0 : Nat) (x1 : Int32) (x2 : Int32) (x3 : Int32) (x4 : Int32) (v : zV) : Option (Nat × Int32 × zV) :=
  zbindx (fX9_needMan x0 x1 v) (fun r_2 v_1 =>
    zbind (fX9_within x2 (1 : Int32) (3 : Int32) v_1) fun r_4 v_3 =>
    zbindx (fX9_need x0 r_4 v_3) (fun r_6 v_5 =>
      zbind (fX9_within x3 (1 : Int32) (99 : Int32) v_5) fun r_8 v_7 =>
      zbindx (fX9_need x0 r_8 v_7) (fun r_10 v_9 =>
        zbind (fX9_within x4 (0 : Int32) (1 : Int32) v_9) fun r_12 v_11 =>
        zbindx (fX9_need x0 r_12 v_11) (fun r_14 v_13 =>
          zbind (fX4_waysToPraise (zrf x0 12) x1 x2 x3 x4 v_13) fun r_16 v_15 =>
          some (0, r_16, v_15))
        (0 : Int32))
      (0 : Int32))
    (0 : Int32))
  (0 : Int32)
set_option maxRecDepth 4000 in
theorem kX9_praises (l : Launch) (G : zG) (x0 : Nat) (t0 : zty G x0 1 9) (x1 : Int32) (x2 : Int32) (x3 : Int32) (x4 : Int32) (v : zV) (c : Nat) (r : Int32) (w : zV) (hfl9 : l.stackTraces = false) (h : fX9_praises x0 x1 x2 x3 x4 v = some (c, r, w)) : zXM l yX9_praises cX9_praises 5 (Option.some FieldType.int) 8 245 4 24 [zr G x0, .int x1, .int x2, .int x3, .int x4] G v c (some (.int r)) w := by
  refine zXM_of (own := RX9) (by decide) rfl (Nat.le_of_ble_eq_true rfl) (fun x hl F hr hk hcs hnt => ?_)
  subst hl
  have hfl := hfl9
  refine z_ls [(0, zr G x0), (1, .int x1), (2, .int x2), (3, .int x3), (4, .int x4)] [0, 1, 2, 3, 4] rfl ?_
  unfold fX9_praises at h
  refine z_aload_n F dX9_praises_0 rfl 0 rfl ?_
  refine z_iload_n F dX9_praises_1 rfl 1 rfl ?_
  rcases zbindx_ex h with ⟨r_2, v_1, hq2, h⟩ | ⟨c1, r_2, v_1, hq2, h⟩
  · have hM9 := kX9_needMan x.2.1 G x0 t0 x1 v 0 r_2 v_1 hfl hq2
    refine z_xcall0 F [.int x1] [] hM9 mI_X9_needMan (c := 9) rfl t0 wM_X9_180 mi_X9_needMan sl_X9_needMan dX9_praises_2 rfl ⟨Nat.le_of_ble_eq_true rfl, Nat.le_of_ble_eq_true rfl⟩ rfl (Nat.le_of_ble_eq_true rfl) ⟨Nat.le_trans (Nat.le_of_ble_eq_true rfl) hcs.1, Nat.le_trans (Nat.le_of_ble_eq_true rfl) hcs.2⟩ ?_
    refine z_id (st := []) ?_
    refine z_aload_n F dX9_praises_5 rfl 0 rfl ?_
    refine z_iload_n F dX9_praises_6 rfl 2 rfl ?_
    refine z_iconst (y := (1 : Int32)) F dX9_praises_7 rfl ?_
    refine z_iconst (y := (3 : Int32)) F dX9_praises_8 rfl ?_
    obtain ⟨r_4, v_3, hq9, h⟩ := zbind_ex h
    refine z_callSi F [.int x2, .int (1 : Int32), .int (3 : Int32)] [zr G x0] (kX9_within x.2.1 G x2 (1 : Int32) (3 : Int32) v_1 r_4 v_3 hq9) mI_X9_within wM_X9_150 ms_X9_within dX9_praises_9 rfl ⟨Nat.le_of_ble_eq_true rfl, Nat.le_of_ble_eq_true rfl⟩ rfl (Nat.le_of_ble_eq_true rfl) ⟨Nat.le_trans (Nat.le_of_ble_eq_true rfl) hcs.1, Nat.le_trans (Nat.le_of_ble_eq_true rfl) hcs.2⟩ ?_
    rcases zbindx_ex h with ⟨r_6, v_5, hq12, h⟩ | ⟨c1, r_6, v_5, hq12, h⟩
    · have hM9 := kX9_need x.2.1 G x0 t0 r_4 v_3 0 r_6 v_5 hfl hq12
      refine z_xcall0 F [.int r_4] [] hM9 mI_X9_need (c := 9) rfl t0 wM_X9_154 mi_X9_need sl_X9_need dX9_praises_12 rfl ⟨Nat.le_of_ble_eq_true rfl, Nat.le_of_ble_eq_true rfl⟩ rfl (Nat.le_of_ble_eq_true rfl) ⟨Nat.le_trans (Nat.le_of_ble_eq_true rfl) hcs.1, Nat.le_trans (Nat.le_of_ble_eq_true rfl) hcs.2⟩ ?_
      refine z_id (st := []) ?_
      refine z_aload_n F dX9_praises_15 rfl 0 rfl ?_
      refine z_iload_n F dX9_praises_16 rfl 3 rfl ?_
      refine z_iconst (y := (1 : Int32)) F dX9_praises_17 rfl ?_
      refine z_bipush (y := (99 : Int32)) F dX9_praises_18 rfl ?_
      obtain ⟨r_8, v_7, hq20, h⟩ := zbind_ex h
      refine z_callSi F [.int x3, .int (1 : Int32), .int (99 : Int32)] [zr G x0] (kX9_within x.2.1 G x3 (1 : Int32) (99 : Int32) v_5 r_8 v_7 hq20) mI_X9_within wM_X9_150 ms_X9_within dX9_praises_20 rfl ⟨Nat.le_of_ble_eq_true rfl, Nat.le_of_ble_eq_true rfl⟩ rfl (Nat.le_of_ble_eq_true rfl) ⟨Nat.le_trans (Nat.le_of_ble_eq_true rfl) hcs.1, Nat.le_trans (Nat.le_of_ble_eq_true rfl) hcs.2⟩ ?_
      rcases zbindx_ex h with ⟨r_10, v_9, hq23, h⟩ | ⟨c1, r_10, v_9, hq23, h⟩
      · have hM9 := kX9_need x.2.1 G x0 t0 r_8 v_7 0 r_10 v_9 hfl hq23
        refine z_xcall0 F [.int r_8] [] hM9 mI_X9_need (c := 9) rfl t0 wM_X9_154 mi_X9_need sl_X9_need dX9_praises_23 rfl ⟨Nat.le_of_ble_eq_true rfl, Nat.le_of_ble_eq_true rfl⟩ rfl (Nat.le_of_ble_eq_true rfl) ⟨Nat.le_trans (Nat.le_of_ble_eq_true rfl) hcs.1, Nat.le_trans (Nat.le_of_ble_eq_true rfl) hcs.2⟩ ?_
        refine z_id (st := []) ?_
        refine z_aload_n F dX9_praises_26 rfl 0 rfl ?_
        refine z_iload F dX9_praises_27 4 rfl ?_
        refine z_iconst (y := (0 : Int32)) F dX9_praises_29 rfl ?_
        refine z_iconst (y := (1 : Int32)) F dX9_praises_30 rfl ?_
        obtain ⟨r_12, v_11, hq31, h⟩ := zbind_ex h
        refine z_callSi F [.int x4, .int (0 : Int32), .int (1 : Int32)] [zr G x0] (kX9_within x.2.1 G x4 (0 : Int32) (1 : Int32) v_9 r_12 v_11 hq31) mI_X9_within wM_X9_150 ms_X9_within dX9_praises_31 rfl ⟨Nat.le_of_ble_eq_true rfl, Nat.le_of_ble_eq_true rfl⟩ rfl (Nat.le_of_ble_eq_true rfl) ⟨Nat.le_trans (Nat.le_of_ble_eq_true rfl) hcs.1, Nat.le_trans (Nat.le_of_ble_eq_true rfl) hcs.2⟩ ?_
        rcases zbindx_ex h with ⟨r_14, v_13, hq34, h⟩ | ⟨c1, r_14, v_13, hq34, h⟩
        · have hM9 := kX9_need x.2.1 G x0 t0 r_12 v_11 0 r_14 v_13 hfl hq34
          refine z_xcall0 F [.int r_12] [] hM9 mI_X9_need (c := 9) rfl t0 wM_X9_154 mi_X9_need sl_X9_need dX9_praises_34 rfl ⟨Nat.le_of_ble_eq_true rfl, Nat.le_of_ble_eq_true rfl⟩ rfl (Nat.le_of_ble_eq_true rfl) ⟨Nat.le_trans (Nat.le_of_ble_eq_true rfl) hcs.1, Nat.le_trans (Nat.le_of_ble_eq_true rfl) hcs.2⟩ ?_
          refine z_id (st := []) ?_
          refine z_aload_n F dX9_praises_37 rfl 0 rfl ?_
          refine zg_9_12 F t0 wF_X9_74 dX9_praises_38 ?_
          refine z_iload_n F dX9_praises_41 rfl 1 rfl ?_
          refine z_iload_n F dX9_praises_42 rfl 2 rfl ?_
          refine z_iload_n F dX9_praises_43 rfl 3 rfl ?_
          refine z_iload F dX9_praises_44 4 rfl ?_
          obtain ⟨r_16, v_15, hq46, h⟩ := zbind_ex h
          refine z_callVi F [.int x1, .int x2, .int x3, .int x4] [] (kX4_waysToPraise x.2.1 G (zrf x0 12) (zt_f tc_9_12 t0) x1 x2 x3 x4 v_13 r_16 v_15 hq46) mI_X4_waysToPraise (c := 4) rfl (zt_f tc_9_12 t0) wM_X9_267 mi_X4_waysToPraise sl_X4_waysToPraise dX9_praises_46 rfl ⟨Nat.le_of_ble_eq_true rfl, Nat.le_of_ble_eq_true rfl⟩ rfl (Nat.le_of_ble_eq_true rfl) ⟨Nat.le_trans (Nat.le_of_ble_eq_true rfl) hcs.1, Nat.le_trans (Nat.le_of_ble_eq_true rfl) hcs.2⟩ ?_
          cases h
          exact z_xreti F hr hk (Nat.le_of_ble_eq_true rfl) (Nat.le_of_ble_eq_true rfl) dX9_praises_49
        · have hM9 := kX9_need x.2.1 G x0 t0 r_12 v_11 (c1 + 1) r_14 v_13 hfl hq34
          cases h
          exact z_xcall1 F hnt hk [.int r_12] [] hM9 mI_X9_need (c := 9) rfl t0 wM_X9_154 mi_X9_need sl_X9_need dX9_praises_34 rfl ⟨Nat.le_of_ble_eq_true rfl, Nat.le_of_ble_eq_true rfl⟩ rfl (Nat.le_of_ble_eq_true rfl) ⟨Nat.le_trans (Nat.le_of_ble_eq_true rfl) hcs.1, Nat.le_trans (Nat.le_of_ble_eq_true rfl) hcs.2⟩ (Nat.le_of_ble_eq_true rfl) (Nat.le_of_ble_eq_true rfl)
      · have hM9 := kX9_need x.2.1 G x0 t0 r_8 v_7 (c1 + 1) r_10 v_9 hfl hq23
        cases h
        exact z_xcall1 F hnt hk [.int r_8] [] hM9 mI_X9_need (c := 9) rfl t0 wM_X9_154 mi_X9_need sl_X9_need dX9_praises_23 rfl ⟨Nat.le_of_ble_eq_true rfl, Nat.le_of_ble_eq_true rfl⟩ rfl (Nat.le_of_ble_eq_true rfl) ⟨Nat.le_trans (Nat.le_of_ble_eq_true rfl) hcs.1, Nat.le_trans (Nat.le_of_ble_eq_true rfl) hcs.2⟩ (Nat.le_of_ble_eq_true rfl) (Nat.le_of_ble_eq_true rfl)
    · have hM9 := kX9_need x.2.1 G x0 t0 r_4 v_3 (c1 + 1) r_6 v_5 hfl hq12
      cases h
      exact z_xcall1 F hnt hk [.int r_4] [] hM9 mI_X9_need (c := 9) rfl t0 wM_X9_154 mi_X9_need sl_X9_need dX9_praises_12 rfl ⟨Nat.le_of_ble_eq_true rfl, Nat.le_of_ble_eq_true rfl⟩ rfl (Nat.le_of_ble_eq_true rfl) ⟨Nat.le_trans (Nat.le_of_ble_eq_true rfl) hcs.1, Nat.le_trans (Nat.le_of_ble_eq_true rfl) hcs.2⟩ (Nat.le_of_ble_eq_true rfl) (Nat.le_of_ble_eq_true rfl)
  · have hM9 := kX9_needMan x.2.1 G x0 t0 x1 v (c1 + 1) r_2 v_1 hfl hq2
    cases h
    exact z_xcall1 F hnt hk [.int x1] [] hM9 mI_X9_needMan (c := 9) rfl t0 wM_X9_180 mi_X9_needMan sl_X9_needMan dX9_praises_2 rfl ⟨Nat.le_of_ble_eq_true rfl, Nat.le_of_ble_eq_true rfl⟩ rfl (Nat.le_of_ble_eq_true rfl) ⟨Nat.le_trans (Nat.le_of_ble_eq_true rfl) hcs.1, Nat.le_trans (Nat.le_of_ble_eq_true rfl) hcs.2⟩ (Nat.le_of_ble_eq_true rfl) (Nat.le_of_ble_eq_true rfl)

theorem dX9_beliefs_0 : decode cX9_beliefs 0 = .ok (.aload_n 0, 1) := by decide +kernel
theorem dX9_beliefs_1 : decode cX9_beliefs 1 = .ok (.iload_n 1, 1) := by decide +kernel
theorem dX9_beliefs_2 : decode cX9_beliefs 2 = .ok (.invokevirtual 180, 3) := by decide +kernel
theorem dX9_beliefs_5 : decode cX9_beliefs 5 = .ok (.aload_n 0, 1) := by decide +kernel
theorem dX9_beliefs_6 : decode cX9_beliefs 6 = .ok (.iload_n 2, 1) := by decide +kernel
theorem dX9_beliefs_7 : decode cX9_beliefs 7 = .ok (.iconst 0, 1) := by decide +kernel
theorem dX9_beliefs_8 : decode cX9_beliefs 8 = .ok (.iconst 1, 1) := by decide +kernel
theorem dX9_beliefs_9 : decode cX9_beliefs 9 = .ok (.invokestatic 150, 3) := by decide +kernel
theorem dX9_beliefs_12 : decode cX9_beliefs 12 = .ok (.invokevirtual 154, 3) := by decide +kernel
theorem dX9_beliefs_15 : decode cX9_beliefs 15 = .ok (.aload_n 0, 1) := by decide +kernel
theorem dX9_beliefs_16 : decode cX9_beliefs 16 = .ok (.getfield 83, 3) := by decide +kernel
theorem dX9_beliefs_19 : decode cX9_beliefs 19 = .ok (.iload_n 1, 1) := by decide +kernel
theorem dX9_beliefs_20 : decode cX9_beliefs 20 = .ok (.invokevirtual 271, 3) := by decide +kernel
theorem dX9_beliefs_23 : decode cX9_beliefs 23 = .ok (.iload_n 2, 1) := by decide +kernel
theorem dX9_beliefs_24 : decode cX9_beliefs 24 = .ok (.ifCond .ne 13, 3) := by decide +kernel
theorem dX9_beliefs_27 : decode cX9_beliefs 27 = .ok (.aload_n 0, 1) := by decide +kernel
theorem dX9_beliefs_28 : decode cX9_beliefs 28 = .ok (.getfield 83, 3) := by decide +kernel
theorem dX9_beliefs_31 : decode cX9_beliefs 31 = .ok (.getfield 274, 3) := by decide +kernel
theorem dX9_beliefs_34 : decode cX9_beliefs 34 = .ok (.goto 10, 3) := by decide +kernel
theorem dX9_beliefs_37 : decode cX9_beliefs 37 = .ok (.aload_n 0, 1) := by decide +kernel
theorem dX9_beliefs_38 : decode cX9_beliefs 38 = .ok (.getfield 83, 3) := by decide +kernel
theorem dX9_beliefs_41 : decode cX9_beliefs 41 = .ok (.getfield 277, 3) := by decide +kernel
theorem dX9_beliefs_44 : decode cX9_beliefs 44 = .ok (.ireturn, 1) := by decide +kernel
def fX9_beliefs (x0 : Nat) (x1 : Int32) (x2 : Int32) (v : zV) : Option (Nat × Int32 × zV) :=
  zbindx (fX9_needMan x0 x1 v) (fun r_2 v_1 =>
    zbind (fX9_within x2 (0 : Int32) (1 : Int32) v_1) fun r_4 v_3 =>
    zbindx (fX9_need x0 r_4 v_3) (fun r_6 v_5 =>
      zbindv (fX6_tryBeliefs (zrf x0 13) x1 v_5) fun v_7 =>
      if x2 = (0 : Int32) then
        some (0, v_7 (zrf x0 13) 6, v_7)
      else
        some (0, v_7 (zrf x0 13) 7, v_7))
    (0 : Int32))
  (0 : Int32)
set_option maxRecDepth 4000 in
theorem kX9_beliefs (l : Launch) (G : zG) (x0 : Nat) (t0 : zty G x0 1 9) (x1 : Int32) (x2 : Int32) (v : zV) (c : Nat) (r : Int32) (w : zV) (hfl9 : l.stackTraces = false) (h : fX9_beliefs x0 x1 x2 v = some (c, r, w)) : zXM l yX9_beliefs cX9_beliefs 3 (Option.some FieldType.int) 8 241 2 12 [zr G x0, .int x1, .int x2] G v c (some (.int r)) w := by
  refine zXM_of (own := RX9) (by decide) rfl (Nat.le_of_ble_eq_true rfl) (fun x hl F hr hk hcs hnt => ?_)
  subst hl
  have hfl := hfl9
  refine z_ls [(0, zr G x0), (1, .int x1), (2, .int x2)] [0, 1, 2] rfl ?_
  unfold fX9_beliefs at h
  refine z_aload_n F dX9_beliefs_0 rfl 0 rfl ?_
  refine z_iload_n F dX9_beliefs_1 rfl 1 rfl ?_
  rcases zbindx_ex h with ⟨r_2, v_1, hq2, h⟩ | ⟨c1, r_2, v_1, hq2, h⟩
  · have hM9 := kX9_needMan x.2.1 G x0 t0 x1 v 0 r_2 v_1 hfl hq2
    refine z_xcall0 F [.int x1] [] hM9 mI_X9_needMan (c := 9) rfl t0 wM_X9_180 mi_X9_needMan sl_X9_needMan dX9_beliefs_2 rfl ⟨Nat.le_of_ble_eq_true rfl, Nat.le_of_ble_eq_true rfl⟩ rfl (Nat.le_of_ble_eq_true rfl) ⟨Nat.le_trans (Nat.le_of_ble_eq_true rfl) hcs.1, Nat.le_trans (Nat.le_of_ble_eq_true rfl) hcs.2⟩ ?_
    refine z_id (st := []) ?_
    refine z_aload_n F dX9_beliefs_5 rfl 0 rfl ?_
    refine z_iload_n F dX9_beliefs_6 rfl 2 rfl ?_
    refine z_iconst (y := (0 : Int32)) F dX9_beliefs_7 rfl ?_
    refine z_iconst (y := (1 : Int32)) F dX9_beliefs_8 rfl ?_
    obtain ⟨r_4, v_3, hq9, h⟩ := zbind_ex h
    refine z_callSi F [.int x2, .int (0 : Int32), .int (1 : Int32)] [zr G x0] (kX9_within x.2.1 G x2 (0 : Int32) (1 : Int32) v_1 r_4 v_3 hq9) mI_X9_within wM_X9_150 ms_X9_within dX9_beliefs_9 rfl ⟨Nat.le_of_ble_eq_true rfl, Nat.le_of_ble_eq_true rfl⟩ rfl (Nat.le_of_ble_eq_true rfl) ⟨Nat.le_trans (Nat.le_of_ble_eq_true rfl) hcs.1, Nat.le_trans (Nat.le_of_ble_eq_true rfl) hcs.2⟩ ?_
    rcases zbindx_ex h with ⟨r_6, v_5, hq12, h⟩ | ⟨c1, r_6, v_5, hq12, h⟩
    · have hM9 := kX9_need x.2.1 G x0 t0 r_4 v_3 0 r_6 v_5 hfl hq12
      refine z_xcall0 F [.int r_4] [] hM9 mI_X9_need (c := 9) rfl t0 wM_X9_154 mi_X9_need sl_X9_need dX9_beliefs_12 rfl ⟨Nat.le_of_ble_eq_true rfl, Nat.le_of_ble_eq_true rfl⟩ rfl (Nat.le_of_ble_eq_true rfl) ⟨Nat.le_trans (Nat.le_of_ble_eq_true rfl) hcs.1, Nat.le_trans (Nat.le_of_ble_eq_true rfl) hcs.2⟩ ?_
      refine z_id (st := []) ?_
      refine z_aload_n F dX9_beliefs_15 rfl 0 rfl ?_
      refine zg_9_13 F t0 wF_X9_83 dX9_beliefs_16 ?_
      refine z_iload_n F dX9_beliefs_19 rfl 1 rfl ?_
      obtain ⟨v_7, hq20, h⟩ := zbindv_ex h
      refine z_callVv F [.int x1] [] (kX6_tryBeliefs x.2.1 G (zrf x0 13) (zt_f tc_9_13 t0) x1 v_5 v_7 hq20) mI_X6_tryBeliefs (c := 6) rfl (zt_f tc_9_13 t0) wM_X9_271 mi_X6_tryBeliefs sl_X6_tryBeliefs dX9_beliefs_20 rfl ⟨Nat.le_of_ble_eq_true rfl, Nat.le_of_ble_eq_true rfl⟩ rfl (Nat.le_of_ble_eq_true rfl) ⟨Nat.le_trans (Nat.le_of_ble_eq_true rfl) hcs.1, Nat.le_trans (Nat.le_of_ble_eq_true rfl) hcs.2⟩ ?_
      refine z_iload_n F dX9_beliefs_23 rfl 2 rfl ?_
      refine z_if_ne F 37 dX9_beliefs_24 rfl (fun hc => ?_) (fun hc => ?_)
      · replace h := zif_f hc h
        refine z_aload_n F dX9_beliefs_37 rfl 0 rfl ?_
        refine zg_9_13 F t0 wF_X9_83 dX9_beliefs_38 ?_
        refine zg_6_7 F (zt_f tc_9_13 t0) wF_X9_277 dX9_beliefs_41 ?_
        cases h
        exact z_xreti F hr hk (Nat.le_of_ble_eq_true rfl) (Nat.le_of_ble_eq_true rfl) dX9_beliefs_44
      · replace h := zif_t hc h
        refine z_aload_n F dX9_beliefs_27 rfl 0 rfl ?_
        refine zg_9_13 F t0 wF_X9_83 dX9_beliefs_28 ?_
        refine zg_6_6 F (zt_f tc_9_13 t0) wF_X9_274 dX9_beliefs_31 ?_
        refine z_goto F 44 dX9_beliefs_34 rfl ?_
        cases h
        exact z_xreti F hr hk (Nat.le_of_ble_eq_true rfl) (Nat.le_of_ble_eq_true rfl) dX9_beliefs_44
    · have hM9 := kX9_need x.2.1 G x0 t0 r_4 v_3 (c1 + 1) r_6 v_5 hfl hq12
      cases h
      exact z_xcall1 F hnt hk [.int r_4] [] hM9 mI_X9_need (c := 9) rfl t0 wM_X9_154 mi_X9_need sl_X9_need dX9_beliefs_12 rfl ⟨Nat.le_of_ble_eq_true rfl, Nat.le_of_ble_eq_true rfl⟩ rfl (Nat.le_of_ble_eq_true rfl) ⟨Nat.le_trans (Nat.le_of_ble_eq_true rfl) hcs.1, Nat.le_trans (Nat.le_of_ble_eq_true rfl) hcs.2⟩ (Nat.le_of_ble_eq_true rfl) (Nat.le_of_ble_eq_true rfl)
  · have hM9 := kX9_needMan x.2.1 G x0 t0 x1 v (c1 + 1) r_2 v_1 hfl hq2
    cases h
    exact z_xcall1 F hnt hk [.int x1] [] hM9 mI_X9_needMan (c := 9) rfl t0 wM_X9_180 mi_X9_needMan sl_X9_needMan dX9_beliefs_2 rfl ⟨Nat.le_of_ble_eq_true rfl, Nat.le_of_ble_eq_true rfl⟩ rfl (Nat.le_of_ble_eq_true rfl) ⟨Nat.le_trans (Nat.le_of_ble_eq_true rfl) hcs.1, Nat.le_trans (Nat.le_of_ble_eq_true rfl) hcs.2⟩ (Nat.le_of_ble_eq_true rfl) (Nat.le_of_ble_eq_true rfl)

theorem dX9_sure_0 : decode cX9_sure 0 = .ok (.aload_n 0, 1) := by decide +kernel
theorem dX9_sure_1 : decode cX9_sure 1 = .ok (.iload_n 1, 1) := by decide +kernel
theorem dX9_sure_2 : decode cX9_sure 2 = .ok (.invokevirtual 180, 3) := by decide +kernel
theorem dX9_sure_5 : decode cX9_sure 5 = .ok (.aload_n 0, 1) := by decide +kernel
theorem dX9_sure_6 : decode cX9_sure 6 = .ok (.iload_n 2, 1) := by decide +kernel
theorem dX9_sure_7 : decode cX9_sure 7 = .ok (.invokevirtual 205, 3) := by decide +kernel
theorem dX9_sure_10 : decode cX9_sure 10 = .ok (.aload_n 0, 1) := by decide +kernel
theorem dX9_sure_11 : decode cX9_sure 11 = .ok (.getfield 83, 3) := by decide +kernel
theorem dX9_sure_14 : decode cX9_sure 14 = .ok (.iload_n 1, 1) := by decide +kernel
theorem dX9_sure_15 : decode cX9_sure 15 = .ok (.invokevirtual 271, 3) := by decide +kernel
theorem dX9_sure_18 : decode cX9_sure 18 = .ok (.aload_n 0, 1) := by decide +kernel
theorem dX9_sure_19 : decode cX9_sure 19 = .ok (.getfield 83, 3) := by decide +kernel
theorem dX9_sure_22 : decode cX9_sure 22 = .ok (.iload_n 2, 1) := by decide +kernel
theorem dX9_sure_23 : decode cX9_sure 23 = .ok (.invokevirtual 280, 3) := by decide +kernel
theorem dX9_sure_26 : decode cX9_sure 26 = .ok (.ireturn, 1) := by decide +kernel
def fX9_sure (x0 : Nat) (x1 : Int32) (x2 : Int32) (v : zV) : Option (Nat × Int32 × zV) :=
  zbindx (fX9_needMan x0 x1 v) (fun r_2 v_1 =>
    zbindx (fX9_needQuestion x0 x2 v_1) (fun r_4 v_3 =>
      zbindv (fX6_tryBeliefs (zrf x0 13) x1 v_3) fun v_5 =>
      zbind (fX6_onlySide (zrf x0 13) x2 v_5) fun r_7 v_6 =>
      some (0, r_7, v_6))
    (0 : Int32))
  (0 : Int32)
set_option maxRecDepth 4000 in
theorem kX9_sure (l : Launch) (G : zG) (x0 : Nat) (t0 : zty G x0 1 9) (x1 : Int32) (x2 : Int32) (v : zV) (c : Nat) (r : Int32) (w : zV) (hfl9 : l.stackTraces = false) (h : fX9_sure x0 x1 x2 v = some (c, r, w)) : zXM l yX9_sure cX9_sure 3 (Option.some FieldType.int) 8 241 2 12 [zr G x0, .int x1, .int x2] G v c (some (.int r)) w := by
  refine zXM_of (own := RX9) (by decide) rfl (Nat.le_of_ble_eq_true rfl) (fun x hl F hr hk hcs hnt => ?_)
  subst hl
  have hfl := hfl9
  refine z_ls [(0, zr G x0), (1, .int x1), (2, .int x2)] [0, 1, 2] rfl ?_
  unfold fX9_sure at h
  refine z_aload_n F dX9_sure_0 rfl 0 rfl ?_
  refine z_iload_n F dX9_sure_1 rfl 1 rfl ?_
  rcases zbindx_ex h with ⟨r_2, v_1, hq2, h⟩ | ⟨c1, r_2, v_1, hq2, h⟩
  · have hM9 := kX9_needMan x.2.1 G x0 t0 x1 v 0 r_2 v_1 hfl hq2
    refine z_xcall0 F [.int x1] [] hM9 mI_X9_needMan (c := 9) rfl t0 wM_X9_180 mi_X9_needMan sl_X9_needMan dX9_sure_2 rfl ⟨Nat.le_of_ble_eq_true rfl, Nat.le_of_ble_eq_true rfl⟩ rfl (Nat.le_of_ble_eq_true rfl) ⟨Nat.le_trans (Nat.le_of_ble_eq_true rfl) hcs.1, Nat.le_trans (Nat.le_of_ble_eq_true rfl) hcs.2⟩ ?_
    refine z_id (st := []) ?_
    refine z_aload_n F dX9_sure_5 rfl 0 rfl ?_
    refine z_iload_n F dX9_sure_6 rfl 2 rfl ?_
    rcases zbindx_ex h with ⟨r_4, v_3, hq7, h⟩ | ⟨c1, r_4, v_3, hq7, h⟩
    · have hM9 := kX9_needQuestion x.2.1 G x0 t0 x2 v_1 0 r_4 v_3 hfl hq7
      refine z_xcall0 F [.int x2] [] hM9 mI_X9_needQuestion (c := 9) rfl t0 wM_X9_205 mi_X9_needQuestion sl_X9_needQuestion dX9_sure_7 rfl ⟨Nat.le_of_ble_eq_true rfl, Nat.le_of_ble_eq_true rfl⟩ rfl (Nat.le_of_ble_eq_true rfl) ⟨Nat.le_trans (Nat.le_of_ble_eq_true rfl) hcs.1, Nat.le_trans (Nat.le_of_ble_eq_true rfl) hcs.2⟩ ?_
      refine z_id (st := []) ?_
      refine z_aload_n F dX9_sure_10 rfl 0 rfl ?_
      refine zg_9_13 F t0 wF_X9_83 dX9_sure_11 ?_
      refine z_iload_n F dX9_sure_14 rfl 1 rfl ?_
      obtain ⟨v_5, hq15, h⟩ := zbindv_ex h
      refine z_callVv F [.int x1] [] (kX6_tryBeliefs x.2.1 G (zrf x0 13) (zt_f tc_9_13 t0) x1 v_3 v_5 hq15) mI_X6_tryBeliefs (c := 6) rfl (zt_f tc_9_13 t0) wM_X9_271 mi_X6_tryBeliefs sl_X6_tryBeliefs dX9_sure_15 rfl ⟨Nat.le_of_ble_eq_true rfl, Nat.le_of_ble_eq_true rfl⟩ rfl (Nat.le_of_ble_eq_true rfl) ⟨Nat.le_trans (Nat.le_of_ble_eq_true rfl) hcs.1, Nat.le_trans (Nat.le_of_ble_eq_true rfl) hcs.2⟩ ?_
      refine z_aload_n F dX9_sure_18 rfl 0 rfl ?_
      refine zg_9_13 F t0 wF_X9_83 dX9_sure_19 ?_
      refine z_iload_n F dX9_sure_22 rfl 2 rfl ?_
      obtain ⟨r_7, v_6, hq23, h⟩ := zbind_ex h
      refine z_callVi F [.int x2] [] (kX6_onlySide x.2.1 G (zrf x0 13) (zt_f tc_9_13 t0) x2 v_5 r_7 v_6 hq23) mI_X6_onlySide (c := 6) rfl (zt_f tc_9_13 t0) wM_X9_280 mi_X6_onlySide sl_X6_onlySide dX9_sure_23 rfl ⟨Nat.le_of_ble_eq_true rfl, Nat.le_of_ble_eq_true rfl⟩ rfl (Nat.le_of_ble_eq_true rfl) ⟨Nat.le_trans (Nat.le_of_ble_eq_true rfl) hcs.1, Nat.le_trans (Nat.le_of_ble_eq_true rfl) hcs.2⟩ ?_
      cases h
      exact z_xreti F hr hk (Nat.le_of_ble_eq_true rfl) (Nat.le_of_ble_eq_true rfl) dX9_sure_26
    · have hM9 := kX9_needQuestion x.2.1 G x0 t0 x2 v_1 (c1 + 1) r_4 v_3 hfl hq7
      cases h
      exact z_xcall1 F hnt hk [.int x2] [] hM9 mI_X9_needQuestion (c := 9) rfl t0 wM_X9_205 mi_X9_needQuestion sl_X9_needQuestion dX9_sure_7 rfl ⟨Nat.le_of_ble_eq_true rfl, Nat.le_of_ble_eq_true rfl⟩ rfl (Nat.le_of_ble_eq_true rfl) ⟨Nat.le_trans (Nat.le_of_ble_eq_true rfl) hcs.1, Nat.le_trans (Nat.le_of_ble_eq_true rfl) hcs.2⟩ (Nat.le_of_ble_eq_true rfl) (Nat.le_of_ble_eq_true rfl)
  · have hM9 := kX9_needMan x.2.1 G x0 t0 x1 v (c1 + 1) r_2 v_1 hfl hq2
    cases h
    exact z_xcall1 F hnt hk [.int x1] [] hM9 mI_X9_needMan (c := 9) rfl t0 wM_X9_180 mi_X9_needMan sl_X9_needMan dX9_sure_2 rfl ⟨Nat.le_of_ble_eq_true rfl, Nat.le_of_ble_eq_true rfl⟩ rfl (Nat.le_of_ble_eq_true rfl) ⟨Nat.le_trans (Nat.le_of_ble_eq_true rfl) hcs.1, Nat.le_trans (Nat.le_of_ble_eq_true rfl) hcs.2⟩ (Nat.le_of_ble_eq_true rfl) (Nat.le_of_ble_eq_true rfl)

theorem dX9_dead_0 : decode cX9_dead 0 = .ok (.aload_n 0, 1) := by decide +kernel
theorem dX9_dead_1 : decode cX9_dead 1 = .ok (.iload_n 1, 1) := by decide +kernel
theorem dX9_dead_2 : decode cX9_dead 2 = .ok (.iconst 1, 1) := by decide +kernel
theorem dX9_dead_3 : decode cX9_dead 3 = .ok (.bipush 60, 2) := by decide +kernel
theorem dX9_dead_5 : decode cX9_dead 5 = .ok (.invokestatic 150, 3) := by decide +kernel
theorem dX9_dead_8 : decode cX9_dead 8 = .ok (.invokevirtual 154, 3) := by decide +kernel
theorem dX9_dead_11 : decode cX9_dead 11 = .ok (.aload_n 0, 1) := by decide +kernel
theorem dX9_dead_12 : decode cX9_dead 12 = .ok (.getfield 83, 3) := by decide +kernel
theorem dX9_dead_15 : decode cX9_dead 15 = .ok (.iload_n 1, 1) := by decide +kernel
theorem dX9_dead_16 : decode cX9_dead 16 = .ok (.invokevirtual 283, 3) := by decide +kernel
theorem dX9_dead_19 : decode cX9_dead 19 = .ok (.ireturn, 1) := by decide +kernel
def fX9_dead (x0 : Nat) (x1 : Int32) (v : zV) : Option (Nat × Int32 × zV) :=
  zbind (fX9_within x1 (1 : Int32) (60 : Int32) v) fun r_2 v_1 =>
  zbindx (fX9_need x0 r_2 v_1) (fun r_4 v_3 =>
    zbind (fX6_deathsThatFit (zrf x0 13) x1 v_3) fun r_6 v_5 =>
    some (0, r_6, v_5))
  (0 : Int32)
set_option maxRecDepth 4000 in
theorem kX9_dead (l : Launch) (G : zG) (x0 : Nat) (t0 : zty G x0 1 9) (x1 : Int32) (v : zV) (c : Nat) (r : Int32) (w : zV) (hfl9 : l.stackTraces = false) (h : fX9_dead x0 x1 v = some (c, r, w)) : zXM l yX9_dead cX9_dead 2 (Option.some FieldType.int) 8 240 1 6 [zr G x0, .int x1] G v c (some (.int r)) w := by
  refine zXM_of (own := RX9) (by decide) rfl (Nat.le_of_ble_eq_true rfl) (fun x hl F hr hk hcs hnt => ?_)
  subst hl
  have hfl := hfl9
  refine z_ls [(0, zr G x0), (1, .int x1)] [0, 1] rfl ?_
  unfold fX9_dead at h
  refine z_aload_n F dX9_dead_0 rfl 0 rfl ?_
  refine z_iload_n F dX9_dead_1 rfl 1 rfl ?_
  refine z_iconst (y := (1 : Int32)) F dX9_dead_2 rfl ?_
  refine z_bipush (y := (60 : Int32)) F dX9_dead_3 rfl ?_
  obtain ⟨r_2, v_1, hq5, h⟩ := zbind_ex h
  refine z_callSi F [.int x1, .int (1 : Int32), .int (60 : Int32)] [zr G x0] (kX9_within x.2.1 G x1 (1 : Int32) (60 : Int32) v r_2 v_1 hq5) mI_X9_within wM_X9_150 ms_X9_within dX9_dead_5 rfl ⟨Nat.le_of_ble_eq_true rfl, Nat.le_of_ble_eq_true rfl⟩ rfl (Nat.le_of_ble_eq_true rfl) ⟨Nat.le_trans (Nat.le_of_ble_eq_true rfl) hcs.1, Nat.le_trans (Nat.le_of_ble_eq_true rfl) hcs.2⟩ ?_
  rcases zbindx_ex h with ⟨r_4, v_3, hq8, h⟩ | ⟨c1, r_4, v_3, hq8, h⟩
  · have hM9 := kX9_need x.2.1 G x0 t0 r_2 v_1 0 r_4 v_3 hfl hq8
    refine z_xcall0 F [.int r_2] [] hM9 mI_X9_need (c := 9) rfl t0 wM_X9_154 mi_X9_need sl_X9_need dX9_dead_8 rfl ⟨Nat.le_of_ble_eq_true rfl, Nat.le_of_ble_eq_true rfl⟩ rfl (Nat.le_of_ble_eq_true rfl) ⟨Nat.le_trans (Nat.le_of_ble_eq_true rfl) hcs.1, Nat.le_trans (Nat.le_of_ble_eq_true rfl) hcs.2⟩ ?_
    refine z_id (st := []) ?_
    refine z_aload_n F dX9_dead_11 rfl 0 rfl ?_
    refine zg_9_13 F t0 wF_X9_83 dX9_dead_12 ?_
    refine z_iload_n F dX9_dead_15 rfl 1 rfl ?_
    obtain ⟨r_6, v_5, hq16, h⟩ := zbind_ex h
    refine z_callVi F [.int x1] [] (kX6_deathsThatFit x.2.1 G (zrf x0 13) (zt_f tc_9_13 t0) x1 v_3 r_6 v_5 hq16) mI_X6_deathsThatFit (c := 6) rfl (zt_f tc_9_13 t0) wM_X9_283 mi_X6_deathsThatFit sl_X6_deathsThatFit dX9_dead_16 rfl ⟨Nat.le_of_ble_eq_true rfl, Nat.le_of_ble_eq_true rfl⟩ rfl (Nat.le_of_ble_eq_true rfl) ⟨Nat.le_trans (Nat.le_of_ble_eq_true rfl) hcs.1, Nat.le_trans (Nat.le_of_ble_eq_true rfl) hcs.2⟩ ?_
    cases h
    exact z_xreti F hr hk (Nat.le_of_ble_eq_true rfl) (Nat.le_of_ble_eq_true rfl) dX9_dead_19
  · have hM9 := kX9_need x.2.1 G x0 t0 r_2 v_1 (c1 + 1) r_4 v_3 hfl hq8
    cases h
    exact z_xcall1 F hnt hk [.int r_2] [] hM9 mI_X9_need (c := 9) rfl t0 wM_X9_154 mi_X9_need sl_X9_need dX9_dead_8 rfl ⟨Nat.le_of_ble_eq_true rfl, Nat.le_of_ble_eq_true rfl⟩ rfl (Nat.le_of_ble_eq_true rfl) ⟨Nat.le_trans (Nat.le_of_ble_eq_true rfl) hcs.1, Nat.le_trans (Nat.le_of_ble_eq_true rfl) hcs.2⟩ (Nat.le_of_ble_eq_true rfl) (Nat.le_of_ble_eq_true rfl)

theorem dX9_enemy_0 : decode cX9_enemy 0 = .ok (.aload_n 0, 1) := by decide +kernel
theorem dX9_enemy_1 : decode cX9_enemy 1 = .ok (.iload_n 1, 1) := by decide +kernel
theorem dX9_enemy_2 : decode cX9_enemy 2 = .ok (.invokevirtual 180, 3) := by decide +kernel
theorem dX9_enemy_5 : decode cX9_enemy 5 = .ok (.aload_n 0, 1) := by decide +kernel
theorem dX9_enemy_6 : decode cX9_enemy 6 = .ok (.getfield 92, 3) := by decide +kernel
theorem dX9_enemy_9 : decode cX9_enemy 9 = .ok (.iload_n 1, 1) := by decide +kernel
theorem dX9_enemy_10 : decode cX9_enemy 10 = .ok (.invokevirtual 289, 3) := by decide +kernel
theorem dX9_enemy_13 : decode cX9_enemy 13 = .ok (.ireturn, 1) := by decide +kernel
def fX9_enemy (x0 : Nat) (x1 : Int32) (v : zV) : Option (Nat × Int32 × zV) :=
  zbindx (fX9_needMan x0 x1 v) (fun r_2 v_1 =>
    zbind (fX3_worstEnemy (zrf x0 14) x1 v_1) fun r_4 v_3 =>
    some (0, r_4, v_3))
  (0 : Int32)
set_option maxRecDepth 4000 in
theorem kX9_enemy (l : Launch) (G : zG) (x0 : Nat) (t0 : zty G x0 1 9) (x1 : Int32) (v : zV) (c : Nat) (r : Int32) (w : zV) (hfl9 : l.stackTraces = false) (h : fX9_enemy x0 x1 v = some (c, r, w)) : zXM l yX9_enemy cX9_enemy 2 (Option.some FieldType.int) 7 149 1 6 [zr G x0, .int x1] G v c (some (.int r)) w := by
  refine zXM_of (own := RX9) (by decide) rfl (Nat.le_of_ble_eq_true rfl) (fun x hl F hr hk hcs hnt => ?_)
  subst hl
  have hfl := hfl9
  refine z_ls [(0, zr G x0), (1, .int x1)] [0, 1] rfl ?_
  unfold fX9_enemy at h
  refine z_aload_n F dX9_enemy_0 rfl 0 rfl ?_
  refine z_iload_n F dX9_enemy_1 rfl 1 rfl ?_
  rcases zbindx_ex h with ⟨r_2, v_1, hq2, h⟩ | ⟨c1, r_2, v_1, hq2, h⟩
  · have hM9 := kX9_needMan x.2.1 G x0 t0 x1 v 0 r_2 v_1 hfl hq2
    refine z_xcall0 F [.int x1] [] hM9 mI_X9_needMan (c := 9) rfl t0 wM_X9_180 mi_X9_needMan sl_X9_needMan dX9_enemy_2 rfl ⟨Nat.le_of_ble_eq_true rfl, Nat.le_of_ble_eq_true rfl⟩ rfl (Nat.le_of_ble_eq_true rfl) ⟨Nat.le_trans (Nat.le_of_ble_eq_true rfl) hcs.1, Nat.le_trans (Nat.le_of_ble_eq_true rfl) hcs.2⟩ ?_
    refine z_id (st := []) ?_
    refine z_aload_n F dX9_enemy_5 rfl 0 rfl ?_
    refine zg_9_14 F t0 wF_X9_92 dX9_enemy_6 ?_
    refine z_iload_n F dX9_enemy_9 rfl 1 rfl ?_
    obtain ⟨r_4, v_3, hq10, h⟩ := zbind_ex h
    refine z_callVi F [.int x1] [] (kX3_worstEnemy x.2.1 G (zrf x0 14) (zt_f tc_9_14 t0) x1 v_1 r_4 v_3 hq10) mI_X3_worstEnemy (c := 3) rfl (zt_f tc_9_14 t0) wM_X9_289 mi_X3_worstEnemy sl_X3_worstEnemy dX9_enemy_10 rfl ⟨Nat.le_of_ble_eq_true rfl, Nat.le_of_ble_eq_true rfl⟩ rfl (Nat.le_of_ble_eq_true rfl) ⟨Nat.le_trans (Nat.le_of_ble_eq_true rfl) hcs.1, Nat.le_trans (Nat.le_of_ble_eq_true rfl) hcs.2⟩ ?_
    cases h
    exact z_xreti F hr hk (Nat.le_of_ble_eq_true rfl) (Nat.le_of_ble_eq_true rfl) dX9_enemy_13
  · have hM9 := kX9_needMan x.2.1 G x0 t0 x1 v (c1 + 1) r_2 v_1 hfl hq2
    cases h
    exact z_xcall1 F hnt hk [.int x1] [] hM9 mI_X9_needMan (c := 9) rfl t0 wM_X9_180 mi_X9_needMan sl_X9_needMan dX9_enemy_2 rfl ⟨Nat.le_of_ble_eq_true rfl, Nat.le_of_ble_eq_true rfl⟩ rfl (Nat.le_of_ble_eq_true rfl) ⟨Nat.le_trans (Nat.le_of_ble_eq_true rfl) hcs.1, Nat.le_trans (Nat.le_of_ble_eq_true rfl) hcs.2⟩ (Nat.le_of_ble_eq_true rfl) (Nat.le_of_ble_eq_true rfl)

theorem dX9_ring_0 : decode cX9_ring 0 = .ok (.aload_n 0, 1) := by decide +kernel
theorem dX9_ring_1 : decode cX9_ring 1 = .ok (.iload_n 1, 1) := by decide +kernel
theorem dX9_ring_2 : decode cX9_ring 2 = .ok (.invokevirtual 180, 3) := by decide +kernel
theorem dX9_ring_5 : decode cX9_ring 5 = .ok (.aload_n 0, 1) := by decide +kernel
theorem dX9_ring_6 : decode cX9_ring 6 = .ok (.iload_n 2, 1) := by decide +kernel
theorem dX9_ring_7 : decode cX9_ring 7 = .ok (.iconst 0, 1) := by decide +kernel
theorem dX9_ring_8 : decode cX9_ring 8 = .ok (.iconst 1, 1) := by decide +kernel
theorem dX9_ring_9 : decode cX9_ring 9 = .ok (.invokestatic 150, 3) := by decide +kernel
theorem dX9_ring_12 : decode cX9_ring 12 = .ok (.invokevirtual 154, 3) := by decide +kernel
theorem dX9_ring_15 : decode cX9_ring 15 = .ok (.aload_n 0, 1) := by decide +kernel
theorem dX9_ring_16 : decode cX9_ring 16 = .ok (.getfield 92, 3) := by decide +kernel
theorem dX9_ring_19 : decode cX9_ring 19 = .ok (.iload_n 1, 1) := by decide +kernel
theorem dX9_ring_20 : decode cX9_ring 20 = .ok (.iload_n 2, 1) := by decide +kernel
theorem dX9_ring_21 : decode cX9_ring 21 = .ok (.invokevirtual 292, 3) := by decide +kernel
theorem dX9_ring_24 : decode cX9_ring 24 = .ok (.ireturn, 1) := by decide +kernel
def fX9_ring (x0 : Nat) (x1 : Int32) (x2 : Int32) (v : zV) : Option (Nat × Int32 × zV) :=
  zbindx (fX9_needMan x0 x1 v) (fun r_2 v_1 =>
    zbind (fX9_within x2 (0 : Int32) (1 : Int32) v_1) fun r_4 v_3 =>
    zbindx (fX9_need x0 r_4 v_3) (fun r_6 v_5 =>
      zbind (fX3_ringFrom (zrf x0 14) x1 x2 v_5) fun r_8 v_7 =>
      some (0, r_8, v_7))
    (0 : Int32))
  (0 : Int32)
set_option maxRecDepth 4000 in
theorem kX9_ring (l : Launch) (G : zG) (x0 : Nat) (t0 : zty G x0 1 9) (x1 : Int32) (x2 : Int32) (v : zV) (c : Nat) (r : Int32) (w : zV) (hfl9 : l.stackTraces = false) (h : fX9_ring x0 x1 x2 v = some (c, r, w)) : zXM l yX9_ring cX9_ring 3 (Option.some FieldType.int) 7 176 2 12 [zr G x0, .int x1, .int x2] G v c (some (.int r)) w := by
  refine zXM_of (own := RX9) (by decide) rfl (Nat.le_of_ble_eq_true rfl) (fun x hl F hr hk hcs hnt => ?_)
  subst hl
  have hfl := hfl9
  refine z_ls [(0, zr G x0), (1, .int x1), (2, .int x2)] [0, 1, 2] rfl ?_
  unfold fX9_ring at h
  refine z_aload_n F dX9_ring_0 rfl 0 rfl ?_
  refine z_iload_n F dX9_ring_1 rfl 1 rfl ?_
  rcases zbindx_ex h with ⟨r_2, v_1, hq2, h⟩ | ⟨c1, r_2, v_1, hq2, h⟩
  · have hM9 := kX9_needMan x.2.1 G x0 t0 x1 v 0 r_2 v_1 hfl hq2
    refine z_xcall0 F [.int x1] [] hM9 mI_X9_needMan (c := 9) rfl t0 wM_X9_180 mi_X9_needMan sl_X9_needMan dX9_ring_2 rfl ⟨Nat.le_of_ble_eq_true rfl, Nat.le_of_ble_eq_true rfl⟩ rfl (Nat.le_of_ble_eq_true rfl) ⟨Nat.le_trans (Nat.le_of_ble_eq_true rfl) hcs.1, Nat.le_trans (Nat.le_of_ble_eq_true rfl) hcs.2⟩ ?_
    refine z_id (st := []) ?_
    refine z_aload_n F dX9_ring_5 rfl 0 rfl ?_
    refine z_iload_n F dX9_ring_6 rfl 2 rfl ?_
    refine z_iconst (y := (0 : Int32)) F dX9_ring_7 rfl ?_
    refine z_iconst (y := (1 : Int32)) F dX9_ring_8 rfl ?_
    obtain ⟨r_4, v_3, hq9, h⟩ := zbind_ex h
    refine z_callSi F [.int x2, .int (0 : Int32), .int (1 : Int32)] [zr G x0] (kX9_within x.2.1 G x2 (0 : Int32) (1 : Int32) v_1 r_4 v_3 hq9) mI_X9_within wM_X9_150 ms_X9_within dX9_ring_9 rfl ⟨Nat.le_of_ble_eq_true rfl, Nat.le_of_ble_eq_true rfl⟩ rfl (Nat.le_of_ble_eq_true rfl) ⟨Nat.le_trans (Nat.le_of_ble_eq_true rfl) hcs.1, Nat.le_trans (Nat.le_of_ble_eq_true rfl) hcs.2⟩ ?_
    rcases zbindx_ex h with ⟨r_6, v_5, hq12, h⟩ | ⟨c1, r_6, v_5, hq12, h⟩
    · have hM9 := kX9_need x.2.1 G x0 t0 r_4 v_3 0 r_6 v_5 hfl hq12
      refine z_xcall0 F [.int r_4] [] hM9 mI_X9_need (c := 9) rfl t0 wM_X9_154 mi_X9_need sl_X9_need dX9_ring_12 rfl ⟨Nat.le_of_ble_eq_true rfl, Nat.le_of_ble_eq_true rfl⟩ rfl (Nat.le_of_ble_eq_true rfl) ⟨Nat.le_trans (Nat.le_of_ble_eq_true rfl) hcs.1, Nat.le_trans (Nat.le_of_ble_eq_true rfl) hcs.2⟩ ?_
      refine z_id (st := []) ?_
      refine z_aload_n F dX9_ring_15 rfl 0 rfl ?_
      refine zg_9_14 F t0 wF_X9_92 dX9_ring_16 ?_
      refine z_iload_n F dX9_ring_19 rfl 1 rfl ?_
      refine z_iload_n F dX9_ring_20 rfl 2 rfl ?_
      obtain ⟨r_8, v_7, hq21, h⟩ := zbind_ex h
      refine z_callVi F [.int x1, .int x2] [] (kX3_ringFrom x.2.1 G (zrf x0 14) (zt_f tc_9_14 t0) x1 x2 v_5 r_8 v_7 hq21) mI_X3_ringFrom (c := 3) rfl (zt_f tc_9_14 t0) wM_X9_292 mi_X3_ringFrom sl_X3_ringFrom dX9_ring_21 rfl ⟨Nat.le_of_ble_eq_true rfl, Nat.le_of_ble_eq_true rfl⟩ rfl (Nat.le_of_ble_eq_true rfl) ⟨Nat.le_trans (Nat.le_of_ble_eq_true rfl) hcs.1, Nat.le_trans (Nat.le_of_ble_eq_true rfl) hcs.2⟩ ?_
      cases h
      exact z_xreti F hr hk (Nat.le_of_ble_eq_true rfl) (Nat.le_of_ble_eq_true rfl) dX9_ring_24
    · have hM9 := kX9_need x.2.1 G x0 t0 r_4 v_3 (c1 + 1) r_6 v_5 hfl hq12
      cases h
      exact z_xcall1 F hnt hk [.int r_4] [] hM9 mI_X9_need (c := 9) rfl t0 wM_X9_154 mi_X9_need sl_X9_need dX9_ring_12 rfl ⟨Nat.le_of_ble_eq_true rfl, Nat.le_of_ble_eq_true rfl⟩ rfl (Nat.le_of_ble_eq_true rfl) ⟨Nat.le_trans (Nat.le_of_ble_eq_true rfl) hcs.1, Nat.le_trans (Nat.le_of_ble_eq_true rfl) hcs.2⟩ (Nat.le_of_ble_eq_true rfl) (Nat.le_of_ble_eq_true rfl)
  · have hM9 := kX9_needMan x.2.1 G x0 t0 x1 v (c1 + 1) r_2 v_1 hfl hq2
    cases h
    exact z_xcall1 F hnt hk [.int x1] [] hM9 mI_X9_needMan (c := 9) rfl t0 wM_X9_180 mi_X9_needMan sl_X9_needMan dX9_ring_2 rfl ⟨Nat.le_of_ble_eq_true rfl, Nat.le_of_ble_eq_true rfl⟩ rfl (Nat.le_of_ble_eq_true rfl) ⟨Nat.le_trans (Nat.le_of_ble_eq_true rfl) hcs.1, Nat.le_trans (Nat.le_of_ble_eq_true rfl) hcs.2⟩ (Nat.le_of_ble_eq_true rfl) (Nat.le_of_ble_eq_true rfl)

theorem dX9_vote_0 : decode cX9_vote 0 = .ok (.aload_n 0, 1) := by decide +kernel
theorem dX9_vote_1 : decode cX9_vote 1 = .ok (.iload_n 1, 1) := by decide +kernel
theorem dX9_vote_2 : decode cX9_vote 2 = .ok (.invokevirtual 205, 3) := by decide +kernel
theorem dX9_vote_5 : decode cX9_vote 5 = .ok (.aload_n 0, 1) := by decide +kernel
theorem dX9_vote_6 : decode cX9_vote 6 = .ok (.iload_n 2, 1) := by decide +kernel
theorem dX9_vote_7 : decode cX9_vote 7 = .ok (.iconst 1, 1) := by decide +kernel
theorem dX9_vote_8 : decode cX9_vote 8 = .ok (.bipush 12, 2) := by decide +kernel
theorem dX9_vote_10 : decode cX9_vote 10 = .ok (.invokestatic 150, 3) := by decide +kernel
theorem dX9_vote_13 : decode cX9_vote 13 = .ok (.invokevirtual 154, 3) := by decide +kernel
theorem dX9_vote_16 : decode cX9_vote 16 = .ok (.aload_n 0, 1) := by decide +kernel
theorem dX9_vote_17 : decode cX9_vote 17 = .ok (.iload_n 3, 1) := by decide +kernel
theorem dX9_vote_18 : decode cX9_vote 18 = .ok (.iconst 0, 1) := by decide +kernel
theorem dX9_vote_19 : decode cX9_vote 19 = .ok (.bipush 11, 2) := by decide +kernel
theorem dX9_vote_21 : decode cX9_vote 21 = .ok (.invokestatic 150, 3) := by decide +kernel
theorem dX9_vote_24 : decode cX9_vote 24 = .ok (.invokevirtual 154, 3) := by decide +kernel
theorem dX9_vote_27 : decode cX9_vote 27 = .ok (.aload_n 0, 1) := by decide +kernel
theorem dX9_vote_28 : decode cX9_vote 28 = .ok (.getfield 92, 3) := by decide +kernel
theorem dX9_vote_31 : decode cX9_vote 31 = .ok (.iload_n 1, 1) := by decide +kernel
theorem dX9_vote_32 : decode cX9_vote 32 = .ok (.iload_n 2, 1) := by decide +kernel
theorem dX9_vote_33 : decode cX9_vote 33 = .ok (.iload_n 3, 1) := by decide +kernel
theorem dX9_vote_34 : decode cX9_vote 34 = .ok (.invokevirtual 295, 3) := by decide +kernel
theorem dX9_vote_37 : decode cX9_vote 37 = .ok (.ireturn, 1) := by decide +kernel
def fX9_vote (x0 : Nat) (x1 : Int32) (x2 : Int32) (x3 : Int32) (v : zV) : Option (Nat × Int32 × zV) :=
  zbindx (fX9_needQuestion x0 x1 v) (fun r_2 v_1 =>
    zbind (fX9_within x2 (1 : Int32) (12 : Int32) v_1) fun r_4 v_3 =>
    zbindx (fX9_need x0 r_4 v_3) (fun r_6 v_5 =>
      zbind (fX9_within x3 (0 : Int32) (11 : Int32) v_5) fun r_8 v_7 =>
      zbindx (fX9_need x0 r_8 v_7) (fun r_10 v_9 =>
        zbind (fX3_voteBy (zrf x0 14) x1 x2 x3 v_9) fun r_12 v_11 =>
        some (0, r_12, v_11))
      (0 : Int32))
    (0 : Int32))
  (0 : Int32)
set_option maxRecDepth 4000 in
theorem kX9_vote (l : Launch) (G : zG) (x0 : Nat) (t0 : zty G x0 1 9) (x1 : Int32) (x2 : Int32) (x3 : Int32) (v : zV) (c : Nat) (r : Int32) (w : zV) (hfl9 : l.stackTraces = false) (h : fX9_vote x0 x1 x2 x3 v = some (c, r, w)) : zXM l yX9_vote cX9_vote 4 (Option.some FieldType.int) 7 192 3 18 [zr G x0, .int x1, .int x2, .int x3] G v c (some (.int r)) w := by
  refine zXM_of (own := RX9) (by decide) rfl (Nat.le_of_ble_eq_true rfl) (fun x hl F hr hk hcs hnt => ?_)
  subst hl
  have hfl := hfl9
  refine z_ls [(0, zr G x0), (1, .int x1), (2, .int x2), (3, .int x3)] [0, 1, 2, 3] rfl ?_
  unfold fX9_vote at h
  refine z_aload_n F dX9_vote_0 rfl 0 rfl ?_
  refine z_iload_n F dX9_vote_1 rfl 1 rfl ?_
  rcases zbindx_ex h with ⟨r_2, v_1, hq2, h⟩ | ⟨c1, r_2, v_1, hq2, h⟩
  · have hM9 := kX9_needQuestion x.2.1 G x0 t0 x1 v 0 r_2 v_1 hfl hq2
    refine z_xcall0 F [.int x1] [] hM9 mI_X9_needQuestion (c := 9) rfl t0 wM_X9_205 mi_X9_needQuestion sl_X9_needQuestion dX9_vote_2 rfl ⟨Nat.le_of_ble_eq_true rfl, Nat.le_of_ble_eq_true rfl⟩ rfl (Nat.le_of_ble_eq_true rfl) ⟨Nat.le_trans (Nat.le_of_ble_eq_true rfl) hcs.1, Nat.le_trans (Nat.le_of_ble_eq_true rfl) hcs.2⟩ ?_
    refine z_id (st := []) ?_
    refine z_aload_n F dX9_vote_5 rfl 0 rfl ?_
    refine z_iload_n F dX9_vote_6 rfl 2 rfl ?_
    refine z_iconst (y := (1 : Int32)) F dX9_vote_7 rfl ?_
    refine z_bipush (y := (12 : Int32)) F dX9_vote_8 rfl ?_
    obtain ⟨r_4, v_3, hq10, h⟩ := zbind_ex h
    refine z_callSi F [.int x2, .int (1 : Int32), .int (12 : Int32)] [zr G x0] (kX9_within x.2.1 G x2 (1 : Int32) (12 : Int32) v_1 r_4 v_3 hq10) mI_X9_within wM_X9_150 ms_X9_within dX9_vote_10 rfl ⟨Nat.le_of_ble_eq_true rfl, Nat.le_of_ble_eq_true rfl⟩ rfl (Nat.le_of_ble_eq_true rfl) ⟨Nat.le_trans (Nat.le_of_ble_eq_true rfl) hcs.1, Nat.le_trans (Nat.le_of_ble_eq_true rfl) hcs.2⟩ ?_
    rcases zbindx_ex h with ⟨r_6, v_5, hq13, h⟩ | ⟨c1, r_6, v_5, hq13, h⟩
    · have hM9 := kX9_need x.2.1 G x0 t0 r_4 v_3 0 r_6 v_5 hfl hq13
      refine z_xcall0 F [.int r_4] [] hM9 mI_X9_need (c := 9) rfl t0 wM_X9_154 mi_X9_need sl_X9_need dX9_vote_13 rfl ⟨Nat.le_of_ble_eq_true rfl, Nat.le_of_ble_eq_true rfl⟩ rfl (Nat.le_of_ble_eq_true rfl) ⟨Nat.le_trans (Nat.le_of_ble_eq_true rfl) hcs.1, Nat.le_trans (Nat.le_of_ble_eq_true rfl) hcs.2⟩ ?_
      refine z_id (st := []) ?_
      refine z_aload_n F dX9_vote_16 rfl 0 rfl ?_
      refine z_iload_n F dX9_vote_17 rfl 3 rfl ?_
      refine z_iconst (y := (0 : Int32)) F dX9_vote_18 rfl ?_
      refine z_bipush (y := (11 : Int32)) F dX9_vote_19 rfl ?_
      obtain ⟨r_8, v_7, hq21, h⟩ := zbind_ex h
      refine z_callSi F [.int x3, .int (0 : Int32), .int (11 : Int32)] [zr G x0] (kX9_within x.2.1 G x3 (0 : Int32) (11 : Int32) v_5 r_8 v_7 hq21) mI_X9_within wM_X9_150 ms_X9_within dX9_vote_21 rfl ⟨Nat.le_of_ble_eq_true rfl, Nat.le_of_ble_eq_true rfl⟩ rfl (Nat.le_of_ble_eq_true rfl) ⟨Nat.le_trans (Nat.le_of_ble_eq_true rfl) hcs.1, Nat.le_trans (Nat.le_of_ble_eq_true rfl) hcs.2⟩ ?_
      rcases zbindx_ex h with ⟨r_10, v_9, hq24, h⟩ | ⟨c1, r_10, v_9, hq24, h⟩
      · have hM9 := kX9_need x.2.1 G x0 t0 r_8 v_7 0 r_10 v_9 hfl hq24
        refine z_xcall0 F [.int r_8] [] hM9 mI_X9_need (c := 9) rfl t0 wM_X9_154 mi_X9_need sl_X9_need dX9_vote_24 rfl ⟨Nat.le_of_ble_eq_true rfl, Nat.le_of_ble_eq_true rfl⟩ rfl (Nat.le_of_ble_eq_true rfl) ⟨Nat.le_trans (Nat.le_of_ble_eq_true rfl) hcs.1, Nat.le_trans (Nat.le_of_ble_eq_true rfl) hcs.2⟩ ?_
        refine z_id (st := []) ?_
        refine z_aload_n F dX9_vote_27 rfl 0 rfl ?_
        refine zg_9_14 F t0 wF_X9_92 dX9_vote_28 ?_
        refine z_iload_n F dX9_vote_31 rfl 1 rfl ?_
        refine z_iload_n F dX9_vote_32 rfl 2 rfl ?_
        refine z_iload_n F dX9_vote_33 rfl 3 rfl ?_
        obtain ⟨r_12, v_11, hq34, h⟩ := zbind_ex h
        refine z_callVi F [.int x1, .int x2, .int x3] [] (kX3_voteBy x.2.1 G (zrf x0 14) (zt_f tc_9_14 t0) x1 x2 x3 v_9 r_12 v_11 hq34) mI_X3_voteBy (c := 3) rfl (zt_f tc_9_14 t0) wM_X9_295 mi_X3_voteBy sl_X3_voteBy dX9_vote_34 rfl ⟨Nat.le_of_ble_eq_true rfl, Nat.le_of_ble_eq_true rfl⟩ rfl (Nat.le_of_ble_eq_true rfl) ⟨Nat.le_trans (Nat.le_of_ble_eq_true rfl) hcs.1, Nat.le_trans (Nat.le_of_ble_eq_true rfl) hcs.2⟩ ?_
        cases h
        exact z_xreti F hr hk (Nat.le_of_ble_eq_true rfl) (Nat.le_of_ble_eq_true rfl) dX9_vote_37
      · have hM9 := kX9_need x.2.1 G x0 t0 r_8 v_7 (c1 + 1) r_10 v_9 hfl hq24
        cases h
        exact z_xcall1 F hnt hk [.int r_8] [] hM9 mI_X9_need (c := 9) rfl t0 wM_X9_154 mi_X9_need sl_X9_need dX9_vote_24 rfl ⟨Nat.le_of_ble_eq_true rfl, Nat.le_of_ble_eq_true rfl⟩ rfl (Nat.le_of_ble_eq_true rfl) ⟨Nat.le_trans (Nat.le_of_ble_eq_true rfl) hcs.1, Nat.le_trans (Nat.le_of_ble_eq_true rfl) hcs.2⟩ (Nat.le_of_ble_eq_true rfl) (Nat.le_of_ble_eq_true rfl)
    · have hM9 := kX9_need x.2.1 G x0 t0 r_4 v_3 (c1 + 1) r_6 v_5 hfl hq13
      cases h
      exact z_xcall1 F hnt hk [.int r_4] [] hM9 mI_X9_need (c := 9) rfl t0 wM_X9_154 mi_X9_need sl_X9_need dX9_vote_13 rfl ⟨Nat.le_of_ble_eq_true rfl, Nat.le_of_ble_eq_true rfl⟩ rfl (Nat.le_of_ble_eq_true rfl) ⟨Nat.le_trans (Nat.le_of_ble_eq_true rfl) hcs.1, Nat.le_trans (Nat.le_of_ble_eq_true rfl) hcs.2⟩ (Nat.le_of_ble_eq_true rfl) (Nat.le_of_ble_eq_true rfl)
  · have hM9 := kX9_needQuestion x.2.1 G x0 t0 x1 v (c1 + 1) r_2 v_1 hfl hq2
    cases h
    exact z_xcall1 F hnt hk [.int x1] [] hM9 mI_X9_needQuestion (c := 9) rfl t0 wM_X9_205 mi_X9_needQuestion sl_X9_needQuestion dX9_vote_2 rfl ⟨Nat.le_of_ble_eq_true rfl, Nat.le_of_ble_eq_true rfl⟩ rfl (Nat.le_of_ble_eq_true rfl) ⟨Nat.le_trans (Nat.le_of_ble_eq_true rfl) hcs.1, Nat.le_trans (Nat.le_of_ble_eq_true rfl) hcs.2⟩ (Nat.le_of_ble_eq_true rfl) (Nat.le_of_ble_eq_true rfl)

theorem dX9_skip_0 : decode cX9_skip 0 = .ok (.aload_n 0, 1) := by decide +kernel
theorem dX9_skip_1 : decode cX9_skip 1 = .ok (.iload_n 1, 1) := by decide +kernel
theorem dX9_skip_2 : decode cX9_skip 2 = .ok (.invokevirtual 205, 3) := by decide +kernel
theorem dX9_skip_5 : decode cX9_skip 5 = .ok (.aload_n 0, 1) := by decide +kernel
theorem dX9_skip_6 : decode cX9_skip 6 = .ok (.getfield 92, 3) := by decide +kernel
theorem dX9_skip_9 : decode cX9_skip 9 = .ok (.iload_n 1, 1) := by decide +kernel
theorem dX9_skip_10 : decode cX9_skip 10 = .ok (.invokevirtual 299, 3) := by decide +kernel
theorem dX9_skip_13 : decode cX9_skip 13 = .ok (.ireturn, 1) := by decide +kernel
def fX9_skip (x0 : Nat) (x1 : Int32) (v : zV) : Option (Nat × Int32 × zV) :=
  zbindx (fX9_needQuestion x0 x1 v) (fun r_2 v_1 =>
    zbind (fX3_longestSkip (zrf x0 14) x1 v_1) fun r_4 v_3 =>
    some (0, r_4, v_3))
  (0 : Int32)
set_option maxRecDepth 4000 in
theorem kX9_skip (l : Launch) (G : zG) (x0 : Nat) (t0 : zty G x0 1 9) (x1 : Int32) (v : zV) (c : Nat) (r : Int32) (w : zV) (hfl9 : l.stackTraces = false) (h : fX9_skip x0 x1 v = some (c, r, w)) : zXM l yX9_skip cX9_skip 2 (Option.some FieldType.int) 7 171 1 6 [zr G x0, .int x1] G v c (some (.int r)) w := by
  refine zXM_of (own := RX9) (by decide) rfl (Nat.le_of_ble_eq_true rfl) (fun x hl F hr hk hcs hnt => ?_)
  subst hl
  have hfl := hfl9
  refine z_ls [(0, zr G x0), (1, .int x1)] [0, 1] rfl ?_
  unfold fX9_skip at h
  refine z_aload_n F dX9_skip_0 rfl 0 rfl ?_
  refine z_iload_n F dX9_skip_1 rfl 1 rfl ?_
  rcases zbindx_ex h with ⟨r_2, v_1, hq2, h⟩ | ⟨c1, r_2, v_1, hq2, h⟩
  · have hM9 := kX9_needQuestion x.2.1 G x0 t0 x1 v 0 r_2 v_1 hfl hq2
    refine z_xcall0 F [.int x1] [] hM9 mI_X9_needQuestion (c := 9) rfl t0 wM_X9_205 mi_X9_needQuestion sl_X9_needQuestion dX9_skip_2 rfl ⟨Nat.le_of_ble_eq_true rfl, Nat.le_of_ble_eq_true rfl⟩ rfl (Nat.le_of_ble_eq_true rfl) ⟨Nat.le_trans (Nat.le_of_ble_eq_true rfl) hcs.1, Nat.le_trans (Nat.le_of_ble_eq_true rfl) hcs.2⟩ ?_
    refine z_id (st := []) ?_
    refine z_aload_n F dX9_skip_5 rfl 0 rfl ?_
    refine zg_9_14 F t0 wF_X9_92 dX9_skip_6 ?_
    refine z_iload_n F dX9_skip_9 rfl 1 rfl ?_
    obtain ⟨r_4, v_3, hq10, h⟩ := zbind_ex h
    refine z_callVi F [.int x1] [] (kX3_longestSkip x.2.1 G (zrf x0 14) (zt_f tc_9_14 t0) x1 v_1 r_4 v_3 hq10) mI_X3_longestSkip (c := 3) rfl (zt_f tc_9_14 t0) wM_X9_299 mi_X3_longestSkip sl_X3_longestSkip dX9_skip_10 rfl ⟨Nat.le_of_ble_eq_true rfl, Nat.le_of_ble_eq_true rfl⟩ rfl (Nat.le_of_ble_eq_true rfl) ⟨Nat.le_trans (Nat.le_of_ble_eq_true rfl) hcs.1, Nat.le_trans (Nat.le_of_ble_eq_true rfl) hcs.2⟩ ?_
    cases h
    exact z_xreti F hr hk (Nat.le_of_ble_eq_true rfl) (Nat.le_of_ble_eq_true rfl) dX9_skip_13
  · have hM9 := kX9_needQuestion x.2.1 G x0 t0 x1 v (c1 + 1) r_2 v_1 hfl hq2
    cases h
    exact z_xcall1 F hnt hk [.int x1] [] hM9 mI_X9_needQuestion (c := 9) rfl t0 wM_X9_205 mi_X9_needQuestion sl_X9_needQuestion dX9_skip_2 rfl ⟨Nat.le_of_ble_eq_true rfl, Nat.le_of_ble_eq_true rfl⟩ rfl (Nat.le_of_ble_eq_true rfl) ⟨Nat.le_trans (Nat.le_of_ble_eq_true rfl) hcs.1, Nat.le_trans (Nat.le_of_ble_eq_true rfl) hcs.2⟩ (Nat.le_of_ble_eq_true rfl) (Nat.le_of_ble_eq_true rfl)

theorem dX9_flip_0 : decode cX9_flip 0 = .ok (.aload_n 0, 1) := by decide +kernel
theorem dX9_flip_1 : decode cX9_flip 1 = .ok (.iload_n 1, 1) := by decide +kernel
theorem dX9_flip_2 : decode cX9_flip 2 = .ok (.invokevirtual 205, 3) := by decide +kernel
theorem dX9_flip_5 : decode cX9_flip 5 = .ok (.aload_n 0, 1) := by decide +kernel
theorem dX9_flip_6 : decode cX9_flip 6 = .ok (.getfield 92, 3) := by decide +kernel
theorem dX9_flip_9 : decode cX9_flip 9 = .ok (.iload_n 1, 1) := by decide +kernel
theorem dX9_flip_10 : decode cX9_flip 10 = .ok (.invokevirtual 305, 3) := by decide +kernel
theorem dX9_flip_13 : decode cX9_flip 13 = .ok (.ireturn, 1) := by decide +kernel
def fX9_flip (x0 : Nat) (x1 : Int32) (v : zV) : Option (Nat × Int32 × zV) :=
  zbindx (fX9_needQuestion x0 x1 v) (fun r_2 v_1 =>
    zbind (fX3_fewestToFlip (zrf x0 14) x1 v_1) fun r_4 v_3 =>
    some (0, r_4, v_3))
  (0 : Int32)
set_option maxRecDepth 4000 in
theorem kX9_flip (l : Launch) (G : zG) (x0 : Nat) (t0 : zty G x0 1 9) (x1 : Int32) (v : zV) (c : Nat) (r : Int32) (w : zV) (hfl9 : l.stackTraces = false) (h : fX9_flip x0 x1 v = some (c, r, w)) : zXM l yX9_flip cX9_flip 2 (Option.some FieldType.int) 7 217 1 6 [zr G x0, .int x1] G v c (some (.int r)) w := by
  refine zXM_of (own := RX9) (by decide) rfl (Nat.le_of_ble_eq_true rfl) (fun x hl F hr hk hcs hnt => ?_)
  subst hl
  have hfl := hfl9
  refine z_ls [(0, zr G x0), (1, .int x1)] [0, 1] rfl ?_
  unfold fX9_flip at h
  refine z_aload_n F dX9_flip_0 rfl 0 rfl ?_
  refine z_iload_n F dX9_flip_1 rfl 1 rfl ?_
  rcases zbindx_ex h with ⟨r_2, v_1, hq2, h⟩ | ⟨c1, r_2, v_1, hq2, h⟩
  · have hM9 := kX9_needQuestion x.2.1 G x0 t0 x1 v 0 r_2 v_1 hfl hq2
    refine z_xcall0 F [.int x1] [] hM9 mI_X9_needQuestion (c := 9) rfl t0 wM_X9_205 mi_X9_needQuestion sl_X9_needQuestion dX9_flip_2 rfl ⟨Nat.le_of_ble_eq_true rfl, Nat.le_of_ble_eq_true rfl⟩ rfl (Nat.le_of_ble_eq_true rfl) ⟨Nat.le_trans (Nat.le_of_ble_eq_true rfl) hcs.1, Nat.le_trans (Nat.le_of_ble_eq_true rfl) hcs.2⟩ ?_
    refine z_id (st := []) ?_
    refine z_aload_n F dX9_flip_5 rfl 0 rfl ?_
    refine zg_9_14 F t0 wF_X9_92 dX9_flip_6 ?_
    refine z_iload_n F dX9_flip_9 rfl 1 rfl ?_
    obtain ⟨r_4, v_3, hq10, h⟩ := zbind_ex h
    refine z_callVi F [.int x1] [] (kX3_fewestToFlip x.2.1 G (zrf x0 14) (zt_f tc_9_14 t0) x1 v_1 r_4 v_3 hq10) mI_X3_fewestToFlip (c := 3) rfl (zt_f tc_9_14 t0) wM_X9_305 mi_X3_fewestToFlip sl_X3_fewestToFlip dX9_flip_10 rfl ⟨Nat.le_of_ble_eq_true rfl, Nat.le_of_ble_eq_true rfl⟩ rfl (Nat.le_of_ble_eq_true rfl) ⟨Nat.le_trans (Nat.le_of_ble_eq_true rfl) hcs.1, Nat.le_trans (Nat.le_of_ble_eq_true rfl) hcs.2⟩ ?_
    cases h
    exact z_xreti F hr hk (Nat.le_of_ble_eq_true rfl) (Nat.le_of_ble_eq_true rfl) dX9_flip_13
  · have hM9 := kX9_needQuestion x.2.1 G x0 t0 x1 v (c1 + 1) r_2 v_1 hfl hq2
    cases h
    exact z_xcall1 F hnt hk [.int x1] [] hM9 mI_X9_needQuestion (c := 9) rfl t0 wM_X9_205 mi_X9_needQuestion sl_X9_needQuestion dX9_flip_2 rfl ⟨Nat.le_of_ble_eq_true rfl, Nat.le_of_ble_eq_true rfl⟩ rfl (Nat.le_of_ble_eq_true rfl) ⟨Nat.le_trans (Nat.le_of_ble_eq_true rfl) hcs.1, Nat.le_trans (Nat.le_of_ble_eq_true rfl) hcs.2⟩ (Nat.le_of_ble_eq_true rfl) (Nat.le_of_ble_eq_true rfl)

theorem dX9_patrons_0 : decode cX9_patrons 0 = .ok (.aload_n 0, 1) := by decide +kernel
theorem dX9_patrons_1 : decode cX9_patrons 1 = .ok (.iload_n 1, 1) := by decide +kernel
theorem dX9_patrons_2 : decode cX9_patrons 2 = .ok (.invokevirtual 180, 3) := by decide +kernel
theorem dX9_patrons_5 : decode cX9_patrons 5 = .ok (.aload_n 0, 1) := by decide +kernel
theorem dX9_patrons_6 : decode cX9_patrons 6 = .ok (.iload_n 2, 1) := by decide +kernel
theorem dX9_patrons_7 : decode cX9_patrons 7 = .ok (.invokevirtual 180, 3) := by decide +kernel
theorem dX9_patrons_10 : decode cX9_patrons 10 = .ok (.aload_n 0, 1) := by decide +kernel
theorem dX9_patrons_11 : decode cX9_patrons 11 = .ok (.iload_n 1, 1) := by decide +kernel
theorem dX9_patrons_12 : decode cX9_patrons 12 = .ok (.iload_n 2, 1) := by decide +kernel
theorem dX9_patrons_13 : decode cX9_patrons 13 = .ok (.if_icmp .eq 29, 3) := by decide +kernel
theorem dX9_patrons_16 : decode cX9_patrons 16 = .ok (.aload_n 0, 1) := by decide +kernel
theorem dX9_patrons_17 : decode cX9_patrons 17 = .ok (.getfield 49, 3) := by decide +kernel
theorem dX9_patrons_20 : decode cX9_patrons 20 = .ok (.iload_n 1, 1) := by decide +kernel
theorem dX9_patrons_21 : decode cX9_patrons 21 = .ok (.invokevirtual 251, 3) := by decide +kernel
theorem dX9_patrons_24 : decode cX9_patrons 24 = .ok (.ifCond .eq 18, 3) := by decide +kernel
theorem dX9_patrons_27 : decode cX9_patrons 27 = .ok (.aload_n 0, 1) := by decide +kernel
theorem dX9_patrons_28 : decode cX9_patrons 28 = .ok (.getfield 49, 3) := by decide +kernel
theorem dX9_patrons_31 : decode cX9_patrons 31 = .ok (.iload_n 2, 1) := by decide +kernel
theorem dX9_patrons_32 : decode cX9_patrons 32 = .ok (.invokevirtual 251, 3) := by decide +kernel
theorem dX9_patrons_35 : decode cX9_patrons 35 = .ok (.ifCond .eq 7, 3) := by decide +kernel
theorem dX9_patrons_38 : decode cX9_patrons 38 = .ok (.iconst 1, 1) := by decide +kernel
theorem dX9_patrons_39 : decode cX9_patrons 39 = .ok (.goto 4, 3) := by decide +kernel
theorem dX9_patrons_42 : decode cX9_patrons 42 = .ok (.iconst 0, 1) := by decide +kernel
theorem dX9_patrons_43 : decode cX9_patrons 43 = .ok (.invokevirtual 154, 3) := by decide +kernel
theorem dX9_patrons_46 : decode cX9_patrons 46 = .ok (.aload_n 0, 1) := by decide +kernel
theorem dX9_patrons_47 : decode cX9_patrons 47 = .ok (.iload_n 3, 1) := by decide +kernel
theorem dX9_patrons_48 : decode cX9_patrons 48 = .ok (.iconst 1, 1) := by decide +kernel
theorem dX9_patrons_49 : decode cX9_patrons 49 = .ok (.bipush 99, 2) := by decide +kernel
theorem dX9_patrons_51 : decode cX9_patrons 51 = .ok (.invokestatic 150, 3) := by decide +kernel
theorem dX9_patrons_54 : decode cX9_patrons 54 = .ok (.invokevirtual 154, 3) := by decide +kernel
theorem dX9_patrons_57 : decode cX9_patrons 57 = .ok (.aload_n 0, 1) := by decide +kernel
theorem dX9_patrons_58 : decode cX9_patrons 58 = .ok (.iload 4, 2) := by decide +kernel
theorem dX9_patrons_60 : decode cX9_patrons 60 = .ok (.iconst 0, 1) := by decide +kernel
theorem dX9_patrons_61 : decode cX9_patrons 61 = .ok (.iconst 1, 1) := by decide +kernel
theorem dX9_patrons_62 : decode cX9_patrons 62 = .ok (.invokestatic 150, 3) := by decide +kernel
theorem dX9_patrons_65 : decode cX9_patrons 65 = .ok (.invokevirtual 154, 3) := by decide +kernel
theorem dX9_patrons_68 : decode cX9_patrons 68 = .ok (.aload_n 0, 1) := by decide +kernel
theorem dX9_patrons_69 : decode cX9_patrons 69 = .ok (.getfield 74, 3) := by decide +kernel
theorem dX9_patrons_72 : decode cX9_patrons 72 = .ok (.iload_n 1, 1) := by decide +kernel
theorem dX9_patrons_73 : decode cX9_patrons 73 = .ok (.iload_n 2, 1) := by decide +kernel
theorem dX9_patrons_74 : decode cX9_patrons 74 = .ok (.iload_n 3, 1) := by decide +kernel
theorem dX9_patrons_75 : decode cX9_patrons 75 = .ok (.iload 4, 2) := by decide +kernel
theorem dX9_patrons_77 : decode cX9_patrons 77 = .ok (.invokevirtual 308, 3) := by decide +kernel
theorem dX9_patrons_80 : decode cX9_patrons 80 = .ok (.ireturn, 1) := by decide +kernel
def fX9_patrons_43  (x0 : Nat) (x1 : Int32) (x2 : Int32) (x3 : Int32) (x4 : Int32) (s0 : Nat) (s1 : Int32) (v : zV) : Option (Nat × Int32 × zV) :=
  zbindx (fX9_need s0 s1 v) (fun r_2 v_1 =>
    zbind (fX9_within x3 (1 : Int32) (99 : Int32) v_1) fun r_4 v_3 =>
    zbindx (fX9_need x0 r_4 v_3) (fun r_6 v_5 =>
      zbind (fX9_within x4 (0 : Int32) (1 : Int32) v_5) fun r_8 v_7 =>
      zbindx (fX9_need x0 r_8 v_7) (fun r_10 v_9 =>
        zbind (fX4_quietPairs (zrf x0 12) x1 x2 x3 x4 v_9) fun r_12 v_11 =>
        some (0, r_12, v_11))
      (0 : Int32))
    (0 : Int32))
  (0 : Int32)
set_option maxRecDepth 4000 in
theorem jX9_patrons_43 (x : zCx) (G : zG) (F : zF x G cX9_patrons 5 RX9 8 240) (hr : x.2.2.2.2.2.2.2.2.1.sig.returnType = (Option.some FieldType.int)) (hk : x.2.2.2.2.2.2.2.2.1.locks = false) (hcs : 5 ≤ x.2.2.2.1.cells ∧ 30 ≤ x.2.2.2.1.slots) (hfl : x.2.1.stackTraces = false) (hnt : ∀ z ∈ x.2.2.2.2.2.2.2.2.2.exceptionTable.toList, False) (c : Nat) (r : Int32) (w : zV)  : ∀ (x0 : Nat) (t0 : zty G x0 1 9) (x1 : Int32) (x2 : Int32) (x3 : Int32) (x4 : Int32) (s0 : Nat) (ts0 : zty G s0 1 9) (s1 : Int32) (v : zV), fX9_patrons_43 x0 x1 x2 x3 x4 s0 s1 v = some (c, r, w) → zJ x G 5 (zXQ x G c (some (.int r)) w 5 30) 2 12 43 [(0, zr G x0), (1, .int x1), (2, .int x2), (3, .int x3), (4, .int x4)] [.int s1, zr G s0] v := by
  intro x0 t0 x1 x2 x3 x4 s0 ts0 s1 v h
  unfold fX9_patrons_43 at h
  rcases zbindx_ex h with ⟨r_2, v_1, hq43, h⟩ | ⟨c1, r_2, v_1, hq43, h⟩
  · have hM9 := kX9_need x.2.1 G s0 ts0 s1 v 0 r_2 v_1 hfl hq43
    refine z_xcall0 F [.int s1] [] hM9 mI_X9_need (c := 9) rfl ts0 wM_X9_154 mi_X9_need sl_X9_need dX9_patrons_43 rfl ⟨Nat.le_of_ble_eq_true rfl, Nat.le_of_ble_eq_true rfl⟩ rfl (Nat.le_of_ble_eq_true rfl) ⟨Nat.le_trans (Nat.le_of_ble_eq_true rfl) hcs.1, Nat.le_trans (Nat.le_of_ble_eq_true rfl) hcs.2⟩ ?_
    refine z_id (st := []) ?_
    refine z_aload_n F dX9_patrons_46 rfl 0 rfl ?_
    refine z_iload_n F dX9_patrons_47 rfl 3 rfl ?_
    refine z_iconst (y := (1 : Int32)) F dX9_patrons_48 rfl ?_
    refine z_bipush (y := (99 : Int32)) F dX9_patrons_49 rfl ?_
    obtain ⟨r_4, v_3, hq51, h⟩ := zbind_ex h
    refine z_callSi F [.int x3, .int (1 : Int32), .int (99 : Int32)] [zr G x0] (kX9_within x.2.1 G x3 (1 : Int32) (99 : Int32) v_1 r_4 v_3 hq51) mI_X9_within wM_X9_150 ms_X9_within dX9_patrons_51 rfl ⟨Nat.le_of_ble_eq_true rfl, Nat.le_of_ble_eq_true rfl⟩ rfl (Nat.le_of_ble_eq_true rfl) ⟨Nat.le_trans (Nat.le_of_ble_eq_true rfl) hcs.1, Nat.le_trans (Nat.le_of_ble_eq_true rfl) hcs.2⟩ ?_
    rcases zbindx_ex h with ⟨r_6, v_5, hq54, h⟩ | ⟨c1, r_6, v_5, hq54, h⟩
    · have hM9 := kX9_need x.2.1 G x0 t0 r_4 v_3 0 r_6 v_5 hfl hq54
      refine z_xcall0 F [.int r_4] [] hM9 mI_X9_need (c := 9) rfl t0 wM_X9_154 mi_X9_need sl_X9_need dX9_patrons_54 rfl ⟨Nat.le_of_ble_eq_true rfl, Nat.le_of_ble_eq_true rfl⟩ rfl (Nat.le_of_ble_eq_true rfl) ⟨Nat.le_trans (Nat.le_of_ble_eq_true rfl) hcs.1, Nat.le_trans (Nat.le_of_ble_eq_true rfl) hcs.2⟩ ?_
      refine z_id (st := []) ?_
      refine z_aload_n F dX9_patrons_57 rfl 0 rfl ?_
      refine z_iload F dX9_patrons_58 4 rfl ?_
      refine z_iconst (y := (0 : Int32)) F dX9_patrons_60 rfl ?_
      refine z_iconst (y := (1 : Int32)) F dX9_patrons_61 rfl ?_
      obtain ⟨r_8, v_7, hq62, h⟩ := zbind_ex h
      refine z_callSi F [.int x4, .int (0 : Int32), .int (1 : Int32)] [zr G x0] (kX9_within x.2.1 G x4 (0 : Int32) (1 : Int32) v_5 r_8 v_7 hq62) mI_X9_within wM_X9_150 ms_X9_within dX9_patrons_62 rfl ⟨Nat.le_of_ble_eq_true rfl, Nat.le_of_ble_eq_true rfl⟩ rfl (Nat.le_of_ble_eq_true rfl) ⟨Nat.le_trans (Nat.le_of_ble_eq_true rfl) hcs.1, Nat.le_trans (Nat.le_of_ble_eq_true rfl) hcs.2⟩ ?_
      rcases zbindx_ex h with ⟨r_10, v_9, hq65, h⟩ | ⟨c1, r_10, v_9, hq65, h⟩
      · have hM9 := kX9_need x.2.1 G x0 t0 r_8 v_7 0 r_10 v_9 hfl hq65
        refine z_xcall0 F [.int r_8] [] hM9 mI_X9_need (c := 9) rfl t0 wM_X9_154 mi_X9_need sl_X9_need dX9_patrons_65 rfl ⟨Nat.le_of_ble_eq_true rfl, Nat.le_of_ble_eq_true rfl⟩ rfl (Nat.le_of_ble_eq_true rfl) ⟨Nat.le_trans (Nat.le_of_ble_eq_true rfl) hcs.1, Nat.le_trans (Nat.le_of_ble_eq_true rfl) hcs.2⟩ ?_
        refine z_id (st := []) ?_
        refine z_aload_n F dX9_patrons_68 rfl 0 rfl ?_
        refine zg_9_12 F t0 wF_X9_74 dX9_patrons_69 ?_
        refine z_iload_n F dX9_patrons_72 rfl 1 rfl ?_
        refine z_iload_n F dX9_patrons_73 rfl 2 rfl ?_
        refine z_iload_n F dX9_patrons_74 rfl 3 rfl ?_
        refine z_iload F dX9_patrons_75 4 rfl ?_
        obtain ⟨r_12, v_11, hq77, h⟩ := zbind_ex h
        refine z_callVi F [.int x1, .int x2, .int x3, .int x4] [] (kX4_quietPairs x.2.1 G (zrf x0 12) (zt_f tc_9_12 t0) x1 x2 x3 x4 v_9 r_12 v_11 hq77) mI_X4_quietPairs (c := 4) rfl (zt_f tc_9_12 t0) wM_X9_308 mi_X4_quietPairs sl_X4_quietPairs dX9_patrons_77 rfl ⟨Nat.le_of_ble_eq_true rfl, Nat.le_of_ble_eq_true rfl⟩ rfl (Nat.le_of_ble_eq_true rfl) ⟨Nat.le_trans (Nat.le_of_ble_eq_true rfl) hcs.1, Nat.le_trans (Nat.le_of_ble_eq_true rfl) hcs.2⟩ ?_
        cases h
        exact z_xreti F hr hk (Nat.le_of_ble_eq_true rfl) (Nat.le_of_ble_eq_true rfl) dX9_patrons_80
      · have hM9 := kX9_need x.2.1 G x0 t0 r_8 v_7 (c1 + 1) r_10 v_9 hfl hq65
        cases h
        exact z_xcall1 F hnt hk [.int r_8] [] hM9 mI_X9_need (c := 9) rfl t0 wM_X9_154 mi_X9_need sl_X9_need dX9_patrons_65 rfl ⟨Nat.le_of_ble_eq_true rfl, Nat.le_of_ble_eq_true rfl⟩ rfl (Nat.le_of_ble_eq_true rfl) ⟨Nat.le_trans (Nat.le_of_ble_eq_true rfl) hcs.1, Nat.le_trans (Nat.le_of_ble_eq_true rfl) hcs.2⟩ (Nat.le_of_ble_eq_true rfl) (Nat.le_of_ble_eq_true rfl)
    · have hM9 := kX9_need x.2.1 G x0 t0 r_4 v_3 (c1 + 1) r_6 v_5 hfl hq54
      cases h
      exact z_xcall1 F hnt hk [.int r_4] [] hM9 mI_X9_need (c := 9) rfl t0 wM_X9_154 mi_X9_need sl_X9_need dX9_patrons_54 rfl ⟨Nat.le_of_ble_eq_true rfl, Nat.le_of_ble_eq_true rfl⟩ rfl (Nat.le_of_ble_eq_true rfl) ⟨Nat.le_trans (Nat.le_of_ble_eq_true rfl) hcs.1, Nat.le_trans (Nat.le_of_ble_eq_true rfl) hcs.2⟩ (Nat.le_of_ble_eq_true rfl) (Nat.le_of_ble_eq_true rfl)
  · have hM9 := kX9_need x.2.1 G s0 ts0 s1 v (c1 + 1) r_2 v_1 hfl hq43
    cases h
    exact z_xcall1 F hnt hk [.int s1] [] hM9 mI_X9_need (c := 9) rfl ts0 wM_X9_154 mi_X9_need sl_X9_need dX9_patrons_43 rfl ⟨Nat.le_of_ble_eq_true rfl, Nat.le_of_ble_eq_true rfl⟩ rfl (Nat.le_of_ble_eq_true rfl) ⟨Nat.le_trans (Nat.le_of_ble_eq_true rfl) hcs.1, Nat.le_trans (Nat.le_of_ble_eq_true rfl) hcs.2⟩ (Nat.le_of_ble_eq_true rfl) (Nat.le_of_ble_eq_true rfl)

def fX9_patrons (x0 : Nat) (x1 : Int32) (x2 : Int32) (x3 : Int32) (x4 : Int32) (v : zV) : Option (Nat × Int32 × zV) :=
  zbindx (fX9_needMan x0 x1 v) (fun r_2 v_1 =>
    zbindx (fX9_needMan x0 x2 v_1) (fun r_4 v_3 =>
      if x1 = x2 then
        fX9_patrons_43  x0 x1 x2 x3 x4 x0 (0 : Int32) v_3
      else
        zbind (fX7_isWaiting (zrf x0 7) x1 v_3) fun r_6 v_5 =>
        if r_6 = (0 : Int32) then
          fX9_patrons_43  x0 x1 x2 x3 x4 x0 (0 : Int32) v_5
        else
          zbind (fX7_isWaiting (zrf x0 7) x2 v_5) fun r_8 v_7 =>
          if r_8 = (0 : Int32) then
            fX9_patrons_43  x0 x1 x2 x3 x4 x0 (0 : Int32) v_7
          else
            fX9_patrons_43  x0 x1 x2 x3 x4 x0 (1 : Int32) v_7)
    (0 : Int32))
  (0 : Int32)
set_option maxRecDepth 4000 in
theorem kX9_patrons (l : Launch) (G : zG) (x0 : Nat) (t0 : zty G x0 1 9) (x1 : Int32) (x2 : Int32) (x3 : Int32) (x4 : Int32) (v : zV) (c : Nat) (r : Int32) (w : zV) (hfl9 : l.stackTraces = false) (h : fX9_patrons x0 x1 x2 x3 x4 v = some (c, r, w)) : zXM l yX9_patrons cX9_patrons 5 (Option.some FieldType.int) 8 240 5 30 [zr G x0, .int x1, .int x2, .int x3, .int x4] G v c (some (.int r)) w := by
  refine zXM_of (own := RX9) (by decide) rfl (Nat.le_of_ble_eq_true rfl) (fun x hl F hr hk hcs hnt => ?_)
  subst hl
  have hfl := hfl9
  refine z_ls [(0, zr G x0), (1, .int x1), (2, .int x2), (3, .int x3), (4, .int x4)] [0, 1, 2, 3, 4] rfl ?_
  unfold fX9_patrons at h
  refine z_aload_n F dX9_patrons_0 rfl 0 rfl ?_
  refine z_iload_n F dX9_patrons_1 rfl 1 rfl ?_
  rcases zbindx_ex h with ⟨r_2, v_1, hq2, h⟩ | ⟨c1, r_2, v_1, hq2, h⟩
  · have hM9 := kX9_needMan x.2.1 G x0 t0 x1 v 0 r_2 v_1 hfl hq2
    refine z_xcall0 F [.int x1] [] hM9 mI_X9_needMan (c := 9) rfl t0 wM_X9_180 mi_X9_needMan sl_X9_needMan dX9_patrons_2 rfl ⟨Nat.le_of_ble_eq_true rfl, Nat.le_of_ble_eq_true rfl⟩ rfl (Nat.le_of_ble_eq_true rfl) ⟨Nat.le_trans (Nat.le_of_ble_eq_true rfl) hcs.1, Nat.le_trans (Nat.le_of_ble_eq_true rfl) hcs.2⟩ ?_
    refine z_id (st := []) ?_
    refine z_aload_n F dX9_patrons_5 rfl 0 rfl ?_
    refine z_iload_n F dX9_patrons_6 rfl 2 rfl ?_
    rcases zbindx_ex h with ⟨r_4, v_3, hq7, h⟩ | ⟨c1, r_4, v_3, hq7, h⟩
    · have hM9 := kX9_needMan x.2.1 G x0 t0 x2 v_1 0 r_4 v_3 hfl hq7
      refine z_xcall0 F [.int x2] [] hM9 mI_X9_needMan (c := 9) rfl t0 wM_X9_180 mi_X9_needMan sl_X9_needMan dX9_patrons_7 rfl ⟨Nat.le_of_ble_eq_true rfl, Nat.le_of_ble_eq_true rfl⟩ rfl (Nat.le_of_ble_eq_true rfl) ⟨Nat.le_trans (Nat.le_of_ble_eq_true rfl) hcs.1, Nat.le_trans (Nat.le_of_ble_eq_true rfl) hcs.2⟩ ?_
      refine z_id (st := []) ?_
      refine z_aload_n F dX9_patrons_10 rfl 0 rfl ?_
      refine z_iload_n F dX9_patrons_11 rfl 1 rfl ?_
      refine z_iload_n F dX9_patrons_12 rfl 2 rfl ?_
      refine z_icmp_eq F 42 dX9_patrons_13 rfl (fun hc => ?_) (fun hc => ?_)
      · replace h := zif_t hc h
        refine z_iconst (y := (0 : Int32)) F dX9_patrons_42 rfl ?_
        refine z_wide (cs' := 2) (sl' := 12) (Nat.le_of_ble_eq_true rfl) (Nat.le_of_ble_eq_true rfl) ?_
        refine z_ls [(0, zr G x0), (1, .int x1), (2, .int x2), (3, .int x3), (4, .int x4)] [0, 1, 2, 3, 4] rfl ?_
        exact jX9_patrons_43 x G F hr hk hcs hfl hnt c r w   x0 t0 x1 x2 x3 x4 x0 t0 (0 : Int32) v_3 h
      · replace h := zif_f hc h
        refine z_aload_n F dX9_patrons_16 rfl 0 rfl ?_
        refine zg_9_7 F t0 wF_X9_49 dX9_patrons_17 ?_
        refine z_iload_n F dX9_patrons_20 rfl 1 rfl ?_
        obtain ⟨r_6, v_5, hq21, h⟩ := zbind_ex h
        refine z_callVi F [.int x1] [zr G x0] (kX7_isWaiting x.2.1 G (zrf x0 7) (zt_f tc_9_7 t0) x1 v_3 r_6 v_5 hq21) mI_X7_isWaiting (c := 7) rfl (zt_f tc_9_7 t0) wM_X9_251 mi_X7_isWaiting sl_X7_isWaiting dX9_patrons_21 rfl ⟨Nat.le_of_ble_eq_true rfl, Nat.le_of_ble_eq_true rfl⟩ rfl (Nat.le_of_ble_eq_true rfl) ⟨Nat.le_trans (Nat.le_of_ble_eq_true rfl) hcs.1, Nat.le_trans (Nat.le_of_ble_eq_true rfl) hcs.2⟩ ?_
        refine z_if_eq F 42 dX9_patrons_24 rfl (fun hc => ?_) (fun hc => ?_)
        · replace h := zif_t hc h
          refine z_iconst (y := (0 : Int32)) F dX9_patrons_42 rfl ?_
          refine z_wide (cs' := 2) (sl' := 12) (Nat.le_of_ble_eq_true rfl) (Nat.le_of_ble_eq_true rfl) ?_
          refine z_ls [(0, zr G x0), (1, .int x1), (2, .int x2), (3, .int x3), (4, .int x4)] [0, 1, 2, 3, 4] rfl ?_
          exact jX9_patrons_43 x G F hr hk hcs hfl hnt c r w   x0 t0 x1 x2 x3 x4 x0 t0 (0 : Int32) v_5 h
        · replace h := zif_f hc h
          refine z_aload_n F dX9_patrons_27 rfl 0 rfl ?_
          refine zg_9_7 F t0 wF_X9_49 dX9_patrons_28 ?_
          refine z_iload_n F dX9_patrons_31 rfl 2 rfl ?_
          obtain ⟨r_8, v_7, hq32, h⟩ := zbind_ex h
          refine z_callVi F [.int x2] [zr G x0] (kX7_isWaiting x.2.1 G (zrf x0 7) (zt_f tc_9_7 t0) x2 v_5 r_8 v_7 hq32) mI_X7_isWaiting (c := 7) rfl (zt_f tc_9_7 t0) wM_X9_251 mi_X7_isWaiting sl_X7_isWaiting dX9_patrons_32 rfl ⟨Nat.le_of_ble_eq_true rfl, Nat.le_of_ble_eq_true rfl⟩ rfl (Nat.le_of_ble_eq_true rfl) ⟨Nat.le_trans (Nat.le_of_ble_eq_true rfl) hcs.1, Nat.le_trans (Nat.le_of_ble_eq_true rfl) hcs.2⟩ ?_
          refine z_if_eq F 42 dX9_patrons_35 rfl (fun hc => ?_) (fun hc => ?_)
          · replace h := zif_t hc h
            refine z_iconst (y := (0 : Int32)) F dX9_patrons_42 rfl ?_
            refine z_wide (cs' := 2) (sl' := 12) (Nat.le_of_ble_eq_true rfl) (Nat.le_of_ble_eq_true rfl) ?_
            refine z_ls [(0, zr G x0), (1, .int x1), (2, .int x2), (3, .int x3), (4, .int x4)] [0, 1, 2, 3, 4] rfl ?_
            exact jX9_patrons_43 x G F hr hk hcs hfl hnt c r w   x0 t0 x1 x2 x3 x4 x0 t0 (0 : Int32) v_7 h
          · replace h := zif_f hc h
            refine z_iconst (y := (1 : Int32)) F dX9_patrons_38 rfl ?_
            refine z_goto F 43 dX9_patrons_39 rfl ?_
            refine z_wide (cs' := 2) (sl' := 12) (Nat.le_of_ble_eq_true rfl) (Nat.le_of_ble_eq_true rfl) ?_
            refine z_ls [(0, zr G x0), (1, .int x1), (2, .int x2), (3, .int x3), (4, .int x4)] [0, 1, 2, 3, 4] rfl ?_
            exact jX9_patrons_43 x G F hr hk hcs hfl hnt c r w   x0 t0 x1 x2 x3 x4 x0 t0 (1 : Int32) v_7 h
    · have hM9 := kX9_needMan x.2.1 G x0 t0 x2 v_1 (c1 + 1) r_4 v_3 hfl hq7
      cases h
      exact z_xcall1 F hnt hk [.int x2] [] hM9 mI_X9_needMan (c := 9) rfl t0 wM_X9_180 mi_X9_needMan sl_X9_needMan dX9_patrons_7 rfl ⟨Nat.le_of_ble_eq_true rfl, Nat.le_of_ble_eq_true rfl⟩ rfl (Nat.le_of_ble_eq_true rfl) ⟨Nat.le_trans (Nat.le_of_ble_eq_true rfl) hcs.1, Nat.le_trans (Nat.le_of_ble_eq_true rfl) hcs.2⟩ (Nat.le_of_ble_eq_true rfl) (Nat.le_of_ble_eq_true rfl)
  · have hM9 := kX9_needMan x.2.1 G x0 t0 x1 v (c1 + 1) r_2 v_1 hfl hq2
    cases h
    exact z_xcall1 F hnt hk [.int x1] [] hM9 mI_X9_needMan (c := 9) rfl t0 wM_X9_180 mi_X9_needMan sl_X9_needMan dX9_patrons_2 rfl ⟨Nat.le_of_ble_eq_true rfl, Nat.le_of_ble_eq_true rfl⟩ rfl (Nat.le_of_ble_eq_true rfl) ⟨Nat.le_trans (Nat.le_of_ble_eq_true rfl) hcs.1, Nat.le_trans (Nat.le_of_ble_eq_true rfl) hcs.2⟩ (Nat.le_of_ble_eq_true rfl) (Nat.le_of_ble_eq_true rfl)

theorem dX9_allies_0 : decode cX9_allies 0 = .ok (.aload_n 0, 1) := by decide +kernel
theorem dX9_allies_1 : decode cX9_allies 1 = .ok (.iload_n 1, 1) := by decide +kernel
theorem dX9_allies_2 : decode cX9_allies 2 = .ok (.invokevirtual 180, 3) := by decide +kernel
theorem dX9_allies_5 : decode cX9_allies 5 = .ok (.aload_n 0, 1) := by decide +kernel
theorem dX9_allies_6 : decode cX9_allies 6 = .ok (.getfield 92, 3) := by decide +kernel
theorem dX9_allies_9 : decode cX9_allies 9 = .ok (.iload_n 1, 1) := by decide +kernel
theorem dX9_allies_10 : decode cX9_allies 10 = .ok (.invokevirtual 311, 3) := by decide +kernel
theorem dX9_allies_13 : decode cX9_allies 13 = .ok (.ireturn, 1) := by decide +kernel
def fX9_allies (x0 : Nat) (x1 : Int32) (v : zV) : Option (Nat × Int32 × zV) :=
  zbindx (fX9_needMan x0 x1 v) (fun r_2 v_1 =>
    zbind (fX3_alliesOf (zrf x0 14) x1 v_1) fun r_4 v_3 =>
    some (0, r_4, v_3))
  (0 : Int32)
set_option maxRecDepth 4000 in
theorem kX9_allies (l : Launch) (G : zG) (x0 : Nat) (t0 : zty G x0 1 9) (x1 : Int32) (v : zV) (c : Nat) (r : Int32) (w : zV) (hfl9 : l.stackTraces = false) (h : fX9_allies x0 x1 v = some (c, r, w)) : zXM l yX9_allies cX9_allies 2 (Option.some FieldType.int) 7 146 1 6 [zr G x0, .int x1] G v c (some (.int r)) w := by
  refine zXM_of (own := RX9) (by decide) rfl (Nat.le_of_ble_eq_true rfl) (fun x hl F hr hk hcs hnt => ?_)
  subst hl
  have hfl := hfl9
  refine z_ls [(0, zr G x0), (1, .int x1)] [0, 1] rfl ?_
  unfold fX9_allies at h
  refine z_aload_n F dX9_allies_0 rfl 0 rfl ?_
  refine z_iload_n F dX9_allies_1 rfl 1 rfl ?_
  rcases zbindx_ex h with ⟨r_2, v_1, hq2, h⟩ | ⟨c1, r_2, v_1, hq2, h⟩
  · have hM9 := kX9_needMan x.2.1 G x0 t0 x1 v 0 r_2 v_1 hfl hq2
    refine z_xcall0 F [.int x1] [] hM9 mI_X9_needMan (c := 9) rfl t0 wM_X9_180 mi_X9_needMan sl_X9_needMan dX9_allies_2 rfl ⟨Nat.le_of_ble_eq_true rfl, Nat.le_of_ble_eq_true rfl⟩ rfl (Nat.le_of_ble_eq_true rfl) ⟨Nat.le_trans (Nat.le_of_ble_eq_true rfl) hcs.1, Nat.le_trans (Nat.le_of_ble_eq_true rfl) hcs.2⟩ ?_
    refine z_id (st := []) ?_
    refine z_aload_n F dX9_allies_5 rfl 0 rfl ?_
    refine zg_9_14 F t0 wF_X9_92 dX9_allies_6 ?_
    refine z_iload_n F dX9_allies_9 rfl 1 rfl ?_
    obtain ⟨r_4, v_3, hq10, h⟩ := zbind_ex h
    refine z_callVi F [.int x1] [] (kX3_alliesOf x.2.1 G (zrf x0 14) (zt_f tc_9_14 t0) x1 v_1 r_4 v_3 hq10) mI_X3_alliesOf (c := 3) rfl (zt_f tc_9_14 t0) wM_X9_311 mi_X3_alliesOf sl_X3_alliesOf dX9_allies_10 rfl ⟨Nat.le_of_ble_eq_true rfl, Nat.le_of_ble_eq_true rfl⟩ rfl (Nat.le_of_ble_eq_true rfl) ⟨Nat.le_trans (Nat.le_of_ble_eq_true rfl) hcs.1, Nat.le_trans (Nat.le_of_ble_eq_true rfl) hcs.2⟩ ?_
    cases h
    exact z_xreti F hr hk (Nat.le_of_ble_eq_true rfl) (Nat.le_of_ble_eq_true rfl) dX9_allies_13
  · have hM9 := kX9_needMan x.2.1 G x0 t0 x1 v (c1 + 1) r_2 v_1 hfl hq2
    cases h
    exact z_xcall1 F hnt hk [.int x1] [] hM9 mI_X9_needMan (c := 9) rfl t0 wM_X9_180 mi_X9_needMan sl_X9_needMan dX9_allies_2 rfl ⟨Nat.le_of_ble_eq_true rfl, Nat.le_of_ble_eq_true rfl⟩ rfl (Nat.le_of_ble_eq_true rfl) ⟨Nat.le_trans (Nat.le_of_ble_eq_true rfl) hcs.1, Nat.le_trans (Nat.le_of_ble_eq_true rfl) hcs.2⟩ (Nat.le_of_ble_eq_true rfl) (Nat.le_of_ble_eq_true rfl)

theorem dX9_rank_0 : decode cX9_rank 0 = .ok (.aload_n 0, 1) := by decide +kernel
theorem dX9_rank_1 : decode cX9_rank 1 = .ok (.iload_n 1, 1) := by decide +kernel
theorem dX9_rank_2 : decode cX9_rank 2 = .ok (.invokevirtual 180, 3) := by decide +kernel
theorem dX9_rank_5 : decode cX9_rank 5 = .ok (.aload_n 0, 1) := by decide +kernel
theorem dX9_rank_6 : decode cX9_rank 6 = .ok (.getfield 74, 3) := by decide +kernel
theorem dX9_rank_9 : decode cX9_rank 9 = .ok (.iload_n 1, 1) := by decide +kernel
theorem dX9_rank_10 : decode cX9_rank 10 = .ok (.invokevirtual 314, 3) := by decide +kernel
theorem dX9_rank_13 : decode cX9_rank 13 = .ok (.ireturn, 1) := by decide +kernel
def fX9_rank (x0 : Nat) (x1 : Int32) (v : zV) : Option (Nat × Int32 × zV) :=
  zbindx (fX9_needMan x0 x1 v) (fun r_2 v_1 =>
    zbind (fX4_rankOf (zrf x0 12) x1 v_1) fun r_4 v_3 =>
    some (0, r_4, v_3))
  (0 : Int32)
set_option maxRecDepth 4000 in
theorem kX9_rank (l : Launch) (G : zG) (x0 : Nat) (t0 : zty G x0 1 9) (x1 : Int32) (v : zV) (c : Nat) (r : Int32) (w : zV) (hfl9 : l.stackTraces = false) (h : fX9_rank x0 x1 v = some (c, r, w)) : zXM l yX9_rank cX9_rank 2 (Option.some FieldType.int) 7 172 1 6 [zr G x0, .int x1] G v c (some (.int r)) w := by
  refine zXM_of (own := RX9) (by decide) rfl (Nat.le_of_ble_eq_true rfl) (fun x hl F hr hk hcs hnt => ?_)
  subst hl
  have hfl := hfl9
  refine z_ls [(0, zr G x0), (1, .int x1)] [0, 1] rfl ?_
  unfold fX9_rank at h
  refine z_aload_n F dX9_rank_0 rfl 0 rfl ?_
  refine z_iload_n F dX9_rank_1 rfl 1 rfl ?_
  rcases zbindx_ex h with ⟨r_2, v_1, hq2, h⟩ | ⟨c1, r_2, v_1, hq2, h⟩
  · have hM9 := kX9_needMan x.2.1 G x0 t0 x1 v 0 r_2 v_1 hfl hq2
    refine z_xcall0 F [.int x1] [] hM9 mI_X9_needMan (c := 9) rfl t0 wM_X9_180 mi_X9_needMan sl_X9_needMan dX9_rank_2 rfl ⟨Nat.le_of_ble_eq_true rfl, Nat.le_of_ble_eq_true rfl⟩ rfl (Nat.le_of_ble_eq_true rfl) ⟨Nat.le_trans (Nat.le_of_ble_eq_true rfl) hcs.1, Nat.le_trans (Nat.le_of_ble_eq_true rfl) hcs.2⟩ ?_
    refine z_id (st := []) ?_
    refine z_aload_n F dX9_rank_5 rfl 0 rfl ?_
    refine zg_9_12 F t0 wF_X9_74 dX9_rank_6 ?_
    refine z_iload_n F dX9_rank_9 rfl 1 rfl ?_
    obtain ⟨r_4, v_3, hq10, h⟩ := zbind_ex h
    refine z_callVi F [.int x1] [] (kX4_rankOf x.2.1 G (zrf x0 12) (zt_f tc_9_12 t0) x1 v_1 r_4 v_3 hq10) mI_X4_rankOf (c := 4) rfl (zt_f tc_9_12 t0) wM_X9_314 mi_X4_rankOf sl_X4_rankOf dX9_rank_10 rfl ⟨Nat.le_of_ble_eq_true rfl, Nat.le_of_ble_eq_true rfl⟩ rfl (Nat.le_of_ble_eq_true rfl) ⟨Nat.le_trans (Nat.le_of_ble_eq_true rfl) hcs.1, Nat.le_trans (Nat.le_of_ble_eq_true rfl) hcs.2⟩ ?_
    cases h
    exact z_xreti F hr hk (Nat.le_of_ble_eq_true rfl) (Nat.le_of_ble_eq_true rfl) dX9_rank_13
  · have hM9 := kX9_needMan x.2.1 G x0 t0 x1 v (c1 + 1) r_2 v_1 hfl hq2
    cases h
    exact z_xcall1 F hnt hk [.int x1] [] hM9 mI_X9_needMan (c := 9) rfl t0 wM_X9_180 mi_X9_needMan sl_X9_needMan dX9_rank_2 rfl ⟨Nat.le_of_ble_eq_true rfl, Nat.le_of_ble_eq_true rfl⟩ rfl (Nat.le_of_ble_eq_true rfl) ⟨Nat.le_trans (Nat.le_of_ble_eq_true rfl) hcs.1, Nat.le_trans (Nat.le_of_ble_eq_true rfl) hcs.2⟩ (Nat.le_of_ble_eq_true rfl) (Nat.le_of_ble_eq_true rfl)

theorem dX9_wants_0 : decode cX9_wants 0 = .ok (.aload_n 0, 1) := by decide +kernel
theorem dX9_wants_1 : decode cX9_wants 1 = .ok (.iload_n 1, 1) := by decide +kernel
theorem dX9_wants_2 : decode cX9_wants 2 = .ok (.invokevirtual 180, 3) := by decide +kernel
theorem dX9_wants_5 : decode cX9_wants 5 = .ok (.aload_n 0, 1) := by decide +kernel
theorem dX9_wants_6 : decode cX9_wants 6 = .ok (.getfield 74, 3) := by decide +kernel
theorem dX9_wants_9 : decode cX9_wants 9 = .ok (.iload_n 1, 1) := by decide +kernel
theorem dX9_wants_10 : decode cX9_wants 10 = .ok (.invokevirtual 320, 3) := by decide +kernel
theorem dX9_wants_13 : decode cX9_wants 13 = .ok (.ireturn, 1) := by decide +kernel
def fX9_wants (x0 : Nat) (x1 : Int32) (v : zV) : Option (Nat × Int32 × zV) :=
  zbindx (fX9_needMan x0 x1 v) (fun r_2 v_1 =>
    zbind (fX4_praiseWanted (zrf x0 12) x1 v_1) fun r_4 v_3 =>
    some (0, r_4, v_3))
  (0 : Int32)
set_option maxRecDepth 4000 in
theorem kX9_wants (l : Launch) (G : zG) (x0 : Nat) (t0 : zty G x0 1 9) (x1 : Int32) (v : zV) (c : Nat) (r : Int32) (w : zV) (hfl9 : l.stackTraces = false) (h : fX9_wants x0 x1 v = some (c, r, w)) : zXM l yX9_wants cX9_wants 2 (Option.some FieldType.int) 8 234 1 6 [zr G x0, .int x1] G v c (some (.int r)) w := by
  refine zXM_of (own := RX9) (by decide) rfl (Nat.le_of_ble_eq_true rfl) (fun x hl F hr hk hcs hnt => ?_)
  subst hl
  have hfl := hfl9
  refine z_ls [(0, zr G x0), (1, .int x1)] [0, 1] rfl ?_
  unfold fX9_wants at h
  refine z_aload_n F dX9_wants_0 rfl 0 rfl ?_
  refine z_iload_n F dX9_wants_1 rfl 1 rfl ?_
  rcases zbindx_ex h with ⟨r_2, v_1, hq2, h⟩ | ⟨c1, r_2, v_1, hq2, h⟩
  · have hM9 := kX9_needMan x.2.1 G x0 t0 x1 v 0 r_2 v_1 hfl hq2
    refine z_xcall0 F [.int x1] [] hM9 mI_X9_needMan (c := 9) rfl t0 wM_X9_180 mi_X9_needMan sl_X9_needMan dX9_wants_2 rfl ⟨Nat.le_of_ble_eq_true rfl, Nat.le_of_ble_eq_true rfl⟩ rfl (Nat.le_of_ble_eq_true rfl) ⟨Nat.le_trans (Nat.le_of_ble_eq_true rfl) hcs.1, Nat.le_trans (Nat.le_of_ble_eq_true rfl) hcs.2⟩ ?_
    refine z_id (st := []) ?_
    refine z_aload_n F dX9_wants_5 rfl 0 rfl ?_
    refine zg_9_12 F t0 wF_X9_74 dX9_wants_6 ?_
    refine z_iload_n F dX9_wants_9 rfl 1 rfl ?_
    obtain ⟨r_4, v_3, hq10, h⟩ := zbind_ex h
    refine z_callVi F [.int x1] [] (kX4_praiseWanted x.2.1 G (zrf x0 12) (zt_f tc_9_12 t0) x1 v_1 r_4 v_3 hq10) mI_X4_praiseWanted (c := 4) rfl (zt_f tc_9_12 t0) wM_X9_320 mi_X4_praiseWanted sl_X4_praiseWanted dX9_wants_10 rfl ⟨Nat.le_of_ble_eq_true rfl, Nat.le_of_ble_eq_true rfl⟩ rfl (Nat.le_of_ble_eq_true rfl) ⟨Nat.le_trans (Nat.le_of_ble_eq_true rfl) hcs.1, Nat.le_trans (Nat.le_of_ble_eq_true rfl) hcs.2⟩ ?_
    cases h
    exact z_xreti F hr hk (Nat.le_of_ble_eq_true rfl) (Nat.le_of_ble_eq_true rfl) dX9_wants_13
  · have hM9 := kX9_needMan x.2.1 G x0 t0 x1 v (c1 + 1) r_2 v_1 hfl hq2
    cases h
    exact z_xcall1 F hnt hk [.int x1] [] hM9 mI_X9_needMan (c := 9) rfl t0 wM_X9_180 mi_X9_needMan sl_X9_needMan dX9_wants_2 rfl ⟨Nat.le_of_ble_eq_true rfl, Nat.le_of_ble_eq_true rfl⟩ rfl (Nat.le_of_ble_eq_true rfl) ⟨Nat.le_trans (Nat.le_of_ble_eq_true rfl) hcs.1, Nat.le_trans (Nat.le_of_ble_eq_true rfl) hcs.2⟩ (Nat.le_of_ble_eq_true rfl) (Nat.le_of_ble_eq_true rfl)

theorem dX9_stays_0 : decode cX9_stays 0 = .ok (.aload_n 0, 1) := by decide +kernel
theorem dX9_stays_1 : decode cX9_stays 1 = .ok (.iload_n 1, 1) := by decide +kernel
theorem dX9_stays_2 : decode cX9_stays 2 = .ok (.invokevirtual 180, 3) := by decide +kernel
theorem dX9_stays_5 : decode cX9_stays 5 = .ok (.aload_n 0, 1) := by decide +kernel
theorem dX9_stays_6 : decode cX9_stays 6 = .ok (.getfield 74, 3) := by decide +kernel
theorem dX9_stays_9 : decode cX9_stays 9 = .ok (.iload_n 1, 1) := by decide +kernel
theorem dX9_stays_10 : decode cX9_stays 10 = .ok (.invokevirtual 323, 3) := by decide +kernel
theorem dX9_stays_13 : decode cX9_stays 13 = .ok (.ireturn, 1) := by decide +kernel
def fX9_stays (x0 : Nat) (x1 : Int32) (v : zV) : Option (Nat × Int32 × zV) :=
  zbindx (fX9_needMan x0 x1 v) (fun r_2 v_1 =>
    zbind (fX4_yearsLeft (zrf x0 12) x1 v_1) fun r_4 v_3 =>
    some (0, r_4, v_3))
  (0 : Int32)
set_option maxRecDepth 4000 in
theorem kX9_stays (l : Launch) (G : zG) (x0 : Nat) (t0 : zty G x0 1 9) (x1 : Int32) (v : zV) (c : Nat) (r : Int32) (w : zV) (hfl9 : l.stackTraces = false) (h : fX9_stays x0 x1 v = some (c, r, w)) : zXM l yX9_stays cX9_stays 2 (Option.some FieldType.int) 8 236 1 6 [zr G x0, .int x1] G v c (some (.int r)) w := by
  refine zXM_of (own := RX9) (by decide) rfl (Nat.le_of_ble_eq_true rfl) (fun x hl F hr hk hcs hnt => ?_)
  subst hl
  have hfl := hfl9
  refine z_ls [(0, zr G x0), (1, .int x1)] [0, 1] rfl ?_
  unfold fX9_stays at h
  refine z_aload_n F dX9_stays_0 rfl 0 rfl ?_
  refine z_iload_n F dX9_stays_1 rfl 1 rfl ?_
  rcases zbindx_ex h with ⟨r_2, v_1, hq2, h⟩ | ⟨c1, r_2, v_1, hq2, h⟩
  · have hM9 := kX9_needMan x.2.1 G x0 t0 x1 v 0 r_2 v_1 hfl hq2
    refine z_xcall0 F [.int x1] [] hM9 mI_X9_needMan (c := 9) rfl t0 wM_X9_180 mi_X9_needMan sl_X9_needMan dX9_stays_2 rfl ⟨Nat.le_of_ble_eq_true rfl, Nat.le_of_ble_eq_true rfl⟩ rfl (Nat.le_of_ble_eq_true rfl) ⟨Nat.le_trans (Nat.le_of_ble_eq_true rfl) hcs.1, Nat.le_trans (Nat.le_of_ble_eq_true rfl) hcs.2⟩ ?_
    refine z_id (st := []) ?_
    refine z_aload_n F dX9_stays_5 rfl 0 rfl ?_
    refine zg_9_12 F t0 wF_X9_74 dX9_stays_6 ?_
    refine z_iload_n F dX9_stays_9 rfl 1 rfl ?_
    obtain ⟨r_4, v_3, hq10, h⟩ := zbind_ex h
    refine z_callVi F [.int x1] [] (kX4_yearsLeft x.2.1 G (zrf x0 12) (zt_f tc_9_12 t0) x1 v_1 r_4 v_3 hq10) mI_X4_yearsLeft (c := 4) rfl (zt_f tc_9_12 t0) wM_X9_323 mi_X4_yearsLeft sl_X4_yearsLeft dX9_stays_10 rfl ⟨Nat.le_of_ble_eq_true rfl, Nat.le_of_ble_eq_true rfl⟩ rfl (Nat.le_of_ble_eq_true rfl) ⟨Nat.le_trans (Nat.le_of_ble_eq_true rfl) hcs.1, Nat.le_trans (Nat.le_of_ble_eq_true rfl) hcs.2⟩ ?_
    cases h
    exact z_xreti F hr hk (Nat.le_of_ble_eq_true rfl) (Nat.le_of_ble_eq_true rfl) dX9_stays_13
  · have hM9 := kX9_needMan x.2.1 G x0 t0 x1 v (c1 + 1) r_2 v_1 hfl hq2
    cases h
    exact z_xcall1 F hnt hk [.int x1] [] hM9 mI_X9_needMan (c := 9) rfl t0 wM_X9_180 mi_X9_needMan sl_X9_needMan dX9_stays_2 rfl ⟨Nat.le_of_ble_eq_true rfl, Nat.le_of_ble_eq_true rfl⟩ rfl (Nat.le_of_ble_eq_true rfl) ⟨Nat.le_trans (Nat.le_of_ble_eq_true rfl) hcs.1, Nat.le_trans (Nat.le_of_ble_eq_true rfl) hcs.2⟩ (Nat.le_of_ble_eq_true rfl) (Nat.le_of_ble_eq_true rfl)

theorem dX9_doomed_0 : decode cX9_doomed 0 = .ok (.aload_n 0, 1) := by decide +kernel
theorem dX9_doomed_1 : decode cX9_doomed 1 = .ok (.iload_n 1, 1) := by decide +kernel
theorem dX9_doomed_2 : decode cX9_doomed 2 = .ok (.invokevirtual 180, 3) := by decide +kernel
theorem dX9_doomed_5 : decode cX9_doomed 5 = .ok (.aload_n 0, 1) := by decide +kernel
theorem dX9_doomed_6 : decode cX9_doomed 6 = .ok (.getfield 74, 3) := by decide +kernel
theorem dX9_doomed_9 : decode cX9_doomed 9 = .ok (.iload_n 1, 1) := by decide +kernel
theorem dX9_doomed_10 : decode cX9_doomed 10 = .ok (.invokevirtual 326, 3) := by decide +kernel
theorem dX9_doomed_13 : decode cX9_doomed 13 = .ok (.ireturn, 1) := by decide +kernel
def fX9_doomed (x0 : Nat) (x1 : Int32) (v : zV) : Option (Nat × Int32 × zV) :=
  zbindx (fX9_needMan x0 x1 v) (fun r_2 v_1 =>
    zbind (fX4_leavingWith (zrf x0 12) x1 v_1) fun r_4 v_3 =>
    some (0, r_4, v_3))
  (0 : Int32)
set_option maxRecDepth 4000 in
theorem kX9_doomed (l : Launch) (G : zG) (x0 : Nat) (t0 : zty G x0 1 9) (x1 : Int32) (v : zV) (c : Nat) (r : Int32) (w : zV) (hfl9 : l.stackTraces = false) (h : fX9_doomed x0 x1 v = some (c, r, w)) : zXM l yX9_doomed cX9_doomed 2 (Option.some FieldType.int) 7 193 1 6 [zr G x0, .int x1] G v c (some (.int r)) w := by
  refine zXM_of (own := RX9) (by decide) rfl (Nat.le_of_ble_eq_true rfl) (fun x hl F hr hk hcs hnt => ?_)
  subst hl
  have hfl := hfl9
  refine z_ls [(0, zr G x0), (1, .int x1)] [0, 1] rfl ?_
  unfold fX9_doomed at h
  refine z_aload_n F dX9_doomed_0 rfl 0 rfl ?_
  refine z_iload_n F dX9_doomed_1 rfl 1 rfl ?_
  rcases zbindx_ex h with ⟨r_2, v_1, hq2, h⟩ | ⟨c1, r_2, v_1, hq2, h⟩
  · have hM9 := kX9_needMan x.2.1 G x0 t0 x1 v 0 r_2 v_1 hfl hq2
    refine z_xcall0 F [.int x1] [] hM9 mI_X9_needMan (c := 9) rfl t0 wM_X9_180 mi_X9_needMan sl_X9_needMan dX9_doomed_2 rfl ⟨Nat.le_of_ble_eq_true rfl, Nat.le_of_ble_eq_true rfl⟩ rfl (Nat.le_of_ble_eq_true rfl) ⟨Nat.le_trans (Nat.le_of_ble_eq_true rfl) hcs.1, Nat.le_trans (Nat.le_of_ble_eq_true rfl) hcs.2⟩ ?_
    refine z_id (st := []) ?_
    refine z_aload_n F dX9_doomed_5 rfl 0 rfl ?_
    refine zg_9_12 F t0 wF_X9_74 dX9_doomed_6 ?_
    refine z_iload_n F dX9_doomed_9 rfl 1 rfl ?_
    obtain ⟨r_4, v_3, hq10, h⟩ := zbind_ex h
    refine z_callVi F [.int x1] [] (kX4_leavingWith x.2.1 G (zrf x0 12) (zt_f tc_9_12 t0) x1 v_1 r_4 v_3 hq10) mI_X4_leavingWith (c := 4) rfl (zt_f tc_9_12 t0) wM_X9_326 mi_X4_leavingWith sl_X4_leavingWith dX9_doomed_10 rfl ⟨Nat.le_of_ble_eq_true rfl, Nat.le_of_ble_eq_true rfl⟩ rfl (Nat.le_of_ble_eq_true rfl) ⟨Nat.le_trans (Nat.le_of_ble_eq_true rfl) hcs.1, Nat.le_trans (Nat.le_of_ble_eq_true rfl) hcs.2⟩ ?_
    cases h
    exact z_xreti F hr hk (Nat.le_of_ble_eq_true rfl) (Nat.le_of_ble_eq_true rfl) dX9_doomed_13
  · have hM9 := kX9_needMan x.2.1 G x0 t0 x1 v (c1 + 1) r_2 v_1 hfl hq2
    cases h
    exact z_xcall1 F hnt hk [.int x1] [] hM9 mI_X9_needMan (c := 9) rfl t0 wM_X9_180 mi_X9_needMan sl_X9_needMan dX9_doomed_2 rfl ⟨Nat.le_of_ble_eq_true rfl, Nat.le_of_ble_eq_true rfl⟩ rfl (Nat.le_of_ble_eq_true rfl) ⟨Nat.le_trans (Nat.le_of_ble_eq_true rfl) hcs.1, Nat.le_trans (Nat.le_of_ble_eq_true rfl) hcs.2⟩ (Nat.le_of_ble_eq_true rfl) (Nat.le_of_ble_eq_true rfl)

theorem dX9_pair_0 : decode cX9_pair 0 = .ok (.aload_n 0, 1) := by decide +kernel
theorem dX9_pair_1 : decode cX9_pair 1 = .ok (.iload_n 1, 1) := by decide +kernel
theorem dX9_pair_2 : decode cX9_pair 2 = .ok (.iconst 0, 1) := by decide +kernel
theorem dX9_pair_3 : decode cX9_pair 3 = .ok (.iconst 2, 1) := by decide +kernel
theorem dX9_pair_4 : decode cX9_pair 4 = .ok (.invokestatic 150, 3) := by decide +kernel
theorem dX9_pair_7 : decode cX9_pair 7 = .ok (.invokevirtual 154, 3) := by decide +kernel
theorem dX9_pair_10 : decode cX9_pair 10 = .ok (.aload_n 0, 1) := by decide +kernel
theorem dX9_pair_11 : decode cX9_pair 11 = .ok (.getfield 92, 3) := by decide +kernel
theorem dX9_pair_14 : decode cX9_pair 14 = .ok (.iload_n 1, 1) := by decide +kernel
theorem dX9_pair_15 : decode cX9_pair 15 = .ok (.invokevirtual 335, 3) := by decide +kernel
theorem dX9_pair_18 : decode cX9_pair 18 = .ok (.ireturn, 1) := by decide +kernel
def fX9_pair (x0 : Nat) (x1 : Int32) (v : zV) : Option (Nat × Int32 × zV) :=
  zbind (fX9_within x1 (0 : Int32) (2 : Int32) v) fun r_2 v_1 =>
  zbindx (fX9_need x0 r_2 v_1) (fun r_4 v_3 =>
    zbind (fX3_mostUnlike (zrf x0 14) x1 v_3) fun r_6 v_5 =>
    some (0, r_6, v_5))
  (0 : Int32)
set_option maxRecDepth 4000 in
theorem kX9_pair (l : Launch) (G : zG) (x0 : Nat) (t0 : zty G x0 1 9) (x1 : Int32) (v : zV) (c : Nat) (r : Int32) (w : zV) (hfl9 : l.stackTraces = false) (h : fX9_pair x0 x1 v = some (c, r, w)) : zXM l yX9_pair cX9_pair 2 (Option.some FieldType.int) 7 151 1 6 [zr G x0, .int x1] G v c (some (.int r)) w := by
  refine zXM_of (own := RX9) (by decide) rfl (Nat.le_of_ble_eq_true rfl) (fun x hl F hr hk hcs hnt => ?_)
  subst hl
  have hfl := hfl9
  refine z_ls [(0, zr G x0), (1, .int x1)] [0, 1] rfl ?_
  unfold fX9_pair at h
  refine z_aload_n F dX9_pair_0 rfl 0 rfl ?_
  refine z_iload_n F dX9_pair_1 rfl 1 rfl ?_
  refine z_iconst (y := (0 : Int32)) F dX9_pair_2 rfl ?_
  refine z_iconst (y := (2 : Int32)) F dX9_pair_3 rfl ?_
  obtain ⟨r_2, v_1, hq4, h⟩ := zbind_ex h
  refine z_callSi F [.int x1, .int (0 : Int32), .int (2 : Int32)] [zr G x0] (kX9_within x.2.1 G x1 (0 : Int32) (2 : Int32) v r_2 v_1 hq4) mI_X9_within wM_X9_150 ms_X9_within dX9_pair_4 rfl ⟨Nat.le_of_ble_eq_true rfl, Nat.le_of_ble_eq_true rfl⟩ rfl (Nat.le_of_ble_eq_true rfl) ⟨Nat.le_trans (Nat.le_of_ble_eq_true rfl) hcs.1, Nat.le_trans (Nat.le_of_ble_eq_true rfl) hcs.2⟩ ?_
  rcases zbindx_ex h with ⟨r_4, v_3, hq7, h⟩ | ⟨c1, r_4, v_3, hq7, h⟩
  · have hM9 := kX9_need x.2.1 G x0 t0 r_2 v_1 0 r_4 v_3 hfl hq7
    refine z_xcall0 F [.int r_2] [] hM9 mI_X9_need (c := 9) rfl t0 wM_X9_154 mi_X9_need sl_X9_need dX9_pair_7 rfl ⟨Nat.le_of_ble_eq_true rfl, Nat.le_of_ble_eq_true rfl⟩ rfl (Nat.le_of_ble_eq_true rfl) ⟨Nat.le_trans (Nat.le_of_ble_eq_true rfl) hcs.1, Nat.le_trans (Nat.le_of_ble_eq_true rfl) hcs.2⟩ ?_
    refine z_id (st := []) ?_
    refine z_aload_n F dX9_pair_10 rfl 0 rfl ?_
    refine zg_9_14 F t0 wF_X9_92 dX9_pair_11 ?_
    refine z_iload_n F dX9_pair_14 rfl 1 rfl ?_
    obtain ⟨r_6, v_5, hq15, h⟩ := zbind_ex h
    refine z_callVi F [.int x1] [] (kX3_mostUnlike x.2.1 G (zrf x0 14) (zt_f tc_9_14 t0) x1 v_3 r_6 v_5 hq15) mI_X3_mostUnlike (c := 3) rfl (zt_f tc_9_14 t0) wM_X9_335 mi_X3_mostUnlike sl_X3_mostUnlike dX9_pair_15 rfl ⟨Nat.le_of_ble_eq_true rfl, Nat.le_of_ble_eq_true rfl⟩ rfl (Nat.le_of_ble_eq_true rfl) ⟨Nat.le_trans (Nat.le_of_ble_eq_true rfl) hcs.1, Nat.le_trans (Nat.le_of_ble_eq_true rfl) hcs.2⟩ ?_
    cases h
    exact z_xreti F hr hk (Nat.le_of_ble_eq_true rfl) (Nat.le_of_ble_eq_true rfl) dX9_pair_18
  · have hM9 := kX9_need x.2.1 G x0 t0 r_2 v_1 (c1 + 1) r_4 v_3 hfl hq7
    cases h
    exact z_xcall1 F hnt hk [.int r_2] [] hM9 mI_X9_need (c := 9) rfl t0 wM_X9_154 mi_X9_need sl_X9_need dX9_pair_7 rfl ⟨Nat.le_of_ble_eq_true rfl, Nat.le_of_ble_eq_true rfl⟩ rfl (Nat.le_of_ble_eq_true rfl) ⟨Nat.le_trans (Nat.le_of_ble_eq_true rfl) hcs.1, Nat.le_trans (Nat.le_of_ble_eq_true rfl) hcs.2⟩ (Nat.le_of_ble_eq_true rfl) (Nat.le_of_ble_eq_true rfl)

theorem dX9_quorum_0 : decode cX9_quorum 0 = .ok (.aload_n 0, 1) := by decide +kernel
theorem dX9_quorum_1 : decode cX9_quorum 1 = .ok (.iload_n 1, 1) := by decide +kernel
theorem dX9_quorum_2 : decode cX9_quorum 2 = .ok (.invokevirtual 205, 3) := by decide +kernel
theorem dX9_quorum_5 : decode cX9_quorum 5 = .ok (.aload_n 0, 1) := by decide +kernel
theorem dX9_quorum_6 : decode cX9_quorum 6 = .ok (.getfield 92, 3) := by decide +kernel
theorem dX9_quorum_9 : decode cX9_quorum 9 = .ok (.iload_n 1, 1) := by decide +kernel
theorem dX9_quorum_10 : decode cX9_quorum 10 = .ok (.invokevirtual 338, 3) := by decide +kernel
theorem dX9_quorum_13 : decode cX9_quorum 13 = .ok (.ireturn, 1) := by decide +kernel
def fX9_quorum (x0 : Nat) (x1 : Int32) (v : zV) : Option (Nat × Int32 × zV) :=
  zbindx (fX9_needQuestion x0 x1 v) (fun r_2 v_1 =>
    zbind (fX3_quorumOf (zrf x0 14) x1 v_1) fun r_4 v_3 =>
    some (0, r_4, v_3))
  (0 : Int32)
set_option maxRecDepth 4000 in
theorem kX9_quorum (l : Launch) (G : zG) (x0 : Nat) (t0 : zty G x0 1 9) (x1 : Int32) (v : zV) (c : Nat) (r : Int32) (w : zV) (hfl9 : l.stackTraces = false) (h : fX9_quorum x0 x1 v = some (c, r, w)) : zXM l yX9_quorum cX9_quorum 2 (Option.some FieldType.int) 7 217 1 6 [zr G x0, .int x1] G v c (some (.int r)) w := by
  refine zXM_of (own := RX9) (by decide) rfl (Nat.le_of_ble_eq_true rfl) (fun x hl F hr hk hcs hnt => ?_)
  subst hl
  have hfl := hfl9
  refine z_ls [(0, zr G x0), (1, .int x1)] [0, 1] rfl ?_
  unfold fX9_quorum at h
  refine z_aload_n F dX9_quorum_0 rfl 0 rfl ?_
  refine z_iload_n F dX9_quorum_1 rfl 1 rfl ?_
  rcases zbindx_ex h with ⟨r_2, v_1, hq2, h⟩ | ⟨c1, r_2, v_1, hq2, h⟩
  · have hM9 := kX9_needQuestion x.2.1 G x0 t0 x1 v 0 r_2 v_1 hfl hq2
    refine z_xcall0 F [.int x1] [] hM9 mI_X9_needQuestion (c := 9) rfl t0 wM_X9_205 mi_X9_needQuestion sl_X9_needQuestion dX9_quorum_2 rfl ⟨Nat.le_of_ble_eq_true rfl, Nat.le_of_ble_eq_true rfl⟩ rfl (Nat.le_of_ble_eq_true rfl) ⟨Nat.le_trans (Nat.le_of_ble_eq_true rfl) hcs.1, Nat.le_trans (Nat.le_of_ble_eq_true rfl) hcs.2⟩ ?_
    refine z_id (st := []) ?_
    refine z_aload_n F dX9_quorum_5 rfl 0 rfl ?_
    refine zg_9_14 F t0 wF_X9_92 dX9_quorum_6 ?_
    refine z_iload_n F dX9_quorum_9 rfl 1 rfl ?_
    obtain ⟨r_4, v_3, hq10, h⟩ := zbind_ex h
    refine z_callVi F [.int x1] [] (kX3_quorumOf x.2.1 G (zrf x0 14) (zt_f tc_9_14 t0) x1 v_1 r_4 v_3 hq10) mI_X3_quorumOf (c := 3) rfl (zt_f tc_9_14 t0) wM_X9_338 mi_X3_quorumOf sl_X3_quorumOf dX9_quorum_10 rfl ⟨Nat.le_of_ble_eq_true rfl, Nat.le_of_ble_eq_true rfl⟩ rfl (Nat.le_of_ble_eq_true rfl) ⟨Nat.le_trans (Nat.le_of_ble_eq_true rfl) hcs.1, Nat.le_trans (Nat.le_of_ble_eq_true rfl) hcs.2⟩ ?_
    cases h
    exact z_xreti F hr hk (Nat.le_of_ble_eq_true rfl) (Nat.le_of_ble_eq_true rfl) dX9_quorum_13
  · have hM9 := kX9_needQuestion x.2.1 G x0 t0 x1 v (c1 + 1) r_2 v_1 hfl hq2
    cases h
    exact z_xcall1 F hnt hk [.int x1] [] hM9 mI_X9_needQuestion (c := 9) rfl t0 wM_X9_205 mi_X9_needQuestion sl_X9_needQuestion dX9_quorum_2 rfl ⟨Nat.le_of_ble_eq_true rfl, Nat.le_of_ble_eq_true rfl⟩ rfl (Nat.le_of_ble_eq_true rfl) ⟨Nat.le_trans (Nat.le_of_ble_eq_true rfl) hcs.1, Nat.le_trans (Nat.le_of_ble_eq_true rfl) hcs.2⟩ (Nat.le_of_ble_eq_true rfl) (Nat.le_of_ble_eq_true rfl)

theorem dX9_heir_0 : decode cX9_heir 0 = .ok (.aload_n 0, 1) := by decide +kernel
theorem dX9_heir_1 : decode cX9_heir 1 = .ok (.iload_n 1, 1) := by decide +kernel
theorem dX9_heir_2 : decode cX9_heir 2 = .ok (.invokevirtual 180, 3) := by decide +kernel
theorem dX9_heir_5 : decode cX9_heir 5 = .ok (.aload_n 0, 1) := by decide +kernel
theorem dX9_heir_6 : decode cX9_heir 6 = .ok (.getfield 74, 3) := by decide +kernel
theorem dX9_heir_9 : decode cX9_heir 9 = .ok (.iload_n 1, 1) := by decide +kernel
theorem dX9_heir_10 : decode cX9_heir 10 = .ok (.invokevirtual 344, 3) := by decide +kernel
theorem dX9_heir_13 : decode cX9_heir 13 = .ok (.ireturn, 1) := by decide +kernel
def fX9_heir (x0 : Nat) (x1 : Int32) (v : zV) : Option (Nat × Int32 × zV) :=
  zbindx (fX9_needMan x0 x1 v) (fun r_2 v_1 =>
    zbind (fX4_heirOf (zrf x0 12) x1 v_1) fun r_4 v_3 =>
    some (0, r_4, v_3))
  (0 : Int32)
set_option maxRecDepth 4000 in
theorem kX9_heir (l : Launch) (G : zG) (x0 : Nat) (t0 : zty G x0 1 9) (x1 : Int32) (v : zV) (c : Nat) (r : Int32) (w : zV) (hfl9 : l.stackTraces = false) (h : fX9_heir x0 x1 v = some (c, r, w)) : zXM l yX9_heir cX9_heir 2 (Option.some FieldType.int) 8 237 1 6 [zr G x0, .int x1] G v c (some (.int r)) w := by
  refine zXM_of (own := RX9) (by decide) rfl (Nat.le_of_ble_eq_true rfl) (fun x hl F hr hk hcs hnt => ?_)
  subst hl
  have hfl := hfl9
  refine z_ls [(0, zr G x0), (1, .int x1)] [0, 1] rfl ?_
  unfold fX9_heir at h
  refine z_aload_n F dX9_heir_0 rfl 0 rfl ?_
  refine z_iload_n F dX9_heir_1 rfl 1 rfl ?_
  rcases zbindx_ex h with ⟨r_2, v_1, hq2, h⟩ | ⟨c1, r_2, v_1, hq2, h⟩
  · have hM9 := kX9_needMan x.2.1 G x0 t0 x1 v 0 r_2 v_1 hfl hq2
    refine z_xcall0 F [.int x1] [] hM9 mI_X9_needMan (c := 9) rfl t0 wM_X9_180 mi_X9_needMan sl_X9_needMan dX9_heir_2 rfl ⟨Nat.le_of_ble_eq_true rfl, Nat.le_of_ble_eq_true rfl⟩ rfl (Nat.le_of_ble_eq_true rfl) ⟨Nat.le_trans (Nat.le_of_ble_eq_true rfl) hcs.1, Nat.le_trans (Nat.le_of_ble_eq_true rfl) hcs.2⟩ ?_
    refine z_id (st := []) ?_
    refine z_aload_n F dX9_heir_5 rfl 0 rfl ?_
    refine zg_9_12 F t0 wF_X9_74 dX9_heir_6 ?_
    refine z_iload_n F dX9_heir_9 rfl 1 rfl ?_
    obtain ⟨r_4, v_3, hq10, h⟩ := zbind_ex h
    refine z_callVi F [.int x1] [] (kX4_heirOf x.2.1 G (zrf x0 12) (zt_f tc_9_12 t0) x1 v_1 r_4 v_3 hq10) mI_X4_heirOf (c := 4) rfl (zt_f tc_9_12 t0) wM_X9_344 mi_X4_heirOf sl_X4_heirOf dX9_heir_10 rfl ⟨Nat.le_of_ble_eq_true rfl, Nat.le_of_ble_eq_true rfl⟩ rfl (Nat.le_of_ble_eq_true rfl) ⟨Nat.le_trans (Nat.le_of_ble_eq_true rfl) hcs.1, Nat.le_trans (Nat.le_of_ble_eq_true rfl) hcs.2⟩ ?_
    cases h
    exact z_xreti F hr hk (Nat.le_of_ble_eq_true rfl) (Nat.le_of_ble_eq_true rfl) dX9_heir_13
  · have hM9 := kX9_needMan x.2.1 G x0 t0 x1 v (c1 + 1) r_2 v_1 hfl hq2
    cases h
    exact z_xcall1 F hnt hk [.int x1] [] hM9 mI_X9_needMan (c := 9) rfl t0 wM_X9_180 mi_X9_needMan sl_X9_needMan dX9_heir_2 rfl ⟨Nat.le_of_ble_eq_true rfl, Nat.le_of_ble_eq_true rfl⟩ rfl (Nat.le_of_ble_eq_true rfl) ⟨Nat.le_trans (Nat.le_of_ble_eq_true rfl) hcs.1, Nat.le_trans (Nat.le_of_ble_eq_true rfl) hcs.2⟩ (Nat.le_of_ble_eq_true rfl) (Nat.le_of_ble_eq_true rfl)

theorem dX9_fates_0 : decode cX9_fates 0 = .ok (.aload_n 0, 1) := by decide +kernel
theorem dX9_fates_1 : decode cX9_fates 1 = .ok (.iload_n 2, 1) := by decide +kernel
theorem dX9_fates_2 : decode cX9_fates 2 = .ok (.iconst 0, 1) := by decide +kernel
theorem dX9_fates_3 : decode cX9_fates 3 = .ok (.bipush 16, 2) := by decide +kernel
theorem dX9_fates_5 : decode cX9_fates 5 = .ok (.invokestatic 150, 3) := by decide +kernel
theorem dX9_fates_8 : decode cX9_fates 8 = .ok (.invokevirtual 154, 3) := by decide +kernel
theorem dX9_fates_11 : decode cX9_fates 11 = .ok (.aload_n 0, 1) := by decide +kernel
theorem dX9_fates_12 : decode cX9_fates 12 = .ok (.iload_n 3, 1) := by decide +kernel
theorem dX9_fates_13 : decode cX9_fates 13 = .ok (.iconst 1, 1) := by decide +kernel
theorem dX9_fates_14 : decode cX9_fates 14 = .ok (.bipush 40, 2) := by decide +kernel
theorem dX9_fates_16 : decode cX9_fates 16 = .ok (.invokestatic 150, 3) := by decide +kernel
theorem dX9_fates_19 : decode cX9_fates 19 = .ok (.invokevirtual 154, 3) := by decide +kernel
theorem dX9_fates_22 : decode cX9_fates 22 = .ok (.aload_n 0, 1) := by decide +kernel
theorem dX9_fates_23 : decode cX9_fates 23 = .ok (.iload 4, 2) := by decide +kernel
theorem dX9_fates_25 : decode cX9_fates 25 = .ok (.iconst 0, 1) := by decide +kernel
theorem dX9_fates_26 : decode cX9_fates 26 = .ok (.iconst 3, 1) := by decide +kernel
theorem dX9_fates_27 : decode cX9_fates 27 = .ok (.invokestatic 150, 3) := by decide +kernel
theorem dX9_fates_30 : decode cX9_fates 30 = .ok (.invokevirtual 154, 3) := by decide +kernel
theorem dX9_fates_33 : decode cX9_fates 33 = .ok (.aload_n 0, 1) := by decide +kernel
theorem dX9_fates_34 : decode cX9_fates 34 = .ok (.getfield 74, 3) := by decide +kernel
theorem dX9_fates_37 : decode cX9_fates 37 = .ok (.iload_n 1, 1) := by decide +kernel
theorem dX9_fates_38 : decode cX9_fates 38 = .ok (.iload_n 2, 1) := by decide +kernel
theorem dX9_fates_39 : decode cX9_fates 39 = .ok (.iload_n 3, 1) := by decide +kernel
theorem dX9_fates_40 : decode cX9_fates 40 = .ok (.iload 4, 2) := by decide +kernel
theorem dX9_fates_42 : decode cX9_fates 42 = .ok (.invokevirtual 347, 3) := by decide +kernel
theorem dX9_fates_45 : decode cX9_fates 45 = .ok (.ireturn, 1) := by decide +kernel
def fX9_fates (x0 : Nat) (x1 : Int32) (x2 : Int32) (x3 : Int32) (x4 : Int32) (v : zV) : Option (Nat × Int32 × zV) :=
  zbind (fX9_within x2 (0 : Int32) (16 : Int32) v) fun r_2 v_1 =>
  zbindx (fX9_need x0 r_2 v_1) (fun r_4 v_3 =>
    zbind (fX9_within x3 (1 : Int32) (40 : Int32) v_3) fun r_6 v_5 =>
    zbindx (fX9_need x0 r_6 v_5) (fun r_8 v_7 =>
      zbind (fX9_within x4 (0 : Int32) (3 : Int32) v_7) fun r_10 v_9 =>
      zbindx (fX9_need x0 r_10 v_9) (fun r_12 v_11 =>
        zbind (fX4_fateOf (zrf x0 12) x1 x2 x3 x4 v_11) fun r_14 v_13 =>
        some (0, r_14, v_13))
      (0 : Int32))
    (0 : Int32))
  (0 : Int32)
set_option maxRecDepth 4000 in
theorem kX9_fates (l : Launch) (G : zG) (x0 : Nat) (t0 : zty G x0 1 9) (x1 : Int32) (x2 : Int32) (x3 : Int32) (x4 : Int32) (v : zV) (c : Nat) (r : Int32) (w : zV) (hfl9 : l.stackTraces = false) (h : fX9_fates x0 x1 x2 x3 x4 v = some (c, r, w)) : zXM l yX9_fates cX9_fates 5 (Option.some FieldType.int) 8 244 3 18 [zr G x0, .int x1, .int x2, .int x3, .int x4] G v c (some (.int r)) w := by
  refine zXM_of (own := RX9) (by decide) rfl (Nat.le_of_ble_eq_true rfl) (fun x hl F hr hk hcs hnt => ?_)
  subst hl
  have hfl := hfl9
  refine z_ls [(0, zr G x0), (1, .int x1), (2, .int x2), (3, .int x3), (4, .int x4)] [0, 1, 2, 3, 4] rfl ?_
  unfold fX9_fates at h
  refine z_aload_n F dX9_fates_0 rfl 0 rfl ?_
  refine z_iload_n F dX9_fates_1 rfl 2 rfl ?_
  refine z_iconst (y := (0 : Int32)) F dX9_fates_2 rfl ?_
  refine z_bipush (y := (16 : Int32)) F dX9_fates_3 rfl ?_
  obtain ⟨r_2, v_1, hq5, h⟩ := zbind_ex h
  refine z_callSi F [.int x2, .int (0 : Int32), .int (16 : Int32)] [zr G x0] (kX9_within x.2.1 G x2 (0 : Int32) (16 : Int32) v r_2 v_1 hq5) mI_X9_within wM_X9_150 ms_X9_within dX9_fates_5 rfl ⟨Nat.le_of_ble_eq_true rfl, Nat.le_of_ble_eq_true rfl⟩ rfl (Nat.le_of_ble_eq_true rfl) ⟨Nat.le_trans (Nat.le_of_ble_eq_true rfl) hcs.1, Nat.le_trans (Nat.le_of_ble_eq_true rfl) hcs.2⟩ ?_
  rcases zbindx_ex h with ⟨r_4, v_3, hq8, h⟩ | ⟨c1, r_4, v_3, hq8, h⟩
  · have hM9 := kX9_need x.2.1 G x0 t0 r_2 v_1 0 r_4 v_3 hfl hq8
    refine z_xcall0 F [.int r_2] [] hM9 mI_X9_need (c := 9) rfl t0 wM_X9_154 mi_X9_need sl_X9_need dX9_fates_8 rfl ⟨Nat.le_of_ble_eq_true rfl, Nat.le_of_ble_eq_true rfl⟩ rfl (Nat.le_of_ble_eq_true rfl) ⟨Nat.le_trans (Nat.le_of_ble_eq_true rfl) hcs.1, Nat.le_trans (Nat.le_of_ble_eq_true rfl) hcs.2⟩ ?_
    refine z_id (st := []) ?_
    refine z_aload_n F dX9_fates_11 rfl 0 rfl ?_
    refine z_iload_n F dX9_fates_12 rfl 3 rfl ?_
    refine z_iconst (y := (1 : Int32)) F dX9_fates_13 rfl ?_
    refine z_bipush (y := (40 : Int32)) F dX9_fates_14 rfl ?_
    obtain ⟨r_6, v_5, hq16, h⟩ := zbind_ex h
    refine z_callSi F [.int x3, .int (1 : Int32), .int (40 : Int32)] [zr G x0] (kX9_within x.2.1 G x3 (1 : Int32) (40 : Int32) v_3 r_6 v_5 hq16) mI_X9_within wM_X9_150 ms_X9_within dX9_fates_16 rfl ⟨Nat.le_of_ble_eq_true rfl, Nat.le_of_ble_eq_true rfl⟩ rfl (Nat.le_of_ble_eq_true rfl) ⟨Nat.le_trans (Nat.le_of_ble_eq_true rfl) hcs.1, Nat.le_trans (Nat.le_of_ble_eq_true rfl) hcs.2⟩ ?_
    rcases zbindx_ex h with ⟨r_8, v_7, hq19, h⟩ | ⟨c1, r_8, v_7, hq19, h⟩
    · have hM9 := kX9_need x.2.1 G x0 t0 r_6 v_5 0 r_8 v_7 hfl hq19
      refine z_xcall0 F [.int r_6] [] hM9 mI_X9_need (c := 9) rfl t0 wM_X9_154 mi_X9_need sl_X9_need dX9_fates_19 rfl ⟨Nat.le_of_ble_eq_true rfl, Nat.le_of_ble_eq_true rfl⟩ rfl (Nat.le_of_ble_eq_true rfl) ⟨Nat.le_trans (Nat.le_of_ble_eq_true rfl) hcs.1, Nat.le_trans (Nat.le_of_ble_eq_true rfl) hcs.2⟩ ?_
      refine z_id (st := []) ?_
      refine z_aload_n F dX9_fates_22 rfl 0 rfl ?_
      refine z_iload F dX9_fates_23 4 rfl ?_
      refine z_iconst (y := (0 : Int32)) F dX9_fates_25 rfl ?_
      refine z_iconst (y := (3 : Int32)) F dX9_fates_26 rfl ?_
      obtain ⟨r_10, v_9, hq27, h⟩ := zbind_ex h
      refine z_callSi F [.int x4, .int (0 : Int32), .int (3 : Int32)] [zr G x0] (kX9_within x.2.1 G x4 (0 : Int32) (3 : Int32) v_7 r_10 v_9 hq27) mI_X9_within wM_X9_150 ms_X9_within dX9_fates_27 rfl ⟨Nat.le_of_ble_eq_true rfl, Nat.le_of_ble_eq_true rfl⟩ rfl (Nat.le_of_ble_eq_true rfl) ⟨Nat.le_trans (Nat.le_of_ble_eq_true rfl) hcs.1, Nat.le_trans (Nat.le_of_ble_eq_true rfl) hcs.2⟩ ?_
      rcases zbindx_ex h with ⟨r_12, v_11, hq30, h⟩ | ⟨c1, r_12, v_11, hq30, h⟩
      · have hM9 := kX9_need x.2.1 G x0 t0 r_10 v_9 0 r_12 v_11 hfl hq30
        refine z_xcall0 F [.int r_10] [] hM9 mI_X9_need (c := 9) rfl t0 wM_X9_154 mi_X9_need sl_X9_need dX9_fates_30 rfl ⟨Nat.le_of_ble_eq_true rfl, Nat.le_of_ble_eq_true rfl⟩ rfl (Nat.le_of_ble_eq_true rfl) ⟨Nat.le_trans (Nat.le_of_ble_eq_true rfl) hcs.1, Nat.le_trans (Nat.le_of_ble_eq_true rfl) hcs.2⟩ ?_
        refine z_id (st := []) ?_
        refine z_aload_n F dX9_fates_33 rfl 0 rfl ?_
        refine zg_9_12 F t0 wF_X9_74 dX9_fates_34 ?_
        refine z_iload_n F dX9_fates_37 rfl 1 rfl ?_
        refine z_iload_n F dX9_fates_38 rfl 2 rfl ?_
        refine z_iload_n F dX9_fates_39 rfl 3 rfl ?_
        refine z_iload F dX9_fates_40 4 rfl ?_
        obtain ⟨r_14, v_13, hq42, h⟩ := zbind_ex h
        refine z_callVi F [.int x1, .int x2, .int x3, .int x4] [] (kX4_fateOf x.2.1 G (zrf x0 12) (zt_f tc_9_12 t0) x1 x2 x3 x4 v_11 r_14 v_13 hq42) mI_X4_fateOf (c := 4) rfl (zt_f tc_9_12 t0) wM_X9_347 mi_X4_fateOf sl_X4_fateOf dX9_fates_42 rfl ⟨Nat.le_of_ble_eq_true rfl, Nat.le_of_ble_eq_true rfl⟩ rfl (Nat.le_of_ble_eq_true rfl) ⟨Nat.le_trans (Nat.le_of_ble_eq_true rfl) hcs.1, Nat.le_trans (Nat.le_of_ble_eq_true rfl) hcs.2⟩ ?_
        cases h
        exact z_xreti F hr hk (Nat.le_of_ble_eq_true rfl) (Nat.le_of_ble_eq_true rfl) dX9_fates_45
      · have hM9 := kX9_need x.2.1 G x0 t0 r_10 v_9 (c1 + 1) r_12 v_11 hfl hq30
        cases h
        exact z_xcall1 F hnt hk [.int r_10] [] hM9 mI_X9_need (c := 9) rfl t0 wM_X9_154 mi_X9_need sl_X9_need dX9_fates_30 rfl ⟨Nat.le_of_ble_eq_true rfl, Nat.le_of_ble_eq_true rfl⟩ rfl (Nat.le_of_ble_eq_true rfl) ⟨Nat.le_trans (Nat.le_of_ble_eq_true rfl) hcs.1, Nat.le_trans (Nat.le_of_ble_eq_true rfl) hcs.2⟩ (Nat.le_of_ble_eq_true rfl) (Nat.le_of_ble_eq_true rfl)
    · have hM9 := kX9_need x.2.1 G x0 t0 r_6 v_5 (c1 + 1) r_8 v_7 hfl hq19
      cases h
      exact z_xcall1 F hnt hk [.int r_6] [] hM9 mI_X9_need (c := 9) rfl t0 wM_X9_154 mi_X9_need sl_X9_need dX9_fates_19 rfl ⟨Nat.le_of_ble_eq_true rfl, Nat.le_of_ble_eq_true rfl⟩ rfl (Nat.le_of_ble_eq_true rfl) ⟨Nat.le_trans (Nat.le_of_ble_eq_true rfl) hcs.1, Nat.le_trans (Nat.le_of_ble_eq_true rfl) hcs.2⟩ (Nat.le_of_ble_eq_true rfl) (Nat.le_of_ble_eq_true rfl)
  · have hM9 := kX9_need x.2.1 G x0 t0 r_2 v_1 (c1 + 1) r_4 v_3 hfl hq8
    cases h
    exact z_xcall1 F hnt hk [.int r_2] [] hM9 mI_X9_need (c := 9) rfl t0 wM_X9_154 mi_X9_need sl_X9_need dX9_fates_8 rfl ⟨Nat.le_of_ble_eq_true rfl, Nat.le_of_ble_eq_true rfl⟩ rfl (Nat.le_of_ble_eq_true rfl) ⟨Nat.le_trans (Nat.le_of_ble_eq_true rfl) hcs.1, Nat.le_trans (Nat.le_of_ble_eq_true rfl) hcs.2⟩ (Nat.le_of_ble_eq_true rfl) (Nat.le_of_ble_eq_true rfl)

theorem dX9_span_0 : decode cX9_span 0 = .ok (.aload_n 0, 1) := by decide +kernel
theorem dX9_span_1 : decode cX9_span 1 = .ok (.iload_n 2, 1) := by decide +kernel
theorem dX9_span_2 : decode cX9_span 2 = .ok (.iconst 1, 1) := by decide +kernel
theorem dX9_span_3 : decode cX9_span 3 = .ok (.bipush 20, 2) := by decide +kernel
theorem dX9_span_5 : decode cX9_span 5 = .ok (.invokestatic 150, 3) := by decide +kernel
theorem dX9_span_8 : decode cX9_span 8 = .ok (.invokevirtual 154, 3) := by decide +kernel
theorem dX9_span_11 : decode cX9_span 11 = .ok (.aload_n 0, 1) := by decide +kernel
theorem dX9_span_12 : decode cX9_span 12 = .ok (.iload_n 3, 1) := by decide +kernel
theorem dX9_span_13 : decode cX9_span 13 = .ok (.iconst 0, 1) := by decide +kernel
theorem dX9_span_14 : decode cX9_span 14 = .ok (.bipush 16, 2) := by decide +kernel
theorem dX9_span_16 : decode cX9_span 16 = .ok (.invokestatic 150, 3) := by decide +kernel
theorem dX9_span_19 : decode cX9_span 19 = .ok (.invokevirtual 154, 3) := by decide +kernel
theorem dX9_span_22 : decode cX9_span 22 = .ok (.aload_n 0, 1) := by decide +kernel
theorem dX9_span_23 : decode cX9_span 23 = .ok (.iload 4, 2) := by decide +kernel
theorem dX9_span_25 : decode cX9_span 25 = .ok (.iconst 1, 1) := by decide +kernel
theorem dX9_span_26 : decode cX9_span 26 = .ok (.bipush 40, 2) := by decide +kernel
theorem dX9_span_28 : decode cX9_span 28 = .ok (.invokestatic 150, 3) := by decide +kernel
theorem dX9_span_31 : decode cX9_span 31 = .ok (.invokevirtual 154, 3) := by decide +kernel
theorem dX9_span_34 : decode cX9_span 34 = .ok (.aload_n 0, 1) := by decide +kernel
theorem dX9_span_35 : decode cX9_span 35 = .ok (.iload 5, 2) := by decide +kernel
theorem dX9_span_37 : decode cX9_span 37 = .ok (.iconst 0, 1) := by decide +kernel
theorem dX9_span_38 : decode cX9_span 38 = .ok (.iconst 2, 1) := by decide +kernel
theorem dX9_span_39 : decode cX9_span 39 = .ok (.invokestatic 150, 3) := by decide +kernel
theorem dX9_span_42 : decode cX9_span 42 = .ok (.invokevirtual 154, 3) := by decide +kernel
theorem dX9_span_45 : decode cX9_span 45 = .ok (.aload_n 0, 1) := by decide +kernel
theorem dX9_span_46 : decode cX9_span 46 = .ok (.iload 6, 2) := by decide +kernel
theorem dX9_span_48 : decode cX9_span 48 = .ok (.iconst 0, 1) := by decide +kernel
theorem dX9_span_49 : decode cX9_span 49 = .ok (.aload_n 0, 1) := by decide +kernel
theorem dX9_span_50 : decode cX9_span 50 = .ok (.getfield 19, 3) := by decide +kernel
theorem dX9_span_53 : decode cX9_span 53 = .ok (.getfield 134, 3) := by decide +kernel
theorem dX9_span_56 : decode cX9_span 56 = .ok (.iconst 1, 1) := by decide +kernel
theorem dX9_span_57 : decode cX9_span 57 = .ok (.isub, 1) := by decide +kernel
theorem dX9_span_58 : decode cX9_span 58 = .ok (.invokestatic 150, 3) := by decide +kernel
theorem dX9_span_61 : decode cX9_span 61 = .ok (.invokevirtual 154, 3) := by decide +kernel
theorem dX9_span_64 : decode cX9_span 64 = .ok (.aload_n 0, 1) := by decide +kernel
theorem dX9_span_65 : decode cX9_span 65 = .ok (.getfield 74, 3) := by decide +kernel
theorem dX9_span_68 : decode cX9_span 68 = .ok (.iload_n 1, 1) := by decide +kernel
theorem dX9_span_69 : decode cX9_span 69 = .ok (.iload_n 2, 1) := by decide +kernel
theorem dX9_span_70 : decode cX9_span 70 = .ok (.iload_n 3, 1) := by decide +kernel
theorem dX9_span_71 : decode cX9_span 71 = .ok (.iload 4, 2) := by decide +kernel
theorem dX9_span_73 : decode cX9_span 73 = .ok (.iload 6, 2) := by decide +kernel
theorem dX9_span_75 : decode cX9_span 75 = .ok (.invokevirtual 350, 3) := by decide +kernel
theorem dX9_span_78 : decode cX9_span 78 = .ok (.iload 5, 2) := by decide +kernel
theorem dX9_span_80 : decode cX9_span 80 = .ok (.lookupswitch 44 #[(0, 28), (1, 36)], 28) := by decide +kernel
theorem dX9_span_108 : decode cX9_span 108 = .ok (.aload_n 0, 1) := by decide +kernel
theorem dX9_span_109 : decode cX9_span 109 = .ok (.getfield 74, 3) := by decide +kernel
theorem dX9_span_112 : decode cX9_span 112 = .ok (.getfield 354, 3) := by decide +kernel
theorem dX9_span_115 : decode cX9_span 115 = .ok (.ireturn, 1) := by decide +kernel
theorem dX9_span_116 : decode cX9_span 116 = .ok (.aload_n 0, 1) := by decide +kernel
theorem dX9_span_117 : decode cX9_span 117 = .ok (.getfield 74, 3) := by decide +kernel
theorem dX9_span_120 : decode cX9_span 120 = .ok (.getfield 357, 3) := by decide +kernel
theorem dX9_span_123 : decode cX9_span 123 = .ok (.ireturn, 1) := by decide +kernel
theorem dX9_span_124 : decode cX9_span 124 = .ok (.aload_n 0, 1) := by decide +kernel
theorem dX9_span_125 : decode cX9_span 125 = .ok (.getfield 74, 3) := by decide +kernel
theorem dX9_span_128 : decode cX9_span 128 = .ok (.getfield 360, 3) := by decide +kernel
theorem dX9_span_131 : decode cX9_span 131 = .ok (.ireturn, 1) := by decide +kernel
def fX9_span (x0 : Nat) (x1 : Int32) (x2 : Int32) (x3 : Int32) (x4 : Int32) (x5 : Int32) (x6 : Int32) (v : zV) : Option (Nat × Int32 × zV) :=
  zbind (fX9_within x2 (1 : Int32) (20 : Int32) v) fun r_2 v_1 =>
  zbindx (fX9_need x0 r_2 v_1) (fun r_4 v_3 =>
    zbind (fX9_within x3 (0 : Int32) (16 : Int32) v_3) fun r_6 v_5 =>
    zbindx (fX9_need x0 r_6 v_5) (fun r_8 v_7 =>
      zbind (fX9_within x4 (1 : Int32) (40 : Int32) v_7) fun r_10 v_9 =>
      zbindx (fX9_need x0 r_10 v_9) (fun r_12 v_11 =>
        zbind (fX9_within x5 (0 : Int32) (2 : Int32) v_11) fun r_14 v_13 =>
        zbindx (fX9_need x0 r_14 v_13) (fun r_16 v_15 =>
          zbind (fX9_within x6 (0 : Int32) ((v_15 (zrf x0 1) 1) - (1 : Int32)) v_15) fun r_18 v_17 =>
          zbindx (fX9_need x0 r_18 v_17) (fun r_20 v_19 =>
            zbindv (fX4_tryFates (zrf x0 12) x1 x2 x3 x4 x6 v_19) fun v_21 =>
            if x5 = (0 : Int32) then
              some (0, v_21 (zrf x0 12) 10, v_21)
            else
              if x5 = (1 : Int32) then
                some (0, v_21 (zrf x0 12) 11, v_21)
              else
                some (0, v_21 (zrf x0 12) 12, v_21))
          (0 : Int32))
        (0 : Int32))
      (0 : Int32))
    (0 : Int32))
  (0 : Int32)
set_option maxRecDepth 4000 in
theorem kX9_span (l : Launch) (G : zG) (x0 : Nat) (t0 : zty G x0 1 9) (x1 : Int32) (x2 : Int32) (x3 : Int32) (x4 : Int32) (x5 : Int32) (x6 : Int32) (v : zV) (c : Nat) (r : Int32) (w : zV) (hfl9 : l.stackTraces = false) (h : fX9_span x0 x1 x2 x3 x4 x5 x6 v = some (c, r, w)) : zXM l yX9_span cX9_span 7 (Option.some FieldType.int) 8 246 5 30 [zr G x0, .int x1, .int x2, .int x3, .int x4, .int x5, .int x6] G v c (some (.int r)) w := by
  refine zXM_of (own := RX9) (by decide) rfl (Nat.le_of_ble_eq_true rfl) (fun x hl F hr hk hcs hnt => ?_)
  subst hl
  have hfl := hfl9
  refine z_ls [(0, zr G x0), (1, .int x1), (2, .int x2), (3, .int x3), (4, .int x4), (5, .int x5), (6, .int x6)] [0, 1, 2, 3, 4, 5, 6] rfl ?_
  unfold fX9_span at h
  refine z_aload_n F dX9_span_0 rfl 0 rfl ?_
  refine z_iload_n F dX9_span_1 rfl 2 rfl ?_
  refine z_iconst (y := (1 : Int32)) F dX9_span_2 rfl ?_
  refine z_bipush (y := (20 : Int32)) F dX9_span_3 rfl ?_
  obtain ⟨r_2, v_1, hq5, h⟩ := zbind_ex h
  refine z_callSi F [.int x2, .int (1 : Int32), .int (20 : Int32)] [zr G x0] (kX9_within x.2.1 G x2 (1 : Int32) (20 : Int32) v r_2 v_1 hq5) mI_X9_within wM_X9_150 ms_X9_within dX9_span_5 rfl ⟨Nat.le_of_ble_eq_true rfl, Nat.le_of_ble_eq_true rfl⟩ rfl (Nat.le_of_ble_eq_true rfl) ⟨Nat.le_trans (Nat.le_of_ble_eq_true rfl) hcs.1, Nat.le_trans (Nat.le_of_ble_eq_true rfl) hcs.2⟩ ?_
  rcases zbindx_ex h with ⟨r_4, v_3, hq8, h⟩ | ⟨c1, r_4, v_3, hq8, h⟩
  · have hM9 := kX9_need x.2.1 G x0 t0 r_2 v_1 0 r_4 v_3 hfl hq8
    refine z_xcall0 F [.int r_2] [] hM9 mI_X9_need (c := 9) rfl t0 wM_X9_154 mi_X9_need sl_X9_need dX9_span_8 rfl ⟨Nat.le_of_ble_eq_true rfl, Nat.le_of_ble_eq_true rfl⟩ rfl (Nat.le_of_ble_eq_true rfl) ⟨Nat.le_trans (Nat.le_of_ble_eq_true rfl) hcs.1, Nat.le_trans (Nat.le_of_ble_eq_true rfl) hcs.2⟩ ?_
    refine z_id (st := []) ?_
    refine z_aload_n F dX9_span_11 rfl 0 rfl ?_
    refine z_iload_n F dX9_span_12 rfl 3 rfl ?_
    refine z_iconst (y := (0 : Int32)) F dX9_span_13 rfl ?_
    refine z_bipush (y := (16 : Int32)) F dX9_span_14 rfl ?_
    obtain ⟨r_6, v_5, hq16, h⟩ := zbind_ex h
    refine z_callSi F [.int x3, .int (0 : Int32), .int (16 : Int32)] [zr G x0] (kX9_within x.2.1 G x3 (0 : Int32) (16 : Int32) v_3 r_6 v_5 hq16) mI_X9_within wM_X9_150 ms_X9_within dX9_span_16 rfl ⟨Nat.le_of_ble_eq_true rfl, Nat.le_of_ble_eq_true rfl⟩ rfl (Nat.le_of_ble_eq_true rfl) ⟨Nat.le_trans (Nat.le_of_ble_eq_true rfl) hcs.1, Nat.le_trans (Nat.le_of_ble_eq_true rfl) hcs.2⟩ ?_
    rcases zbindx_ex h with ⟨r_8, v_7, hq19, h⟩ | ⟨c1, r_8, v_7, hq19, h⟩
    · have hM9 := kX9_need x.2.1 G x0 t0 r_6 v_5 0 r_8 v_7 hfl hq19
      refine z_xcall0 F [.int r_6] [] hM9 mI_X9_need (c := 9) rfl t0 wM_X9_154 mi_X9_need sl_X9_need dX9_span_19 rfl ⟨Nat.le_of_ble_eq_true rfl, Nat.le_of_ble_eq_true rfl⟩ rfl (Nat.le_of_ble_eq_true rfl) ⟨Nat.le_trans (Nat.le_of_ble_eq_true rfl) hcs.1, Nat.le_trans (Nat.le_of_ble_eq_true rfl) hcs.2⟩ ?_
      refine z_id (st := []) ?_
      refine z_aload_n F dX9_span_22 rfl 0 rfl ?_
      refine z_iload F dX9_span_23 4 rfl ?_
      refine z_iconst (y := (1 : Int32)) F dX9_span_25 rfl ?_
      refine z_bipush (y := (40 : Int32)) F dX9_span_26 rfl ?_
      obtain ⟨r_10, v_9, hq28, h⟩ := zbind_ex h
      refine z_callSi F [.int x4, .int (1 : Int32), .int (40 : Int32)] [zr G x0] (kX9_within x.2.1 G x4 (1 : Int32) (40 : Int32) v_7 r_10 v_9 hq28) mI_X9_within wM_X9_150 ms_X9_within dX9_span_28 rfl ⟨Nat.le_of_ble_eq_true rfl, Nat.le_of_ble_eq_true rfl⟩ rfl (Nat.le_of_ble_eq_true rfl) ⟨Nat.le_trans (Nat.le_of_ble_eq_true rfl) hcs.1, Nat.le_trans (Nat.le_of_ble_eq_true rfl) hcs.2⟩ ?_
      rcases zbindx_ex h with ⟨r_12, v_11, hq31, h⟩ | ⟨c1, r_12, v_11, hq31, h⟩
      · have hM9 := kX9_need x.2.1 G x0 t0 r_10 v_9 0 r_12 v_11 hfl hq31
        refine z_xcall0 F [.int r_10] [] hM9 mI_X9_need (c := 9) rfl t0 wM_X9_154 mi_X9_need sl_X9_need dX9_span_31 rfl ⟨Nat.le_of_ble_eq_true rfl, Nat.le_of_ble_eq_true rfl⟩ rfl (Nat.le_of_ble_eq_true rfl) ⟨Nat.le_trans (Nat.le_of_ble_eq_true rfl) hcs.1, Nat.le_trans (Nat.le_of_ble_eq_true rfl) hcs.2⟩ ?_
        refine z_id (st := []) ?_
        refine z_aload_n F dX9_span_34 rfl 0 rfl ?_
        refine z_iload F dX9_span_35 5 rfl ?_
        refine z_iconst (y := (0 : Int32)) F dX9_span_37 rfl ?_
        refine z_iconst (y := (2 : Int32)) F dX9_span_38 rfl ?_
        obtain ⟨r_14, v_13, hq39, h⟩ := zbind_ex h
        refine z_callSi F [.int x5, .int (0 : Int32), .int (2 : Int32)] [zr G x0] (kX9_within x.2.1 G x5 (0 : Int32) (2 : Int32) v_11 r_14 v_13 hq39) mI_X9_within wM_X9_150 ms_X9_within dX9_span_39 rfl ⟨Nat.le_of_ble_eq_true rfl, Nat.le_of_ble_eq_true rfl⟩ rfl (Nat.le_of_ble_eq_true rfl) ⟨Nat.le_trans (Nat.le_of_ble_eq_true rfl) hcs.1, Nat.le_trans (Nat.le_of_ble_eq_true rfl) hcs.2⟩ ?_
        rcases zbindx_ex h with ⟨r_16, v_15, hq42, h⟩ | ⟨c1, r_16, v_15, hq42, h⟩
        · have hM9 := kX9_need x.2.1 G x0 t0 r_14 v_13 0 r_16 v_15 hfl hq42
          refine z_xcall0 F [.int r_14] [] hM9 mI_X9_need (c := 9) rfl t0 wM_X9_154 mi_X9_need sl_X9_need dX9_span_42 rfl ⟨Nat.le_of_ble_eq_true rfl, Nat.le_of_ble_eq_true rfl⟩ rfl (Nat.le_of_ble_eq_true rfl) ⟨Nat.le_trans (Nat.le_of_ble_eq_true rfl) hcs.1, Nat.le_trans (Nat.le_of_ble_eq_true rfl) hcs.2⟩ ?_
          refine z_id (st := []) ?_
          refine z_aload_n F dX9_span_45 rfl 0 rfl ?_
          refine z_iload F dX9_span_46 6 rfl ?_
          refine z_iconst (y := (0 : Int32)) F dX9_span_48 rfl ?_
          refine z_aload_n F dX9_span_49 rfl 0 rfl ?_
          refine zg_9_1 F t0 wF_X9_19 dX9_span_50 ?_
          refine zg_0_1 F (zt_f tc_9_1 t0) wF_X9_134 dX9_span_53 ?_
          refine z_iconst (y := (1 : Int32)) F dX9_span_56 rfl ?_
          refine z_isub F dX9_span_57 ?_
          obtain ⟨r_18, v_17, hq58, h⟩ := zbind_ex h
          refine z_callSi F [.int x6, .int (0 : Int32), .int ((v_15 (zrf x0 1) 1) - (1 : Int32))] [zr G x0] (kX9_within x.2.1 G x6 (0 : Int32) ((v_15 (zrf x0 1) 1) - (1 : Int32)) v_15 r_18 v_17 hq58) mI_X9_within wM_X9_150 ms_X9_within dX9_span_58 rfl ⟨Nat.le_of_ble_eq_true rfl, Nat.le_of_ble_eq_true rfl⟩ rfl (Nat.le_of_ble_eq_true rfl) ⟨Nat.le_trans (Nat.le_of_ble_eq_true rfl) hcs.1, Nat.le_trans (Nat.le_of_ble_eq_true rfl) hcs.2⟩ ?_
          rcases zbindx_ex h with ⟨r_20, v_19, hq61, h⟩ | ⟨c1, r_20, v_19, hq61, h⟩
          · have hM9 := kX9_need x.2.1 G x0 t0 r_18 v_17 0 r_20 v_19 hfl hq61
            refine z_xcall0 F [.int r_18] [] hM9 mI_X9_need (c := 9) rfl t0 wM_X9_154 mi_X9_need sl_X9_need dX9_span_61 rfl ⟨Nat.le_of_ble_eq_true rfl, Nat.le_of_ble_eq_true rfl⟩ rfl (Nat.le_of_ble_eq_true rfl) ⟨Nat.le_trans (Nat.le_of_ble_eq_true rfl) hcs.1, Nat.le_trans (Nat.le_of_ble_eq_true rfl) hcs.2⟩ ?_
            refine z_id (st := []) ?_
            refine z_aload_n F dX9_span_64 rfl 0 rfl ?_
            refine zg_9_12 F t0 wF_X9_74 dX9_span_65 ?_
            refine z_iload_n F dX9_span_68 rfl 1 rfl ?_
            refine z_iload_n F dX9_span_69 rfl 2 rfl ?_
            refine z_iload_n F dX9_span_70 rfl 3 rfl ?_
            refine z_iload F dX9_span_71 4 rfl ?_
            refine z_iload F dX9_span_73 6 rfl ?_
            obtain ⟨v_21, hq75, h⟩ := zbindv_ex h
            refine z_callVv F [.int x1, .int x2, .int x3, .int x4, .int x6] [] (kX4_tryFates x.2.1 G (zrf x0 12) (zt_f tc_9_12 t0) x1 x2 x3 x4 x6 v_19 v_21 hq75) mI_X4_tryFates (c := 4) rfl (zt_f tc_9_12 t0) wM_X9_350 mi_X4_tryFates sl_X4_tryFates dX9_span_75 rfl ⟨Nat.le_of_ble_eq_true rfl, Nat.le_of_ble_eq_true rfl⟩ rfl (Nat.le_of_ble_eq_true rfl) ⟨Nat.le_trans (Nat.le_of_ble_eq_true rfl) hcs.1, Nat.le_trans (Nat.le_of_ble_eq_true rfl) hcs.2⟩ ?_
            refine z_iload F dX9_span_78 5 rfl ?_
            by_cases hc : x5 = (0 : Int32)
            · replace h := zif_t hc h
              refine z_lkIn F 108 hc dX9_span_80 (by decide) rfl rfl ?_
              refine z_aload_n F dX9_span_108 rfl 0 rfl ?_
              refine zg_9_12 F t0 wF_X9_74 dX9_span_109 ?_
              refine zg_4_10 F (zt_f tc_9_12 t0) wF_X9_354 dX9_span_112 ?_
              cases h
              exact z_xreti F hr hk (Nat.le_of_ble_eq_true rfl) (Nat.le_of_ble_eq_true rfl) dX9_span_115
            · replace h := zif_f hc h
              have hn0 := zsw_ne hc
              by_cases hc : x5 = (1 : Int32)
              · replace h := zif_t hc h
                refine z_lkIn F 116 hc dX9_span_80 (by decide) rfl rfl ?_
                refine z_aload_n F dX9_span_116 rfl 0 rfl ?_
                refine zg_9_12 F t0 wF_X9_74 dX9_span_117 ?_
                refine zg_4_11 F (zt_f tc_9_12 t0) wF_X9_357 dX9_span_120 ?_
                cases h
                exact z_xreti F hr hk (Nat.le_of_ble_eq_true rfl) (Nat.le_of_ble_eq_true rfl) dX9_span_123
              · replace h := zif_f hc h
                have hn1 := zsw_ne hc
                refine z_lookup F 124 dX9_span_80 (by decide) (zlk_2 hn0 hn1) rfl ?_
                refine z_aload_n F dX9_span_124 rfl 0 rfl ?_
                refine zg_9_12 F t0 wF_X9_74 dX9_span_125 ?_
                refine zg_4_12 F (zt_f tc_9_12 t0) wF_X9_360 dX9_span_128 ?_
                cases h
                exact z_xreti F hr hk (Nat.le_of_ble_eq_true rfl) (Nat.le_of_ble_eq_true rfl) dX9_span_131
          · have hM9 := kX9_need x.2.1 G x0 t0 r_18 v_17 (c1 + 1) r_20 v_19 hfl hq61
            cases h
            exact z_xcall1 F hnt hk [.int r_18] [] hM9 mI_X9_need (c := 9) rfl t0 wM_X9_154 mi_X9_need sl_X9_need dX9_span_61 rfl ⟨Nat.le_of_ble_eq_true rfl, Nat.le_of_ble_eq_true rfl⟩ rfl (Nat.le_of_ble_eq_true rfl) ⟨Nat.le_trans (Nat.le_of_ble_eq_true rfl) hcs.1, Nat.le_trans (Nat.le_of_ble_eq_true rfl) hcs.2⟩ (Nat.le_of_ble_eq_true rfl) (Nat.le_of_ble_eq_true rfl)
        · have hM9 := kX9_need x.2.1 G x0 t0 r_14 v_13 (c1 + 1) r_16 v_15 hfl hq42
          cases h
          exact z_xcall1 F hnt hk [.int r_14] [] hM9 mI_X9_need (c := 9) rfl t0 wM_X9_154 mi_X9_need sl_X9_need dX9_span_42 rfl ⟨Nat.le_of_ble_eq_true rfl, Nat.le_of_ble_eq_true rfl⟩ rfl (Nat.le_of_ble_eq_true rfl) ⟨Nat.le_trans (Nat.le_of_ble_eq_true rfl) hcs.1, Nat.le_trans (Nat.le_of_ble_eq_true rfl) hcs.2⟩ (Nat.le_of_ble_eq_true rfl) (Nat.le_of_ble_eq_true rfl)
      · have hM9 := kX9_need x.2.1 G x0 t0 r_10 v_9 (c1 + 1) r_12 v_11 hfl hq31
        cases h
        exact z_xcall1 F hnt hk [.int r_10] [] hM9 mI_X9_need (c := 9) rfl t0 wM_X9_154 mi_X9_need sl_X9_need dX9_span_31 rfl ⟨Nat.le_of_ble_eq_true rfl, Nat.le_of_ble_eq_true rfl⟩ rfl (Nat.le_of_ble_eq_true rfl) ⟨Nat.le_trans (Nat.le_of_ble_eq_true rfl) hcs.1, Nat.le_trans (Nat.le_of_ble_eq_true rfl) hcs.2⟩ (Nat.le_of_ble_eq_true rfl) (Nat.le_of_ble_eq_true rfl)
    · have hM9 := kX9_need x.2.1 G x0 t0 r_6 v_5 (c1 + 1) r_8 v_7 hfl hq19
      cases h
      exact z_xcall1 F hnt hk [.int r_6] [] hM9 mI_X9_need (c := 9) rfl t0 wM_X9_154 mi_X9_need sl_X9_need dX9_span_19 rfl ⟨Nat.le_of_ble_eq_true rfl, Nat.le_of_ble_eq_true rfl⟩ rfl (Nat.le_of_ble_eq_true rfl) ⟨Nat.le_trans (Nat.le_of_ble_eq_true rfl) hcs.1, Nat.le_trans (Nat.le_of_ble_eq_true rfl) hcs.2⟩ (Nat.le_of_ble_eq_true rfl) (Nat.le_of_ble_eq_true rfl)
  · have hM9 := kX9_need x.2.1 G x0 t0 r_2 v_1 (c1 + 1) r_4 v_3 hfl hq8
    cases h
    exact z_xcall1 F hnt hk [.int r_2] [] hM9 mI_X9_need (c := 9) rfl t0 wM_X9_154 mi_X9_need sl_X9_need dX9_span_8 rfl ⟨Nat.le_of_ble_eq_true rfl, Nat.le_of_ble_eq_true rfl⟩ rfl (Nat.le_of_ble_eq_true rfl) ⟨Nat.le_trans (Nat.le_of_ble_eq_true rfl) hcs.1, Nat.le_trans (Nat.le_of_ble_eq_true rfl) hcs.2⟩ (Nat.le_of_ble_eq_true rfl) (Nat.le_of_ble_eq_true rfl)

