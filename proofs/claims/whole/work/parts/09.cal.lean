theorem dX5_add_0 : decode cX5_add 0 = .ok (.aload_n 0, 1) := by decide +kernel
theorem dX5_add_1 : decode cX5_add 1 = .ok (.getfield 24, 3) := by decide +kernel
theorem dX5_add_4 : decode cX5_add 4 = .ok (.ifCond .lt 35, 3) := by decide +kernel
theorem dX5_add_7 : decode cX5_add 7 = .ok (.aload_n 0, 1) := by decide +kernel
theorem dX5_add_8 : decode cX5_add 8 = .ok (.getfield 24, 3) := by decide +kernel
theorem dX5_add_11 : decode cX5_add 11 = .ok (.aload_n 0, 1) := by decide +kernel
theorem dX5_add_12 : decode cX5_add 12 = .ok (.getfield 9, 3) := by decide +kernel
theorem dX5_add_15 : decode cX5_add 15 = .ok (.arraylength, 1) := by decide +kernel
theorem dX5_add_16 : decode cX5_add 16 = .ok (.if_icmp .ge 23, 3) := by decide +kernel
theorem dX5_add_19 : decode cX5_add 19 = .ok (.aload_n 0, 1) := by decide +kernel
theorem dX5_add_20 : decode cX5_add 20 = .ok (.getfield 9, 3) := by decide +kernel
theorem dX5_add_23 : decode cX5_add 23 = .ok (.aload_n 0, 1) := by decide +kernel
theorem dX5_add_24 : decode cX5_add 24 = .ok (.getfield 24, 3) := by decide +kernel
theorem dX5_add_27 : decode cX5_add 27 = .ok (.iload_n 1, 1) := by decide +kernel
theorem dX5_add_28 : decode cX5_add 28 = .ok (.iastore, 1) := by decide +kernel
theorem dX5_add_29 : decode cX5_add 29 = .ok (.aload_n 0, 1) := by decide +kernel
theorem dX5_add_30 : decode cX5_add 30 = .ok (.dup, 1) := by decide +kernel
theorem dX5_add_31 : decode cX5_add 31 = .ok (.getfield 24, 3) := by decide +kernel
theorem dX5_add_34 : decode cX5_add 34 = .ok (.iconst 1, 1) := by decide +kernel
theorem dX5_add_35 : decode cX5_add 35 = .ok (.iadd, 1) := by decide +kernel
theorem dX5_add_36 : decode cX5_add 36 = .ok (.putfield 24, 3) := by decide +kernel
theorem dX5_add_39 : decode cX5_add 39 = .ok (.return_, 1) := by decide +kernel
def fX5_add (x0 : Nat) (x1 : Int32) (v : zV) : Option zV :=
  if (v x0 3) < (0 : Int32) then
    some v
  else
    if (Int32.ofNat (zlen (zrf x0 0))) ≤ (v x0 3) then
      some v
    else
      zix (v x0 3) (zlen (zrf x0 0)) <|
      zlet (zup v (zrf x0 0) (v x0 3).toNatClampNeg x1) fun v_1 =>
      zlet (zup v_1 x0 3 ((v_1 x0 3) + (1 : Int32))) fun v_2 =>
      some v_2
set_option maxRecDepth 4000 in
theorem kX5_add (l : Launch) (G : zG) (x0 : Nat) (t0 : zty G x0 1 5) (x1 : Int32) (v : zV) (w : zV) (h : fX5_add x0 x1 v = some w) : zMet l yX5_add cX5_add 2 (Option.none : Option FieldType) 1 80 0 0 [zr G x0, .int x1] G v none w := by
  refine zM_of (own := RX5) (by decide) rfl (Nat.le_of_ble_eq_true rfl) (fun x hl F hr hk hcs => ?_)
  subst hl
  refine z_ls [(0, zr G x0), (1, .int x1)] [0, 1] rfl ?_
  unfold fX5_add at h
  refine z_aload_n F dX5_add_0 rfl 0 rfl ?_
  refine zg_5_3 F t0 wF_X5_24 dX5_add_1 ?_
  refine z_if_lt F 39 dX5_add_4 rfl (fun hc => ?_) (fun hc => ?_)
  · replace h := zif_t hc h
    cases h
    exact z_retv F hr hk dX5_add_39
  · replace h := zif_f hc h
    refine z_aload_n F dX5_add_7 rfl 0 rfl ?_
    refine zg_5_3 F t0 wF_X5_24 dX5_add_8 ?_
    refine z_aload_n F dX5_add_11 rfl 0 rfl ?_
    refine zg_5_0 F t0 wF_X5_9 dX5_add_12 ?_
    refine z_alen0 F (zt_f tc_5_0 t0) dX5_add_15 rfl ?_
    refine z_icmp_ge F 39 dX5_add_16 rfl (fun hc => ?_) (fun hc => ?_)
    · replace h := zif_t hc h
      cases h
      exact z_retv F hr hk dX5_add_39
    · replace h := zif_f hc h
      refine z_aload_n F dX5_add_19 rfl 0 rfl ?_
      refine zg_5_0 F t0 wF_X5_9 dX5_add_20 ?_
      refine z_aload_n F dX5_add_23 rfl 0 rfl ?_
      refine zg_5_3 F t0 wF_X5_24 dX5_add_24 ?_
      refine z_iload_n F dX5_add_27 rfl 1 rfl ?_
      obtain ⟨hi28, h⟩ := zix_ex h
      refine z_iast F (zt_f tc_5_0 t0) dX5_add_28 hi28 ?_
      obtain ⟨v_1, ev_1, h⟩ := zlet_ex h
      refine z_heap ev_1 ?_
      refine z_aload_n F dX5_add_29 rfl 0 rfl ?_
      refine z_dup F dX5_add_30 rfl ?_
      refine zg_5_3 F t0 wF_X5_24 dX5_add_31 ?_
      refine z_iconst (y := (1 : Int32)) F dX5_add_34 rfl ?_
      refine z_iadd F dX5_add_35 ?_
      refine zp_5_3 F t0 wF_X5_24 dX5_add_36 ?_
      obtain ⟨v_2, ev_2, h⟩ := zlet_ex h
      refine z_heap ev_2 ?_
      cases h
      exact z_retv F hr hk dX5_add_39

theorem dX5_beUsual_0 : decode cX5_beUsual 0 = .ok (.aload_n 0, 1) := by decide +kernel
theorem dX5_beUsual_1 : decode cX5_beUsual 1 = .ok (.iconst 0, 1) := by decide +kernel
theorem dX5_beUsual_2 : decode cX5_beUsual 2 = .ok (.putfield 24, 3) := by decide +kernel
theorem dX5_beUsual_5 : decode cX5_beUsual 5 = .ok (.aload_n 0, 1) := by decide +kernel
theorem dX5_beUsual_6 : decode cX5_beUsual 6 = .ok (.bipush (-7), 2) := by decide +kernel
theorem dX5_beUsual_8 : decode cX5_beUsual 8 = .ok (.invokevirtual 28, 3) := by decide +kernel
theorem dX5_beUsual_11 : decode cX5_beUsual 11 = .ok (.aload_n 0, 1) := by decide +kernel
theorem dX5_beUsual_12 : decode cX5_beUsual 12 = .ok (.bipush 10, 2) := by decide +kernel
theorem dX5_beUsual_14 : decode cX5_beUsual 14 = .ok (.invokevirtual 28, 3) := by decide +kernel
theorem dX5_beUsual_17 : decode cX5_beUsual 17 = .ok (.aload_n 0, 1) := by decide +kernel
theorem dX5_beUsual_18 : decode cX5_beUsual 18 = .ok (.bipush (-3), 2) := by decide +kernel
theorem dX5_beUsual_20 : decode cX5_beUsual 20 = .ok (.invokevirtual 28, 3) := by decide +kernel
theorem dX5_beUsual_23 : decode cX5_beUsual 23 = .ok (.aload_n 0, 1) := by decide +kernel
theorem dX5_beUsual_24 : decode cX5_beUsual 24 = .ok (.bipush (-9), 2) := by decide +kernel
theorem dX5_beUsual_26 : decode cX5_beUsual 26 = .ok (.invokevirtual 28, 3) := by decide +kernel
theorem dX5_beUsual_29 : decode cX5_beUsual 29 = .ok (.aload_n 0, 1) := by decide +kernel
theorem dX5_beUsual_30 : decode cX5_beUsual 30 = .ok (.iconst (-1), 1) := by decide +kernel
theorem dX5_beUsual_31 : decode cX5_beUsual 31 = .ok (.invokevirtual 28, 3) := by decide +kernel
theorem dX5_beUsual_34 : decode cX5_beUsual 34 = .ok (.return_, 1) := by decide +kernel
def fX5_beUsual (x0 : Nat) (v : zV) : Option zV :=
  zlet (zup v x0 3 (0 : Int32)) fun v_1 =>
  zbindv (fX5_add x0 (-7 : Int32) v_1) fun v_2 =>
  zbindv (fX5_add x0 (10 : Int32) v_2) fun v_3 =>
  zbindv (fX5_add x0 (-3 : Int32) v_3) fun v_4 =>
  zbindv (fX5_add x0 (-9 : Int32) v_4) fun v_5 =>
  zbindv (fX5_add x0 (-1 : Int32) v_5) fun v_6 =>
  some v_6
set_option maxRecDepth 4000 in
theorem kX5_beUsual (l : Launch) (G : zG) (x0 : Nat) (t0 : zty G x0 1 5) (v : zV) (w : zV) (h : fX5_beUsual x0 v = some w) : zMet l yX5_beUsual cX5_beUsual 1 (Option.none : Option FieldType) 2 101 0 0 [zr G x0] G v none w := by
  refine zM_of (own := RX5) (by decide) rfl (Nat.le_of_ble_eq_true rfl) (fun x hl F hr hk hcs => ?_)
  subst hl
  refine z_ls [(0, zr G x0)] [0] rfl ?_
  unfold fX5_beUsual at h
  refine z_aload_n F dX5_beUsual_0 rfl 0 rfl ?_
  refine z_iconst (y := (0 : Int32)) F dX5_beUsual_1 rfl ?_
  refine zp_5_3 F t0 wF_X5_24 dX5_beUsual_2 ?_
  obtain ⟨v_1, ev_1, h⟩ := zlet_ex h
  refine z_heap ev_1 ?_
  refine z_aload_n F dX5_beUsual_5 rfl 0 rfl ?_
  refine z_bipush (y := (-7 : Int32)) F dX5_beUsual_6 rfl ?_
  obtain ⟨v_2, hq8, h⟩ := zbindv_ex h
  refine z_callVv F [.int (-7 : Int32)] [] (kX5_add x.2.1 G x0 t0 (-7 : Int32) v_1 v_2 hq8) mI_X5_add (c := 5) rfl t0 wM_X5_28 mi_X5_add sl_X5_add dX5_beUsual_8 rfl ⟨Nat.le_of_ble_eq_true rfl, Nat.le_of_ble_eq_true rfl⟩ rfl (Nat.le_of_ble_eq_true rfl) ⟨Nat.zero_le _, Nat.zero_le _⟩ ?_
  refine z_aload_n F dX5_beUsual_11 rfl 0 rfl ?_
  refine z_bipush (y := (10 : Int32)) F dX5_beUsual_12 rfl ?_
  obtain ⟨v_3, hq14, h⟩ := zbindv_ex h
  refine z_callVv F [.int (10 : Int32)] [] (kX5_add x.2.1 G x0 t0 (10 : Int32) v_2 v_3 hq14) mI_X5_add (c := 5) rfl t0 wM_X5_28 mi_X5_add sl_X5_add dX5_beUsual_14 rfl ⟨Nat.le_of_ble_eq_true rfl, Nat.le_of_ble_eq_true rfl⟩ rfl (Nat.le_of_ble_eq_true rfl) ⟨Nat.zero_le _, Nat.zero_le _⟩ ?_
  refine z_aload_n F dX5_beUsual_17 rfl 0 rfl ?_
  refine z_bipush (y := (-3 : Int32)) F dX5_beUsual_18 rfl ?_
  obtain ⟨v_4, hq20, h⟩ := zbindv_ex h
  refine z_callVv F [.int (-3 : Int32)] [] (kX5_add x.2.1 G x0 t0 (-3 : Int32) v_3 v_4 hq20) mI_X5_add (c := 5) rfl t0 wM_X5_28 mi_X5_add sl_X5_add dX5_beUsual_20 rfl ⟨Nat.le_of_ble_eq_true rfl, Nat.le_of_ble_eq_true rfl⟩ rfl (Nat.le_of_ble_eq_true rfl) ⟨Nat.zero_le _, Nat.zero_le _⟩ ?_
  refine z_aload_n F dX5_beUsual_23 rfl 0 rfl ?_
  refine z_bipush (y := (-9 : Int32)) F dX5_beUsual_24 rfl ?_
  obtain ⟨v_5, hq26, h⟩ := zbindv_ex h
  refine z_callVv F [.int (-9 : Int32)] [] (kX5_add x.2.1 G x0 t0 (-9 : Int32) v_4 v_5 hq26) mI_X5_add (c := 5) rfl t0 wM_X5_28 mi_X5_add sl_X5_add dX5_beUsual_26 rfl ⟨Nat.le_of_ble_eq_true rfl, Nat.le_of_ble_eq_true rfl⟩ rfl (Nat.le_of_ble_eq_true rfl) ⟨Nat.zero_le _, Nat.zero_le _⟩ ?_
  refine z_aload_n F dX5_beUsual_29 rfl 0 rfl ?_
  refine z_iconst (y := (-1 : Int32)) F dX5_beUsual_30 rfl ?_
  obtain ⟨v_6, hq31, h⟩ := zbindv_ex h
  refine z_callVv F [.int (-1 : Int32)] [] (kX5_add x.2.1 G x0 t0 (-1 : Int32) v_5 v_6 hq31) mI_X5_add (c := 5) rfl t0 wM_X5_28 mi_X5_add sl_X5_add dX5_beUsual_31 rfl ⟨Nat.le_of_ble_eq_true rfl, Nat.le_of_ble_eq_true rfl⟩ rfl (Nat.le_of_ble_eq_true rfl) ⟨Nat.zero_le _, Nat.zero_le _⟩ ?_
  cases h
  exact z_retv F hr hk dX5_beUsual_34

theorem dX5_copy_0 : decode cX5_copy 0 = .ok (.aload_n 0, 1) := by decide +kernel
theorem dX5_copy_1 : decode cX5_copy 1 = .ok (.aload_n 1, 1) := by decide +kernel
theorem dX5_copy_2 : decode cX5_copy 2 = .ok (.getfield 24, 3) := by decide +kernel
theorem dX5_copy_5 : decode cX5_copy 5 = .ok (.putfield 24, 3) := by decide +kernel
theorem dX5_copy_8 : decode cX5_copy 8 = .ok (.aload_n 1, 1) := by decide +kernel
theorem dX5_copy_9 : decode cX5_copy 9 = .ok (.getfield 9, 3) := by decide +kernel
theorem dX5_copy_12 : decode cX5_copy 12 = .ok (.iconst 0, 1) := by decide +kernel
theorem dX5_copy_13 : decode cX5_copy 13 = .ok (.aload_n 0, 1) := by decide +kernel
theorem dX5_copy_14 : decode cX5_copy 14 = .ok (.getfield 9, 3) := by decide +kernel
theorem dX5_copy_17 : decode cX5_copy 17 = .ok (.iconst 0, 1) := by decide +kernel
theorem dX5_copy_18 : decode cX5_copy 18 = .ok (.sipush 150, 3) := by decide +kernel
theorem dX5_copy_21 : decode cX5_copy 21 = .ok (.invokestatic 32, 3) := by decide +kernel
theorem dX5_copy_24 : decode cX5_copy 24 = .ok (.return_, 1) := by decide +kernel
def fX5_copy (x0 : Nat) (x1 : Nat) (v : zV) : Option zV :=
  zlet (zup v x0 3 (v x1 3)) fun v_1 =>
  zcpk (zrf x1 0) (zrf x0 0) (0 : Int32) (0 : Int32) (150 : Int32) <|
  zlet (zcp v_1 (zrf x1 0) (zrf x0 0) ((0 : Int32)).toNatClampNeg ((0 : Int32)).toNatClampNeg ((150 : Int32)).toNatClampNeg) fun v_2 =>
  some v_2
set_option maxRecDepth 4000 in
theorem kX5_copy (l : Launch) (G : zG) (x0 : Nat) (t0 : zty G x0 1 5) (x1 : Nat) (t1 : zty G x1 1 5) (v : zV) (w : zV) (h : fX5_copy x0 x1 v = some w) : zMet l yX5_copy cX5_copy 2 (Option.none : Option FieldType) 1 80 0 0 [zr G x0, zr G x1] G v none w := by
  refine zM_of (own := RX5) (by decide) rfl (Nat.le_of_ble_eq_true rfl) (fun x hl F hr hk hcs => ?_)
  subst hl
  refine z_ls [(0, zr G x0), (1, zr G x1)] [0, 1] rfl ?_
  unfold fX5_copy at h
  refine z_aload_n F dX5_copy_0 rfl 0 rfl ?_
  refine z_aload_n F dX5_copy_1 rfl 1 rfl ?_
  refine zg_5_3 F t1 wF_X5_24 dX5_copy_2 ?_
  refine zp_5_3 F t0 wF_X5_24 dX5_copy_5 ?_
  obtain ⟨v_1, ev_1, h⟩ := zlet_ex h
  refine z_heap ev_1 ?_
  refine z_aload_n F dX5_copy_8 rfl 1 rfl ?_
  refine zg_5_0 F t1 wF_X5_9 dX5_copy_9 ?_
  refine z_iconst (y := (0 : Int32)) F dX5_copy_12 rfl ?_
  refine z_aload_n F dX5_copy_13 rfl 0 rfl ?_
  refine zg_5_0 F t0 wF_X5_9 dX5_copy_14 ?_
  refine z_iconst (y := (0 : Int32)) F dX5_copy_17 rfl ?_
  refine z_sipush (y := (150 : Int32)) F dX5_copy_18 rfl ?_
  obtain ⟨hc21, h⟩ := zcpk_ex h
  refine z_copy F (zt_f tc_5_0 t1) (zt_f tc_5_0 t0) wM_X5_32 dX5_copy_21 hc21 (Nat.le_of_ble_eq_true rfl) (Nat.le_of_ble_eq_true rfl) (Nat.le_of_ble_eq_true rfl) ?_
  obtain ⟨v_2, ev_2, h⟩ := zlet_ex h
  refine z_heap ev_2 ?_
  cases h
  exact z_retv F hr hk dX5_copy_24

theorem dX5_readBraced_0 : decode cX5_readBraced 0 = .ok (.iload_n 2, 1) := by decide +kernel
theorem dX5_readBraced_1 : decode cX5_readBraced 1 = .ok (.bipush 6, 2) := by decide +kernel
theorem dX5_readBraced_3 : decode cX5_readBraced 3 = .ok (.if_icmp .lt 10, 3) := by decide +kernel
theorem dX5_readBraced_6 : decode cX5_readBraced 6 = .ok (.aload_n 1, 1) := by decide +kernel
theorem dX5_readBraced_7 : decode cX5_readBraced 7 = .ok (.iconst 3, 1) := by decide +kernel
theorem dX5_readBraced_8 : decode cX5_readBraced 8 = .ok (.iload_n 3, 1) := by decide +kernel
theorem dX5_readBraced_9 : decode cX5_readBraced 9 = .ok (.invokevirtual 91, 3) := by decide +kernel
theorem dX5_readBraced_12 : decode cX5_readBraced 12 = .ok (.return_, 1) := by decide +kernel
theorem dX5_readBraced_13 : decode cX5_readBraced 13 = .ok (.aload_n 0, 1) := by decide +kernel
theorem dX5_readBraced_14 : decode cX5_readBraced 14 = .ok (.aload_n 1, 1) := by decide +kernel
theorem dX5_readBraced_15 : decode cX5_readBraced 15 = .ok (.iload_n 2, 1) := by decide +kernel
theorem dX5_readBraced_16 : decode cX5_readBraced 16 = .ok (.iconst 1, 1) := by decide +kernel
theorem dX5_readBraced_17 : decode cX5_readBraced 17 = .ok (.iadd, 1) := by decide +kernel
theorem dX5_readBraced_18 : decode cX5_readBraced 18 = .ok (.invokevirtual 38, 3) := by decide +kernel
theorem dX5_readBraced_21 : decode cX5_readBraced 21 = .ok (.aload_n 1, 1) := by decide +kernel
theorem dX5_readBraced_22 : decode cX5_readBraced 22 = .ok (.bipush 41, 2) := by decide +kernel
theorem dX5_readBraced_24 : decode cX5_readBraced 24 = .ok (.invokevirtual 95, 3) := by decide +kernel
theorem dX5_readBraced_27 : decode cX5_readBraced 27 = .ok (.return_, 1) := by decide +kernel
def fX5_readBraced (RC : Nat → Nat → Int32 → zV → Option zV) (x0 : Nat) (x1 : Nat) (x2 : Int32) (x3 : Int32) (v : zV) : Option zV :=
  if x2 < (6 : Int32) then
    zbindv (RC x0 x1 (x2 + (1 : Int32)) v) fun v_1 =>
    zbindv (fX8_sign x1 (41 : Int32) v_1) fun v_2 =>
    some v_2
  else
    zbindv (fX8_fail x1 (3 : Int32) x3 v) fun v_3 =>
    some v_3
set_option maxRecDepth 4000 in
theorem kX5_readBraced (l : Launch) (G : zG) (fr0 lo0 : Nat) (RC : Nat → Nat → Int32 → zV → Option zV) (hRC : ∀ (l : Launch) (x0 : Nat) (t0 : zty G x0 1 5) (x1 : Nat) (t1 : zty G x1 1 8) (x2 : Int32) (v : zV) (w : zV), RC x0 x1 x2 v = some w → zMet l yX5_readSum cX5_readSum 4 (Option.none : Option FieldType) fr0 lo0 0 0 [zr G x0, zr G x1, .int x2] G v none w) (x0 : Nat) (t0 : zty G x0 1 5) (x1 : Nat) (t1 : zty G x1 1 8) (x2 : Int32) (x3 : Int32) (v : zV) (w : zV) (h : fX5_readBraced RC x0 x1 x2 x3 v = some w) : zMet l yX5_readBraced cX5_readBraced 4 (Option.none : Option FieldType) (fr0 + 3) (lo0 + 123) 0 0 [zr G x0, zr G x1, .int x2, .int x3] G v none w := by
  refine zM_of (own := RX5) (by decide) rfl (Nat.le_of_ble_eq_true rfl) (fun x hl F hr hk hcs => ?_)
  subst hl
  refine z_ls [(0, zr G x0), (1, zr G x1), (2, .int x2), (3, .int x3)] [0, 1, 2, 3] rfl ?_
  unfold fX5_readBraced at h
  refine z_iload_n F dX5_readBraced_0 rfl 2 rfl ?_
  refine z_bipush (y := (6 : Int32)) F dX5_readBraced_1 rfl ?_
  refine z_icmp_lt F 13 dX5_readBraced_3 rfl (fun hc => ?_) (fun hc => ?_)
  · replace h := zif_t hc h
    refine z_aload_n F dX5_readBraced_13 rfl 0 rfl ?_
    refine z_aload_n F dX5_readBraced_14 rfl 1 rfl ?_
    refine z_iload_n F dX5_readBraced_15 rfl 2 rfl ?_
    refine z_iconst (y := (1 : Int32)) F dX5_readBraced_16 rfl ?_
    refine z_iadd F dX5_readBraced_17 ?_
    obtain ⟨v_1, hq18, h⟩ := zbindv_ex h
    refine z_callVv F [zr G x1, .int (x2 + (1 : Int32))] [] (hRC x.2.1 x0 t0 x1 t1 (x2 + (1 : Int32)) v v_1 hq18) mI_X5_readSum (c := 5) rfl t0 wM_X5_38 mi_X5_readSum sl_X5_readSum dX5_readBraced_18 rfl ⟨by omega, by omega⟩ rfl (Nat.le_of_ble_eq_true rfl) ⟨Nat.zero_le _, Nat.zero_le _⟩ ?_
    refine z_aload_n F dX5_readBraced_21 rfl 1 rfl ?_
    refine z_bipush (y := (41 : Int32)) F dX5_readBraced_22 rfl ?_
    obtain ⟨v_2, hq24, h⟩ := zbindv_ex h
    refine z_callVv F [.int (41 : Int32)] [] (kX8_sign x.2.1 G x1 t1 (41 : Int32) v_1 v_2 hq24) mI_X8_sign (c := 8) rfl t1 wM_X5_95 mi_X8_sign sl_X8_sign dX5_readBraced_24 rfl ⟨by omega, by omega⟩ rfl (Nat.le_of_ble_eq_true rfl) ⟨Nat.zero_le _, Nat.zero_le _⟩ ?_
    cases h
    exact z_retv F hr hk dX5_readBraced_27
  · replace h := zif_f hc h
    refine z_aload_n F dX5_readBraced_6 rfl 1 rfl ?_
    refine z_iconst (y := (3 : Int32)) F dX5_readBraced_7 rfl ?_
    refine z_iload_n F dX5_readBraced_8 rfl 3 rfl ?_
    obtain ⟨v_3, hq9, h⟩ := zbindv_ex h
    refine z_callVv F [.int (3 : Int32), .int x3] [] (kX8_fail x.2.1 G x1 t1 (3 : Int32) x3 v v_3 hq9) mI_X8_fail (c := 8) rfl t1 wM_X5_91 mi_X8_fail sl_X8_fail dX5_readBraced_9 rfl ⟨by omega, by omega⟩ rfl (Nat.le_of_ble_eq_true rfl) ⟨Nat.zero_le _, Nat.zero_le _⟩ ?_
    cases h
    exact z_retv F hr hk dX5_readBraced_12

theorem dX5_readTwo_0 : decode cX5_readTwo 0 = .ok (.iload_n 2, 1) := by decide +kernel
theorem dX5_readTwo_1 : decode cX5_readTwo 1 = .ok (.bipush 6, 2) := by decide +kernel
theorem dX5_readTwo_3 : decode cX5_readTwo 3 = .ok (.if_icmp .lt 10, 3) := by decide +kernel
theorem dX5_readTwo_6 : decode cX5_readTwo 6 = .ok (.aload_n 1, 1) := by decide +kernel
theorem dX5_readTwo_7 : decode cX5_readTwo 7 = .ok (.iconst 3, 1) := by decide +kernel
theorem dX5_readTwo_8 : decode cX5_readTwo 8 = .ok (.iload_n 3, 1) := by decide +kernel
theorem dX5_readTwo_9 : decode cX5_readTwo 9 = .ok (.invokevirtual 91, 3) := by decide +kernel
theorem dX5_readTwo_12 : decode cX5_readTwo 12 = .ok (.return_, 1) := by decide +kernel
theorem dX5_readTwo_13 : decode cX5_readTwo 13 = .ok (.aload_n 1, 1) := by decide +kernel
theorem dX5_readTwo_14 : decode cX5_readTwo 14 = .ok (.bipush 91, 2) := by decide +kernel
theorem dX5_readTwo_16 : decode cX5_readTwo 16 = .ok (.invokevirtual 95, 3) := by decide +kernel
theorem dX5_readTwo_19 : decode cX5_readTwo 19 = .ok (.aload_n 0, 1) := by decide +kernel
theorem dX5_readTwo_20 : decode cX5_readTwo 20 = .ok (.aload_n 1, 1) := by decide +kernel
theorem dX5_readTwo_21 : decode cX5_readTwo 21 = .ok (.iload_n 2, 1) := by decide +kernel
theorem dX5_readTwo_22 : decode cX5_readTwo 22 = .ok (.iconst 1, 1) := by decide +kernel
theorem dX5_readTwo_23 : decode cX5_readTwo 23 = .ok (.iadd, 1) := by decide +kernel
theorem dX5_readTwo_24 : decode cX5_readTwo 24 = .ok (.invokevirtual 38, 3) := by decide +kernel
theorem dX5_readTwo_27 : decode cX5_readTwo 27 = .ok (.aload_n 1, 1) := by decide +kernel
theorem dX5_readTwo_28 : decode cX5_readTwo 28 = .ok (.bipush 44, 2) := by decide +kernel
theorem dX5_readTwo_30 : decode cX5_readTwo 30 = .ok (.invokevirtual 95, 3) := by decide +kernel
theorem dX5_readTwo_33 : decode cX5_readTwo 33 = .ok (.aload_n 0, 1) := by decide +kernel
theorem dX5_readTwo_34 : decode cX5_readTwo 34 = .ok (.aload_n 1, 1) := by decide +kernel
theorem dX5_readTwo_35 : decode cX5_readTwo 35 = .ok (.iload_n 2, 1) := by decide +kernel
theorem dX5_readTwo_36 : decode cX5_readTwo 36 = .ok (.iconst 1, 1) := by decide +kernel
theorem dX5_readTwo_37 : decode cX5_readTwo 37 = .ok (.iadd, 1) := by decide +kernel
theorem dX5_readTwo_38 : decode cX5_readTwo 38 = .ok (.invokevirtual 38, 3) := by decide +kernel
theorem dX5_readTwo_41 : decode cX5_readTwo 41 = .ok (.aload_n 1, 1) := by decide +kernel
theorem dX5_readTwo_42 : decode cX5_readTwo 42 = .ok (.bipush 93, 2) := by decide +kernel
theorem dX5_readTwo_44 : decode cX5_readTwo 44 = .ok (.invokevirtual 95, 3) := by decide +kernel
theorem dX5_readTwo_47 : decode cX5_readTwo 47 = .ok (.return_, 1) := by decide +kernel
def fX5_readTwo (RC : Nat → Nat → Int32 → zV → Option zV) (x0 : Nat) (x1 : Nat) (x2 : Int32) (x3 : Int32) (v : zV) : Option zV :=
  if x2 < (6 : Int32) then
    zbindv (fX8_sign x1 (91 : Int32) v) fun v_1 =>
    zbindv (RC x0 x1 (x2 + (1 : Int32)) v_1) fun v_2 =>
    zbindv (fX8_sign x1 (44 : Int32) v_2) fun v_3 =>
    zbindv (RC x0 x1 (x2 + (1 : Int32)) v_3) fun v_4 =>
    zbindv (fX8_sign x1 (93 : Int32) v_4) fun v_5 =>
    some v_5
  else
    zbindv (fX8_fail x1 (3 : Int32) x3 v) fun v_6 =>
    some v_6
set_option maxRecDepth 4000 in
theorem kX5_readTwo (l : Launch) (G : zG) (fr0 lo0 : Nat) (RC : Nat → Nat → Int32 → zV → Option zV) (hRC : ∀ (l : Launch) (x0 : Nat) (t0 : zty G x0 1 5) (x1 : Nat) (t1 : zty G x1 1 8) (x2 : Int32) (v : zV) (w : zV), RC x0 x1 x2 v = some w → zMet l yX5_readSum cX5_readSum 4 (Option.none : Option FieldType) fr0 lo0 0 0 [zr G x0, zr G x1, .int x2] G v none w) (x0 : Nat) (t0 : zty G x0 1 5) (x1 : Nat) (t1 : zty G x1 1 8) (x2 : Int32) (x3 : Int32) (v : zV) (w : zV) (h : fX5_readTwo RC x0 x1 x2 x3 v = some w) : zMet l yX5_readTwo cX5_readTwo 4 (Option.none : Option FieldType) (fr0 + 3) (lo0 + 123) 0 0 [zr G x0, zr G x1, .int x2, .int x3] G v none w := by
  refine zM_of (own := RX5) (by decide) rfl (Nat.le_of_ble_eq_true rfl) (fun x hl F hr hk hcs => ?_)
  subst hl
  refine z_ls [(0, zr G x0), (1, zr G x1), (2, .int x2), (3, .int x3)] [0, 1, 2, 3] rfl ?_
  unfold fX5_readTwo at h
  refine z_iload_n F dX5_readTwo_0 rfl 2 rfl ?_
  refine z_bipush (y := (6 : Int32)) F dX5_readTwo_1 rfl ?_
  refine z_icmp_lt F 13 dX5_readTwo_3 rfl (fun hc => ?_) (fun hc => ?_)
  · replace h := zif_t hc h
    refine z_aload_n F dX5_readTwo_13 rfl 1 rfl ?_
    refine z_bipush (y := (91 : Int32)) F dX5_readTwo_14 rfl ?_
    obtain ⟨v_1, hq16, h⟩ := zbindv_ex h
    refine z_callVv F [.int (91 : Int32)] [] (kX8_sign x.2.1 G x1 t1 (91 : Int32) v v_1 hq16) mI_X8_sign (c := 8) rfl t1 wM_X5_95 mi_X8_sign sl_X8_sign dX5_readTwo_16 rfl ⟨by omega, by omega⟩ rfl (Nat.le_of_ble_eq_true rfl) ⟨Nat.zero_le _, Nat.zero_le _⟩ ?_
    refine z_aload_n F dX5_readTwo_19 rfl 0 rfl ?_
    refine z_aload_n F dX5_readTwo_20 rfl 1 rfl ?_
    refine z_iload_n F dX5_readTwo_21 rfl 2 rfl ?_
    refine z_iconst (y := (1 : Int32)) F dX5_readTwo_22 rfl ?_
    refine z_iadd F dX5_readTwo_23 ?_
    obtain ⟨v_2, hq24, h⟩ := zbindv_ex h
    refine z_callVv F [zr G x1, .int (x2 + (1 : Int32))] [] (hRC x.2.1 x0 t0 x1 t1 (x2 + (1 : Int32)) v_1 v_2 hq24) mI_X5_readSum (c := 5) rfl t0 wM_X5_38 mi_X5_readSum sl_X5_readSum dX5_readTwo_24 rfl ⟨by omega, by omega⟩ rfl (Nat.le_of_ble_eq_true rfl) ⟨Nat.zero_le _, Nat.zero_le _⟩ ?_
    refine z_aload_n F dX5_readTwo_27 rfl 1 rfl ?_
    refine z_bipush (y := (44 : Int32)) F dX5_readTwo_28 rfl ?_
    obtain ⟨v_3, hq30, h⟩ := zbindv_ex h
    refine z_callVv F [.int (44 : Int32)] [] (kX8_sign x.2.1 G x1 t1 (44 : Int32) v_2 v_3 hq30) mI_X8_sign (c := 8) rfl t1 wM_X5_95 mi_X8_sign sl_X8_sign dX5_readTwo_30 rfl ⟨by omega, by omega⟩ rfl (Nat.le_of_ble_eq_true rfl) ⟨Nat.zero_le _, Nat.zero_le _⟩ ?_
    refine z_aload_n F dX5_readTwo_33 rfl 0 rfl ?_
    refine z_aload_n F dX5_readTwo_34 rfl 1 rfl ?_
    refine z_iload_n F dX5_readTwo_35 rfl 2 rfl ?_
    refine z_iconst (y := (1 : Int32)) F dX5_readTwo_36 rfl ?_
    refine z_iadd F dX5_readTwo_37 ?_
    obtain ⟨v_4, hq38, h⟩ := zbindv_ex h
    refine z_callVv F [zr G x1, .int (x2 + (1 : Int32))] [] (hRC x.2.1 x0 t0 x1 t1 (x2 + (1 : Int32)) v_3 v_4 hq38) mI_X5_readSum (c := 5) rfl t0 wM_X5_38 mi_X5_readSum sl_X5_readSum dX5_readTwo_38 rfl ⟨by omega, by omega⟩ rfl (Nat.le_of_ble_eq_true rfl) ⟨Nat.zero_le _, Nat.zero_le _⟩ ?_
    refine z_aload_n F dX5_readTwo_41 rfl 1 rfl ?_
    refine z_bipush (y := (93 : Int32)) F dX5_readTwo_42 rfl ?_
    obtain ⟨v_5, hq44, h⟩ := zbindv_ex h
    refine z_callVv F [.int (93 : Int32)] [] (kX8_sign x.2.1 G x1 t1 (93 : Int32) v_4 v_5 hq44) mI_X8_sign (c := 8) rfl t1 wM_X5_95 mi_X8_sign sl_X8_sign dX5_readTwo_44 rfl ⟨by omega, by omega⟩ rfl (Nat.le_of_ble_eq_true rfl) ⟨Nat.zero_le _, Nat.zero_le _⟩ ?_
    cases h
    exact z_retv F hr hk dX5_readTwo_47
  · replace h := zif_f hc h
    refine z_aload_n F dX5_readTwo_6 rfl 1 rfl ?_
    refine z_iconst (y := (3 : Int32)) F dX5_readTwo_7 rfl ?_
    refine z_iload_n F dX5_readTwo_8 rfl 3 rfl ?_
    obtain ⟨v_6, hq9, h⟩ := zbindv_ex h
    refine z_callVv F [.int (3 : Int32), .int x3] [] (kX8_fail x.2.1 G x1 t1 (3 : Int32) x3 v v_6 hq9) mI_X8_fail (c := 8) rfl t1 wM_X5_91 mi_X8_fail sl_X8_fail dX5_readTwo_9 rfl ⟨by omega, by omega⟩ rfl (Nat.le_of_ble_eq_true rfl) ⟨Nat.zero_le _, Nat.zero_le _⟩ ?_
    cases h
    exact z_retv F hr hk dX5_readTwo_12

theorem dX5_readName_0 : decode cX5_readName 0 = .ok (.aload_n 1, 1) := by decide +kernel
theorem dX5_readName_1 : decode cX5_readName 1 = .ok (.ldc 99, 2) := by decide +kernel
theorem dX5_readName_3 : decode cX5_readName 3 = .ok (.invokevirtual 78, 3) := by decide +kernel
theorem dX5_readName_6 : decode cX5_readName 6 = .ok (.ifCond .eq 12, 3) := by decide +kernel
theorem dX5_readName_9 : decode cX5_readName 9 = .ok (.aload_n 0, 1) := by decide +kernel
theorem dX5_readName_10 : decode cX5_readName 10 = .ok (.bipush (-7), 2) := by decide +kernel
theorem dX5_readName_12 : decode cX5_readName 12 = .ok (.invokevirtual 28, 3) := by decide +kernel
theorem dX5_readName_15 : decode cX5_readName 15 = .ok (.goto 115, 3) := by decide +kernel
theorem dX5_readName_18 : decode cX5_readName 18 = .ok (.aload_n 1, 1) := by decide +kernel
theorem dX5_readName_19 : decode cX5_readName 19 = .ok (.ldc 101, 2) := by decide +kernel
theorem dX5_readName_21 : decode cX5_readName 21 = .ok (.invokevirtual 78, 3) := by decide +kernel
theorem dX5_readName_24 : decode cX5_readName 24 = .ok (.ifCond .eq 12, 3) := by decide +kernel
theorem dX5_readName_27 : decode cX5_readName 27 = .ok (.aload_n 0, 1) := by decide +kernel
theorem dX5_readName_28 : decode cX5_readName 28 = .ok (.bipush (-8), 2) := by decide +kernel
theorem dX5_readName_30 : decode cX5_readName 30 = .ok (.invokevirtual 28, 3) := by decide +kernel
theorem dX5_readName_33 : decode cX5_readName 33 = .ok (.goto 97, 3) := by decide +kernel
theorem dX5_readName_36 : decode cX5_readName 36 = .ok (.aload_n 1, 1) := by decide +kernel
theorem dX5_readName_37 : decode cX5_readName 37 = .ok (.ldc 103, 2) := by decide +kernel
theorem dX5_readName_39 : decode cX5_readName 39 = .ok (.invokevirtual 78, 3) := by decide +kernel
theorem dX5_readName_42 : decode cX5_readName 42 = .ok (.ifCond .eq 12, 3) := by decide +kernel
theorem dX5_readName_45 : decode cX5_readName 45 = .ok (.aload_n 0, 1) := by decide +kernel
theorem dX5_readName_46 : decode cX5_readName 46 = .ok (.bipush (-9), 2) := by decide +kernel
theorem dX5_readName_48 : decode cX5_readName 48 = .ok (.invokevirtual 28, 3) := by decide +kernel
theorem dX5_readName_51 : decode cX5_readName 51 = .ok (.goto 79, 3) := by decide +kernel
theorem dX5_readName_54 : decode cX5_readName 54 = .ok (.aload_n 1, 1) := by decide +kernel
theorem dX5_readName_55 : decode cX5_readName 55 = .ok (.ldc 105, 2) := by decide +kernel
theorem dX5_readName_57 : decode cX5_readName 57 = .ok (.invokevirtual 78, 3) := by decide +kernel
theorem dX5_readName_60 : decode cX5_readName 60 = .ok (.ifCond .eq 12, 3) := by decide +kernel
theorem dX5_readName_63 : decode cX5_readName 63 = .ok (.aload_n 0, 1) := by decide +kernel
theorem dX5_readName_64 : decode cX5_readName 64 = .ok (.bipush (-10), 2) := by decide +kernel
theorem dX5_readName_66 : decode cX5_readName 66 = .ok (.invokevirtual 28, 3) := by decide +kernel
theorem dX5_readName_69 : decode cX5_readName 69 = .ok (.goto 61, 3) := by decide +kernel
theorem dX5_readName_72 : decode cX5_readName 72 = .ok (.aload_n 1, 1) := by decide +kernel
theorem dX5_readName_73 : decode cX5_readName 73 = .ok (.ldc 107, 2) := by decide +kernel
theorem dX5_readName_75 : decode cX5_readName 75 = .ok (.invokevirtual 78, 3) := by decide +kernel
theorem dX5_readName_78 : decode cX5_readName 78 = .ok (.ifCond .eq 12, 3) := by decide +kernel
theorem dX5_readName_81 : decode cX5_readName 81 = .ok (.aload_n 0, 1) := by decide +kernel
theorem dX5_readName_82 : decode cX5_readName 82 = .ok (.bipush (-11), 2) := by decide +kernel
theorem dX5_readName_84 : decode cX5_readName 84 = .ok (.invokevirtual 28, 3) := by decide +kernel
theorem dX5_readName_87 : decode cX5_readName 87 = .ok (.goto 43, 3) := by decide +kernel
theorem dX5_readName_90 : decode cX5_readName 90 = .ok (.aload_n 1, 1) := by decide +kernel
theorem dX5_readName_91 : decode cX5_readName 91 = .ok (.ldc 108, 2) := by decide +kernel
theorem dX5_readName_93 : decode cX5_readName 93 = .ok (.invokevirtual 78, 3) := by decide +kernel
theorem dX5_readName_96 : decode cX5_readName 96 = .ok (.ifCond .eq 12, 3) := by decide +kernel
theorem dX5_readName_99 : decode cX5_readName 99 = .ok (.aload_n 0, 1) := by decide +kernel
theorem dX5_readName_100 : decode cX5_readName 100 = .ok (.bipush (-12), 2) := by decide +kernel
theorem dX5_readName_102 : decode cX5_readName 102 = .ok (.invokevirtual 28, 3) := by decide +kernel
theorem dX5_readName_105 : decode cX5_readName 105 = .ok (.goto 25, 3) := by decide +kernel
theorem dX5_readName_108 : decode cX5_readName 108 = .ok (.aload_n 1, 1) := by decide +kernel
theorem dX5_readName_109 : decode cX5_readName 109 = .ok (.ldc 110, 2) := by decide +kernel
theorem dX5_readName_111 : decode cX5_readName 111 = .ok (.invokevirtual 78, 3) := by decide +kernel
theorem dX5_readName_114 : decode cX5_readName 114 = .ok (.ifCond .eq 12, 3) := by decide +kernel
theorem dX5_readName_117 : decode cX5_readName 117 = .ok (.aload_n 0, 1) := by decide +kernel
theorem dX5_readName_118 : decode cX5_readName 118 = .ok (.bipush (-13), 2) := by decide +kernel
theorem dX5_readName_120 : decode cX5_readName 120 = .ok (.invokevirtual 28, 3) := by decide +kernel
theorem dX5_readName_123 : decode cX5_readName 123 = .ok (.goto 7, 3) := by decide +kernel
theorem dX5_readName_126 : decode cX5_readName 126 = .ok (.aload_n 1, 1) := by decide +kernel
theorem dX5_readName_127 : decode cX5_readName 127 = .ok (.invokevirtual 48, 3) := by decide +kernel
theorem dX5_readName_130 : decode cX5_readName 130 = .ok (.return_, 1) := by decide +kernel
def fX5_readName (x0 : Nat) (x1 : Nat) (v : zV) : Option zV :=
  zbind (fX8_takesWord x1 8 v) fun r_2 v_1 =>
  if r_2 = (0 : Int32) then
    zbind (fX8_takesWord x1 9 v_1) fun r_4 v_3 =>
    if r_4 = (0 : Int32) then
      zbind (fX8_takesWord x1 10 v_3) fun r_6 v_5 =>
      if r_6 = (0 : Int32) then
        zbind (fX8_takesWord x1 11 v_5) fun r_8 v_7 =>
        if r_8 = (0 : Int32) then
          zbind (fX8_takesWord x1 12 v_7) fun r_10 v_9 =>
          if r_10 = (0 : Int32) then
            zbind (fX8_takesWord x1 13 v_9) fun r_12 v_11 =>
            if r_12 = (0 : Int32) then
              zbind (fX8_takesWord x1 14 v_11) fun r_14 v_13 =>
              if r_14 = (0 : Int32) then
                zbindv (fX8_misfit x1 v_13) fun v_15 =>
                some v_15
              else
                zbindv (fX5_add x0 (-13 : Int32) v_13) fun v_16 =>
                some v_16
            else
              zbindv (fX5_add x0 (-12 : Int32) v_11) fun v_17 =>
              some v_17
          else
            zbindv (fX5_add x0 (-11 : Int32) v_9) fun v_18 =>
            some v_18
        else
          zbindv (fX5_add x0 (-10 : Int32) v_7) fun v_19 =>
          some v_19
      else
        zbindv (fX5_add x0 (-9 : Int32) v_5) fun v_20 =>
        some v_20
    else
      zbindv (fX5_add x0 (-8 : Int32) v_3) fun v_21 =>
      some v_21
  else
    zbindv (fX5_add x0 (-7 : Int32) v_1) fun v_22 =>
    some v_22
set_option maxRecDepth 4000 in
theorem kX5_readName (l : Launch) (G : zG) (x0 : Nat) (t0 : zty G x0 1 5) (x1 : Nat) (t1 : zty G x1 1 8) (v : zV) (w : zV) (h : fX5_readName x0 x1 v = some w) : zMet l yX5_readName cX5_readName 2 (Option.none : Option FieldType) 6 224 0 0 [zr G x0, zr G x1] G v none w := by
  refine zM_of (own := RX5) (by decide) rfl (Nat.le_of_ble_eq_true rfl) (fun x hl F hr hk hcs => ?_)
  subst hl
  refine z_ls [(0, zr G x0), (1, zr G x1)] [0, 1] rfl ?_
  unfold fX5_readName at h
  refine z_aload_n F dX5_readName_0 rfl 1 rfl ?_
  refine z_ldcs F 8 rfl (by decide) kS_X5_99 dX5_readName_1 ?_
  obtain ⟨r_2, v_1, hq3, h⟩ := zbind_ex h
  refine z_callVi F [zs G 8] [] (kX8_takesWord x.2.1 G x1 t1 8 (by decide) v r_2 v_1 hq3) mI_X8_takesWord (c := 8) rfl t1 wM_X5_78 mi_X8_takesWord sl_X8_takesWord dX5_readName_3 rfl ⟨Nat.le_of_ble_eq_true rfl, Nat.le_of_ble_eq_true rfl⟩ rfl (Nat.le_of_ble_eq_true rfl) ⟨Nat.zero_le _, Nat.zero_le _⟩ ?_
  refine z_if_eq F 18 dX5_readName_6 rfl (fun hc => ?_) (fun hc => ?_)
  · replace h := zif_t hc h
    refine z_aload_n F dX5_readName_18 rfl 1 rfl ?_
    refine z_ldcs F 9 rfl (by decide) kS_X5_101 dX5_readName_19 ?_
    obtain ⟨r_4, v_3, hq21, h⟩ := zbind_ex h
    refine z_callVi F [zs G 9] [] (kX8_takesWord x.2.1 G x1 t1 9 (by decide) v_1 r_4 v_3 hq21) mI_X8_takesWord (c := 8) rfl t1 wM_X5_78 mi_X8_takesWord sl_X8_takesWord dX5_readName_21 rfl ⟨Nat.le_of_ble_eq_true rfl, Nat.le_of_ble_eq_true rfl⟩ rfl (Nat.le_of_ble_eq_true rfl) ⟨Nat.zero_le _, Nat.zero_le _⟩ ?_
    refine z_if_eq F 36 dX5_readName_24 rfl (fun hc => ?_) (fun hc => ?_)
    · replace h := zif_t hc h
      refine z_aload_n F dX5_readName_36 rfl 1 rfl ?_
      refine z_ldcs F 10 rfl (by decide) kS_X5_103 dX5_readName_37 ?_
      obtain ⟨r_6, v_5, hq39, h⟩ := zbind_ex h
      refine z_callVi F [zs G 10] [] (kX8_takesWord x.2.1 G x1 t1 10 (by decide) v_3 r_6 v_5 hq39) mI_X8_takesWord (c := 8) rfl t1 wM_X5_78 mi_X8_takesWord sl_X8_takesWord dX5_readName_39 rfl ⟨Nat.le_of_ble_eq_true rfl, Nat.le_of_ble_eq_true rfl⟩ rfl (Nat.le_of_ble_eq_true rfl) ⟨Nat.zero_le _, Nat.zero_le _⟩ ?_
      refine z_if_eq F 54 dX5_readName_42 rfl (fun hc => ?_) (fun hc => ?_)
      · replace h := zif_t hc h
        refine z_aload_n F dX5_readName_54 rfl 1 rfl ?_
        refine z_ldcs F 11 rfl (by decide) kS_X5_105 dX5_readName_55 ?_
        obtain ⟨r_8, v_7, hq57, h⟩ := zbind_ex h
        refine z_callVi F [zs G 11] [] (kX8_takesWord x.2.1 G x1 t1 11 (by decide) v_5 r_8 v_7 hq57) mI_X8_takesWord (c := 8) rfl t1 wM_X5_78 mi_X8_takesWord sl_X8_takesWord dX5_readName_57 rfl ⟨Nat.le_of_ble_eq_true rfl, Nat.le_of_ble_eq_true rfl⟩ rfl (Nat.le_of_ble_eq_true rfl) ⟨Nat.zero_le _, Nat.zero_le _⟩ ?_
        refine z_if_eq F 72 dX5_readName_60 rfl (fun hc => ?_) (fun hc => ?_)
        · replace h := zif_t hc h
          refine z_aload_n F dX5_readName_72 rfl 1 rfl ?_
          refine z_ldcs F 12 rfl (by decide) kS_X5_107 dX5_readName_73 ?_
          obtain ⟨r_10, v_9, hq75, h⟩ := zbind_ex h
          refine z_callVi F [zs G 12] [] (kX8_takesWord x.2.1 G x1 t1 12 (by decide) v_7 r_10 v_9 hq75) mI_X8_takesWord (c := 8) rfl t1 wM_X5_78 mi_X8_takesWord sl_X8_takesWord dX5_readName_75 rfl ⟨Nat.le_of_ble_eq_true rfl, Nat.le_of_ble_eq_true rfl⟩ rfl (Nat.le_of_ble_eq_true rfl) ⟨Nat.zero_le _, Nat.zero_le _⟩ ?_
          refine z_if_eq F 90 dX5_readName_78 rfl (fun hc => ?_) (fun hc => ?_)
          · replace h := zif_t hc h
            refine z_aload_n F dX5_readName_90 rfl 1 rfl ?_
            refine z_ldcs F 13 rfl (by decide) kS_X5_108 dX5_readName_91 ?_
            obtain ⟨r_12, v_11, hq93, h⟩ := zbind_ex h
            refine z_callVi F [zs G 13] [] (kX8_takesWord x.2.1 G x1 t1 13 (by decide) v_9 r_12 v_11 hq93) mI_X8_takesWord (c := 8) rfl t1 wM_X5_78 mi_X8_takesWord sl_X8_takesWord dX5_readName_93 rfl ⟨Nat.le_of_ble_eq_true rfl, Nat.le_of_ble_eq_true rfl⟩ rfl (Nat.le_of_ble_eq_true rfl) ⟨Nat.zero_le _, Nat.zero_le _⟩ ?_
            refine z_if_eq F 108 dX5_readName_96 rfl (fun hc => ?_) (fun hc => ?_)
            · replace h := zif_t hc h
              refine z_aload_n F dX5_readName_108 rfl 1 rfl ?_
              refine z_ldcs F 14 rfl (by decide) kS_X5_110 dX5_readName_109 ?_
              obtain ⟨r_14, v_13, hq111, h⟩ := zbind_ex h
              refine z_callVi F [zs G 14] [] (kX8_takesWord x.2.1 G x1 t1 14 (by decide) v_11 r_14 v_13 hq111) mI_X8_takesWord (c := 8) rfl t1 wM_X5_78 mi_X8_takesWord sl_X8_takesWord dX5_readName_111 rfl ⟨Nat.le_of_ble_eq_true rfl, Nat.le_of_ble_eq_true rfl⟩ rfl (Nat.le_of_ble_eq_true rfl) ⟨Nat.zero_le _, Nat.zero_le _⟩ ?_
              refine z_if_eq F 126 dX5_readName_114 rfl (fun hc => ?_) (fun hc => ?_)
              · replace h := zif_t hc h
                refine z_aload_n F dX5_readName_126 rfl 1 rfl ?_
                obtain ⟨v_15, hq127, h⟩ := zbindv_ex h
                refine z_callVv F [] [] (kX8_misfit x.2.1 G x1 t1 v_13 v_15 hq127) mI_X8_misfit (c := 8) rfl t1 wM_X5_48 mi_X8_misfit sl_X8_misfit dX5_readName_127 rfl ⟨Nat.le_of_ble_eq_true rfl, Nat.le_of_ble_eq_true rfl⟩ rfl (Nat.le_of_ble_eq_true rfl) ⟨Nat.zero_le _, Nat.zero_le _⟩ ?_
                cases h
                exact z_retv F hr hk dX5_readName_130
              · replace h := zif_f hc h
                refine z_aload_n F dX5_readName_117 rfl 0 rfl ?_
                refine z_bipush (y := (-13 : Int32)) F dX5_readName_118 rfl ?_
                obtain ⟨v_16, hq120, h⟩ := zbindv_ex h
                refine z_callVv F [.int (-13 : Int32)] [] (kX5_add x.2.1 G x0 t0 (-13 : Int32) v_13 v_16 hq120) mI_X5_add (c := 5) rfl t0 wM_X5_28 mi_X5_add sl_X5_add dX5_readName_120 rfl ⟨Nat.le_of_ble_eq_true rfl, Nat.le_of_ble_eq_true rfl⟩ rfl (Nat.le_of_ble_eq_true rfl) ⟨Nat.zero_le _, Nat.zero_le _⟩ ?_
                refine z_goto F 130 dX5_readName_123 rfl ?_
                cases h
                exact z_retv F hr hk dX5_readName_130
            · replace h := zif_f hc h
              refine z_aload_n F dX5_readName_99 rfl 0 rfl ?_
              refine z_bipush (y := (-12 : Int32)) F dX5_readName_100 rfl ?_
              obtain ⟨v_17, hq102, h⟩ := zbindv_ex h
              refine z_callVv F [.int (-12 : Int32)] [] (kX5_add x.2.1 G x0 t0 (-12 : Int32) v_11 v_17 hq102) mI_X5_add (c := 5) rfl t0 wM_X5_28 mi_X5_add sl_X5_add dX5_readName_102 rfl ⟨Nat.le_of_ble_eq_true rfl, Nat.le_of_ble_eq_true rfl⟩ rfl (Nat.le_of_ble_eq_true rfl) ⟨Nat.zero_le _, Nat.zero_le _⟩ ?_
              refine z_goto F 130 dX5_readName_105 rfl ?_
              cases h
              exact z_retv F hr hk dX5_readName_130
          · replace h := zif_f hc h
            refine z_aload_n F dX5_readName_81 rfl 0 rfl ?_
            refine z_bipush (y := (-11 : Int32)) F dX5_readName_82 rfl ?_
            obtain ⟨v_18, hq84, h⟩ := zbindv_ex h
            refine z_callVv F [.int (-11 : Int32)] [] (kX5_add x.2.1 G x0 t0 (-11 : Int32) v_9 v_18 hq84) mI_X5_add (c := 5) rfl t0 wM_X5_28 mi_X5_add sl_X5_add dX5_readName_84 rfl ⟨Nat.le_of_ble_eq_true rfl, Nat.le_of_ble_eq_true rfl⟩ rfl (Nat.le_of_ble_eq_true rfl) ⟨Nat.zero_le _, Nat.zero_le _⟩ ?_
            refine z_goto F 130 dX5_readName_87 rfl ?_
            cases h
            exact z_retv F hr hk dX5_readName_130
        · replace h := zif_f hc h
          refine z_aload_n F dX5_readName_63 rfl 0 rfl ?_
          refine z_bipush (y := (-10 : Int32)) F dX5_readName_64 rfl ?_
          obtain ⟨v_19, hq66, h⟩ := zbindv_ex h
          refine z_callVv F [.int (-10 : Int32)] [] (kX5_add x.2.1 G x0 t0 (-10 : Int32) v_7 v_19 hq66) mI_X5_add (c := 5) rfl t0 wM_X5_28 mi_X5_add sl_X5_add dX5_readName_66 rfl ⟨Nat.le_of_ble_eq_true rfl, Nat.le_of_ble_eq_true rfl⟩ rfl (Nat.le_of_ble_eq_true rfl) ⟨Nat.zero_le _, Nat.zero_le _⟩ ?_
          refine z_goto F 130 dX5_readName_69 rfl ?_
          cases h
          exact z_retv F hr hk dX5_readName_130
      · replace h := zif_f hc h
        refine z_aload_n F dX5_readName_45 rfl 0 rfl ?_
        refine z_bipush (y := (-9 : Int32)) F dX5_readName_46 rfl ?_
        obtain ⟨v_20, hq48, h⟩ := zbindv_ex h
        refine z_callVv F [.int (-9 : Int32)] [] (kX5_add x.2.1 G x0 t0 (-9 : Int32) v_5 v_20 hq48) mI_X5_add (c := 5) rfl t0 wM_X5_28 mi_X5_add sl_X5_add dX5_readName_48 rfl ⟨Nat.le_of_ble_eq_true rfl, Nat.le_of_ble_eq_true rfl⟩ rfl (Nat.le_of_ble_eq_true rfl) ⟨Nat.zero_le _, Nat.zero_le _⟩ ?_
        refine z_goto F 130 dX5_readName_51 rfl ?_
        cases h
        exact z_retv F hr hk dX5_readName_130
    · replace h := zif_f hc h
      refine z_aload_n F dX5_readName_27 rfl 0 rfl ?_
      refine z_bipush (y := (-8 : Int32)) F dX5_readName_28 rfl ?_
      obtain ⟨v_21, hq30, h⟩ := zbindv_ex h
      refine z_callVv F [.int (-8 : Int32)] [] (kX5_add x.2.1 G x0 t0 (-8 : Int32) v_3 v_21 hq30) mI_X5_add (c := 5) rfl t0 wM_X5_28 mi_X5_add sl_X5_add dX5_readName_30 rfl ⟨Nat.le_of_ble_eq_true rfl, Nat.le_of_ble_eq_true rfl⟩ rfl (Nat.le_of_ble_eq_true rfl) ⟨Nat.zero_le _, Nat.zero_le _⟩ ?_
      refine z_goto F 130 dX5_readName_33 rfl ?_
      cases h
      exact z_retv F hr hk dX5_readName_130
  · replace h := zif_f hc h
    refine z_aload_n F dX5_readName_9 rfl 0 rfl ?_
    refine z_bipush (y := (-7 : Int32)) F dX5_readName_10 rfl ?_
    obtain ⟨v_22, hq12, h⟩ := zbindv_ex h
    refine z_callVv F [.int (-7 : Int32)] [] (kX5_add x.2.1 G x0 t0 (-7 : Int32) v_1 v_22 hq12) mI_X5_add (c := 5) rfl t0 wM_X5_28 mi_X5_add sl_X5_add dX5_readName_12 rfl ⟨Nat.le_of_ble_eq_true rfl, Nat.le_of_ble_eq_true rfl⟩ rfl (Nat.le_of_ble_eq_true rfl) ⟨Nat.zero_le _, Nat.zero_le _⟩ ?_
    refine z_goto F 130 dX5_readName_15 rfl ?_
    cases h
    exact z_retv F hr hk dX5_readName_130

theorem dX5_readUnit_0 : decode cX5_readUnit 0 = .ok (.aload_n 1, 1) := by decide +kernel
theorem dX5_readUnit_1 : decode cX5_readUnit 1 = .ok (.invokevirtual 61, 3) := by decide +kernel
theorem dX5_readUnit_4 : decode cX5_readUnit 4 = .ok (.istore_n 3, 1) := by decide +kernel
theorem dX5_readUnit_5 : decode cX5_readUnit 5 = .ok (.aload_n 1, 1) := by decide +kernel
theorem dX5_readUnit_6 : decode cX5_readUnit 6 = .ok (.invokevirtual 64, 3) := by decide +kernel
theorem dX5_readUnit_9 : decode cX5_readUnit 9 = .ok (.ifCond .eq 18, 3) := by decide +kernel
theorem dX5_readUnit_12 : decode cX5_readUnit 12 = .ok (.aload_n 0, 1) := by decide +kernel
theorem dX5_readUnit_13 : decode cX5_readUnit 13 = .ok (.aload_n 1, 1) := by decide +kernel
theorem dX5_readUnit_14 : decode cX5_readUnit 14 = .ok (.iconst 0, 1) := by decide +kernel
theorem dX5_readUnit_15 : decode cX5_readUnit 15 = .ok (.sipush 999, 3) := by decide +kernel
theorem dX5_readUnit_18 : decode cX5_readUnit 18 = .ok (.invokevirtual 68, 3) := by decide +kernel
theorem dX5_readUnit_21 : decode cX5_readUnit 21 = .ok (.invokevirtual 28, 3) := by decide +kernel
theorem dX5_readUnit_24 : decode cX5_readUnit 24 = .ok (.goto 77, 3) := by decide +kernel
theorem dX5_readUnit_27 : decode cX5_readUnit 27 = .ok (.aload_n 1, 1) := by decide +kernel
theorem dX5_readUnit_28 : decode cX5_readUnit 28 = .ok (.bipush 40, 2) := by decide +kernel
theorem dX5_readUnit_30 : decode cX5_readUnit 30 = .ok (.invokevirtual 54, 3) := by decide +kernel
theorem dX5_readUnit_33 : decode cX5_readUnit 33 = .ok (.ifCond .eq 13, 3) := by decide +kernel
theorem dX5_readUnit_36 : decode cX5_readUnit 36 = .ok (.aload_n 0, 1) := by decide +kernel
theorem dX5_readUnit_37 : decode cX5_readUnit 37 = .ok (.aload_n 1, 1) := by decide +kernel
theorem dX5_readUnit_38 : decode cX5_readUnit 38 = .ok (.iload_n 2, 1) := by decide +kernel
theorem dX5_readUnit_39 : decode cX5_readUnit 39 = .ok (.iload_n 3, 1) := by decide +kernel
theorem dX5_readUnit_40 : decode cX5_readUnit 40 = .ok (.invokevirtual 72, 3) := by decide +kernel
theorem dX5_readUnit_43 : decode cX5_readUnit 43 = .ok (.goto 58, 3) := by decide +kernel
theorem dX5_readUnit_46 : decode cX5_readUnit 46 = .ok (.aload_n 1, 1) := by decide +kernel
theorem dX5_readUnit_47 : decode cX5_readUnit 47 = .ok (.ldc 76, 2) := by decide +kernel
theorem dX5_readUnit_49 : decode cX5_readUnit 49 = .ok (.invokevirtual 78, 3) := by decide +kernel
theorem dX5_readUnit_52 : decode cX5_readUnit 52 = .ok (.ifCond .eq 19, 3) := by decide +kernel
theorem dX5_readUnit_55 : decode cX5_readUnit 55 = .ok (.aload_n 0, 1) := by decide +kernel
theorem dX5_readUnit_56 : decode cX5_readUnit 56 = .ok (.aload_n 1, 1) := by decide +kernel
theorem dX5_readUnit_57 : decode cX5_readUnit 57 = .ok (.iload_n 2, 1) := by decide +kernel
theorem dX5_readUnit_58 : decode cX5_readUnit 58 = .ok (.iload_n 3, 1) := by decide +kernel
theorem dX5_readUnit_59 : decode cX5_readUnit 59 = .ok (.invokevirtual 82, 3) := by decide +kernel
theorem dX5_readUnit_62 : decode cX5_readUnit 62 = .ok (.aload_n 0, 1) := by decide +kernel
theorem dX5_readUnit_63 : decode cX5_readUnit 63 = .ok (.bipush (-5), 2) := by decide +kernel
theorem dX5_readUnit_65 : decode cX5_readUnit 65 = .ok (.invokevirtual 28, 3) := by decide +kernel
theorem dX5_readUnit_68 : decode cX5_readUnit 68 = .ok (.goto 33, 3) := by decide +kernel
theorem dX5_readUnit_71 : decode cX5_readUnit 71 = .ok (.aload_n 1, 1) := by decide +kernel
theorem dX5_readUnit_72 : decode cX5_readUnit 72 = .ok (.ldc 85, 2) := by decide +kernel
theorem dX5_readUnit_74 : decode cX5_readUnit 74 = .ok (.invokevirtual 78, 3) := by decide +kernel
theorem dX5_readUnit_77 : decode cX5_readUnit 77 = .ok (.ifCond .eq 19, 3) := by decide +kernel
theorem dX5_readUnit_80 : decode cX5_readUnit 80 = .ok (.aload_n 0, 1) := by decide +kernel
theorem dX5_readUnit_81 : decode cX5_readUnit 81 = .ok (.aload_n 1, 1) := by decide +kernel
theorem dX5_readUnit_82 : decode cX5_readUnit 82 = .ok (.iload_n 2, 1) := by decide +kernel
theorem dX5_readUnit_83 : decode cX5_readUnit 83 = .ok (.iload_n 3, 1) := by decide +kernel
theorem dX5_readUnit_84 : decode cX5_readUnit 84 = .ok (.invokevirtual 82, 3) := by decide +kernel
theorem dX5_readUnit_87 : decode cX5_readUnit 87 = .ok (.aload_n 0, 1) := by decide +kernel
theorem dX5_readUnit_88 : decode cX5_readUnit 88 = .ok (.bipush (-6), 2) := by decide +kernel
theorem dX5_readUnit_90 : decode cX5_readUnit 90 = .ok (.invokevirtual 28, 3) := by decide +kernel
theorem dX5_readUnit_93 : decode cX5_readUnit 93 = .ok (.goto 8, 3) := by decide +kernel
theorem dX5_readUnit_96 : decode cX5_readUnit 96 = .ok (.aload_n 0, 1) := by decide +kernel
theorem dX5_readUnit_97 : decode cX5_readUnit 97 = .ok (.aload_n 1, 1) := by decide +kernel
theorem dX5_readUnit_98 : decode cX5_readUnit 98 = .ok (.invokevirtual 87, 3) := by decide +kernel
theorem dX5_readUnit_101 : decode cX5_readUnit 101 = .ok (.return_, 1) := by decide +kernel
def fX5_readUnit (RC : Nat → Nat → Int32 → zV → Option zV) (x0 : Nat) (x1 : Nat) (x2 : Int32) (v : zV) : Option zV :=
  zbind (fX8_lookAt x1 v) fun r_2 v_1 =>
  zbind (fX8_looksAtDigit x1 v_1) fun r_4 v_3 =>
  if r_4 = (0 : Int32) then
    zbind (fX8_takesSign x1 (40 : Int32) v_3) fun r_6 v_5 =>
    if r_6 = (0 : Int32) then
      zbind (fX8_takesWord x1 6 v_5) fun r_8 v_7 =>
      if r_8 = (0 : Int32) then
        zbind (fX8_takesWord x1 7 v_7) fun r_10 v_9 =>
        if r_10 = (0 : Int32) then
          zbindv (fX5_readName x0 x1 v_9) fun v_11 =>
          some v_11
        else
          zbindv (fX5_readTwo RC x0 x1 x2 r_2 v_9) fun v_12 =>
          zbindv (fX5_add x0 (-6 : Int32) v_12) fun v_13 =>
          some v_13
      else
        zbindv (fX5_readTwo RC x0 x1 x2 r_2 v_7) fun v_14 =>
        zbindv (fX5_add x0 (-5 : Int32) v_14) fun v_15 =>
        some v_15
    else
      zbindv (fX5_readBraced RC x0 x1 x2 r_2 v_5) fun v_16 =>
      some v_16
  else
    zbind (fX8_number x1 (0 : Int32) (999 : Int32) v_3) fun r_18 v_17 =>
    zbindv (fX5_add x0 r_18 v_17) fun v_19 =>
    some v_19
set_option maxRecDepth 4000 in
theorem kX5_readUnit (l : Launch) (G : zG) (fr0 lo0 : Nat) (RC : Nat → Nat → Int32 → zV → Option zV) (hRC : ∀ (l : Launch) (x0 : Nat) (t0 : zty G x0 1 5) (x1 : Nat) (t1 : zty G x1 1 8) (x2 : Int32) (v : zV) (w : zV), RC x0 x1 x2 v = some w → zMet l yX5_readSum cX5_readSum 4 (Option.none : Option FieldType) fr0 lo0 0 0 [zr G x0, zr G x1, .int x2] G v none w) (x0 : Nat) (t0 : zty G x0 1 5) (x1 : Nat) (t1 : zty G x1 1 8) (x2 : Int32) (v : zV) (w : zV) (h : fX5_readUnit RC x0 x1 x2 v = some w) : zMet l yX5_readUnit cX5_readUnit 4 (Option.none : Option FieldType) (fr0 + 7) (lo0 + 245) 0 0 [zr G x0, zr G x1, .int x2] G v none w := by
  refine zM_of (own := RX5) (by decide) rfl (Nat.le_of_ble_eq_true rfl) (fun x hl F hr hk hcs => ?_)
  subst hl
  refine z_ls [(0, zr G x0), (1, zr G x1), (2, .int x2)] [0, 1, 2] rfl ?_
  unfold fX5_readUnit at h
  refine z_aload_n F dX5_readUnit_0 rfl 1 rfl ?_
  obtain ⟨r_2, v_1, hq1, h⟩ := zbind_ex h
  refine z_callVi F [] [] (kX8_lookAt x.2.1 G x1 t1 v r_2 v_1 hq1) mI_X8_lookAt (c := 8) rfl t1 wM_X5_61 mi_X8_lookAt sl_X8_lookAt dX5_readUnit_1 rfl ⟨by omega, by omega⟩ rfl (Nat.le_of_ble_eq_true rfl) ⟨Nat.zero_le _, Nat.zero_le _⟩ ?_
  refine z_istore_n F [(3, .int r_2), (0, zr G x0), (1, zr G x1), (2, .int x2)] dX5_readUnit_4 rfl (Nat.le_of_ble_eq_true rfl) rfl ?_
  refine z_aload_n F dX5_readUnit_5 rfl 2 rfl ?_
  obtain ⟨r_4, v_3, hq6, h⟩ := zbind_ex h
  refine z_callVi F [] [] (kX8_looksAtDigit x.2.1 G x1 t1 v_1 r_4 v_3 hq6) mI_X8_looksAtDigit (c := 8) rfl t1 wM_X5_64 mi_X8_looksAtDigit sl_X8_looksAtDigit dX5_readUnit_6 rfl ⟨by omega, by omega⟩ rfl (Nat.le_of_ble_eq_true rfl) ⟨Nat.zero_le _, Nat.zero_le _⟩ ?_
  refine z_if_eq F 27 dX5_readUnit_9 rfl (fun hc => ?_) (fun hc => ?_)
  · replace h := zif_t hc h
    refine z_aload_n F dX5_readUnit_27 rfl 2 rfl ?_
    refine z_bipush (y := (40 : Int32)) F dX5_readUnit_28 rfl ?_
    obtain ⟨r_6, v_5, hq30, h⟩ := zbind_ex h
    refine z_callVi F [.int (40 : Int32)] [] (kX8_takesSign x.2.1 G x1 t1 (40 : Int32) v_3 r_6 v_5 hq30) mI_X8_takesSign (c := 8) rfl t1 wM_X5_54 mi_X8_takesSign sl_X8_takesSign dX5_readUnit_30 rfl ⟨by omega, by omega⟩ rfl (Nat.le_of_ble_eq_true rfl) ⟨Nat.zero_le _, Nat.zero_le _⟩ ?_
    refine z_if_eq F 46 dX5_readUnit_33 rfl (fun hc => ?_) (fun hc => ?_)
    · replace h := zif_t hc h
      refine z_aload_n F dX5_readUnit_46 rfl 2 rfl ?_
      refine z_ldcs F 6 rfl (by decide) kS_X5_76 dX5_readUnit_47 ?_
      obtain ⟨r_8, v_7, hq49, h⟩ := zbind_ex h
      refine z_callVi F [zs G 6] [] (kX8_takesWord x.2.1 G x1 t1 6 (by decide) v_5 r_8 v_7 hq49) mI_X8_takesWord (c := 8) rfl t1 wM_X5_78 mi_X8_takesWord sl_X8_takesWord dX5_readUnit_49 rfl ⟨by omega, by omega⟩ rfl (Nat.le_of_ble_eq_true rfl) ⟨Nat.zero_le _, Nat.zero_le _⟩ ?_
      refine z_if_eq F 71 dX5_readUnit_52 rfl (fun hc => ?_) (fun hc => ?_)
      · replace h := zif_t hc h
        refine z_aload_n F dX5_readUnit_71 rfl 2 rfl ?_
        refine z_ldcs F 7 rfl (by decide) kS_X5_85 dX5_readUnit_72 ?_
        obtain ⟨r_10, v_9, hq74, h⟩ := zbind_ex h
        refine z_callVi F [zs G 7] [] (kX8_takesWord x.2.1 G x1 t1 7 (by decide) v_7 r_10 v_9 hq74) mI_X8_takesWord (c := 8) rfl t1 wM_X5_78 mi_X8_takesWord sl_X8_takesWord dX5_readUnit_74 rfl ⟨by omega, by omega⟩ rfl (Nat.le_of_ble_eq_true rfl) ⟨Nat.zero_le _, Nat.zero_le _⟩ ?_
        refine z_if_eq F 96 dX5_readUnit_77 rfl (fun hc => ?_) (fun hc => ?_)
        · replace h := zif_t hc h
          refine z_aload_n F dX5_readUnit_96 rfl 1 rfl ?_
          refine z_aload_n F dX5_readUnit_97 rfl 2 rfl ?_
          obtain ⟨v_11, hq98, h⟩ := zbindv_ex h
          refine z_callVv F [zr G x1] [] (kX5_readName x.2.1 G x0 t0 x1 t1 v_9 v_11 hq98) mI_X5_readName (c := 5) rfl t0 wM_X5_87 mi_X5_readName sl_X5_readName dX5_readUnit_98 rfl ⟨by omega, by omega⟩ rfl (Nat.le_of_ble_eq_true rfl) ⟨Nat.zero_le _, Nat.zero_le _⟩ ?_
          cases h
          exact z_retv F hr hk dX5_readUnit_101
        · replace h := zif_f hc h
          refine z_aload_n F dX5_readUnit_80 rfl 1 rfl ?_
          refine z_aload_n F dX5_readUnit_81 rfl 2 rfl ?_
          refine z_iload_n F dX5_readUnit_82 rfl 3 rfl ?_
          refine z_iload_n F dX5_readUnit_83 rfl 0 rfl ?_
          obtain ⟨v_12, hq84, h⟩ := zbindv_ex h
          refine z_callVv F [zr G x1, .int x2, .int r_2] [] (kX5_readTwo x.2.1 G fr0 lo0 RC hRC x0 t0 x1 t1 x2 r_2 v_9 v_12 hq84) mI_X5_readTwo (c := 5) rfl t0 wM_X5_82 mi_X5_readTwo sl_X5_readTwo dX5_readUnit_84 rfl ⟨by omega, by omega⟩ rfl (Nat.le_of_ble_eq_true rfl) ⟨Nat.zero_le _, Nat.zero_le _⟩ ?_
          refine z_aload_n F dX5_readUnit_87 rfl 1 rfl ?_
          refine z_bipush (y := (-6 : Int32)) F dX5_readUnit_88 rfl ?_
          obtain ⟨v_13, hq90, h⟩ := zbindv_ex h
          refine z_callVv F [.int (-6 : Int32)] [] (kX5_add x.2.1 G x0 t0 (-6 : Int32) v_12 v_13 hq90) mI_X5_add (c := 5) rfl t0 wM_X5_28 mi_X5_add sl_X5_add dX5_readUnit_90 rfl ⟨by omega, by omega⟩ rfl (Nat.le_of_ble_eq_true rfl) ⟨Nat.zero_le _, Nat.zero_le _⟩ ?_
          refine z_goto F 101 dX5_readUnit_93 rfl ?_
          cases h
          exact z_retv F hr hk dX5_readUnit_101
      · replace h := zif_f hc h
        refine z_aload_n F dX5_readUnit_55 rfl 1 rfl ?_
        refine z_aload_n F dX5_readUnit_56 rfl 2 rfl ?_
        refine z_iload_n F dX5_readUnit_57 rfl 3 rfl ?_
        refine z_iload_n F dX5_readUnit_58 rfl 0 rfl ?_
        obtain ⟨v_14, hq59, h⟩ := zbindv_ex h
        refine z_callVv F [zr G x1, .int x2, .int r_2] [] (kX5_readTwo x.2.1 G fr0 lo0 RC hRC x0 t0 x1 t1 x2 r_2 v_7 v_14 hq59) mI_X5_readTwo (c := 5) rfl t0 wM_X5_82 mi_X5_readTwo sl_X5_readTwo dX5_readUnit_59 rfl ⟨by omega, by omega⟩ rfl (Nat.le_of_ble_eq_true rfl) ⟨Nat.zero_le _, Nat.zero_le _⟩ ?_
        refine z_aload_n F dX5_readUnit_62 rfl 1 rfl ?_
        refine z_bipush (y := (-5 : Int32)) F dX5_readUnit_63 rfl ?_
        obtain ⟨v_15, hq65, h⟩ := zbindv_ex h
        refine z_callVv F [.int (-5 : Int32)] [] (kX5_add x.2.1 G x0 t0 (-5 : Int32) v_14 v_15 hq65) mI_X5_add (c := 5) rfl t0 wM_X5_28 mi_X5_add sl_X5_add dX5_readUnit_65 rfl ⟨by omega, by omega⟩ rfl (Nat.le_of_ble_eq_true rfl) ⟨Nat.zero_le _, Nat.zero_le _⟩ ?_
        refine z_goto F 101 dX5_readUnit_68 rfl ?_
        cases h
        exact z_retv F hr hk dX5_readUnit_101
    · replace h := zif_f hc h
      refine z_aload_n F dX5_readUnit_36 rfl 1 rfl ?_
      refine z_aload_n F dX5_readUnit_37 rfl 2 rfl ?_
      refine z_iload_n F dX5_readUnit_38 rfl 3 rfl ?_
      refine z_iload_n F dX5_readUnit_39 rfl 0 rfl ?_
      obtain ⟨v_16, hq40, h⟩ := zbindv_ex h
      refine z_callVv F [zr G x1, .int x2, .int r_2] [] (kX5_readBraced x.2.1 G fr0 lo0 RC hRC x0 t0 x1 t1 x2 r_2 v_5 v_16 hq40) mI_X5_readBraced (c := 5) rfl t0 wM_X5_72 mi_X5_readBraced sl_X5_readBraced dX5_readUnit_40 rfl ⟨by omega, by omega⟩ rfl (Nat.le_of_ble_eq_true rfl) ⟨Nat.zero_le _, Nat.zero_le _⟩ ?_
      refine z_goto F 101 dX5_readUnit_43 rfl ?_
      cases h
      exact z_retv F hr hk dX5_readUnit_101
  · replace h := zif_f hc h
    refine z_aload_n F dX5_readUnit_12 rfl 1 rfl ?_
    refine z_aload_n F dX5_readUnit_13 rfl 2 rfl ?_
    refine z_iconst (y := (0 : Int32)) F dX5_readUnit_14 rfl ?_
    refine z_sipush (y := (999 : Int32)) F dX5_readUnit_15 rfl ?_
    obtain ⟨r_18, v_17, hq18, h⟩ := zbind_ex h
    refine z_callVi F [.int (0 : Int32), .int (999 : Int32)] [zr G x0] (kX8_number x.2.1 G x1 t1 (0 : Int32) (999 : Int32) v_3 r_18 v_17 hq18) mI_X8_number (c := 8) rfl t1 wM_X5_68 mi_X8_number sl_X8_number dX5_readUnit_18 rfl ⟨by omega, by omega⟩ rfl (Nat.le_of_ble_eq_true rfl) ⟨Nat.zero_le _, Nat.zero_le _⟩ ?_
    obtain ⟨v_19, hq21, h⟩ := zbindv_ex h
    refine z_callVv F [.int r_18] [] (kX5_add x.2.1 G x0 t0 r_18 v_17 v_19 hq21) mI_X5_add (c := 5) rfl t0 wM_X5_28 mi_X5_add sl_X5_add dX5_readUnit_21 rfl ⟨by omega, by omega⟩ rfl (Nat.le_of_ble_eq_true rfl) ⟨Nat.zero_le _, Nat.zero_le _⟩ ?_
    refine z_goto F 101 dX5_readUnit_24 rfl ?_
    cases h
    exact z_retv F hr hk dX5_readUnit_101

theorem dX5_readProduct_0 : decode cX5_readProduct 0 = .ok (.aload_n 0, 1) := by decide +kernel
theorem dX5_readProduct_1 : decode cX5_readProduct 1 = .ok (.aload_n 1, 1) := by decide +kernel
theorem dX5_readProduct_2 : decode cX5_readProduct 2 = .ok (.iload_n 2, 1) := by decide +kernel
theorem dX5_readProduct_3 : decode cX5_readProduct 3 = .ok (.invokevirtual 58, 3) := by decide +kernel
theorem dX5_readProduct_6 : decode cX5_readProduct 6 = .ok (.iconst 0, 1) := by decide +kernel
theorem dX5_readProduct_7 : decode cX5_readProduct 7 = .ok (.istore_n 3, 1) := by decide +kernel
theorem dX5_readProduct_8 : decode cX5_readProduct 8 = .ok (.iload_n 3, 1) := by decide +kernel
theorem dX5_readProduct_9 : decode cX5_readProduct 9 = .ok (.sipush 150, 3) := by decide +kernel
theorem dX5_readProduct_12 : decode cX5_readProduct 12 = .ok (.if_icmp .ge 58, 3) := by decide +kernel
theorem dX5_readProduct_15 : decode cX5_readProduct 15 = .ok (.aload_n 1, 1) := by decide +kernel
theorem dX5_readProduct_16 : decode cX5_readProduct 16 = .ok (.bipush 42, 2) := by decide +kernel
theorem dX5_readProduct_18 : decode cX5_readProduct 18 = .ok (.invokevirtual 54, 3) := by decide +kernel
theorem dX5_readProduct_21 : decode cX5_readProduct 21 = .ok (.ifCond .eq 18, 3) := by decide +kernel
theorem dX5_readProduct_24 : decode cX5_readProduct 24 = .ok (.aload_n 0, 1) := by decide +kernel
theorem dX5_readProduct_25 : decode cX5_readProduct 25 = .ok (.aload_n 1, 1) := by decide +kernel
theorem dX5_readProduct_26 : decode cX5_readProduct 26 = .ok (.iload_n 2, 1) := by decide +kernel
theorem dX5_readProduct_27 : decode cX5_readProduct 27 = .ok (.invokevirtual 58, 3) := by decide +kernel
theorem dX5_readProduct_30 : decode cX5_readProduct 30 = .ok (.aload_n 0, 1) := by decide +kernel
theorem dX5_readProduct_31 : decode cX5_readProduct 31 = .ok (.bipush (-3), 2) := by decide +kernel
theorem dX5_readProduct_33 : decode cX5_readProduct 33 = .ok (.invokevirtual 28, 3) := by decide +kernel
theorem dX5_readProduct_36 : decode cX5_readProduct 36 = .ok (.goto 28, 3) := by decide +kernel
theorem dX5_readProduct_39 : decode cX5_readProduct 39 = .ok (.aload_n 1, 1) := by decide +kernel
theorem dX5_readProduct_40 : decode cX5_readProduct 40 = .ok (.bipush 47, 2) := by decide +kernel
theorem dX5_readProduct_42 : decode cX5_readProduct 42 = .ok (.invokevirtual 54, 3) := by decide +kernel
theorem dX5_readProduct_45 : decode cX5_readProduct 45 = .ok (.ifCond .eq 18, 3) := by decide +kernel
theorem dX5_readProduct_48 : decode cX5_readProduct 48 = .ok (.aload_n 0, 1) := by decide +kernel
theorem dX5_readProduct_49 : decode cX5_readProduct 49 = .ok (.aload_n 1, 1) := by decide +kernel
theorem dX5_readProduct_50 : decode cX5_readProduct 50 = .ok (.iload_n 2, 1) := by decide +kernel
theorem dX5_readProduct_51 : decode cX5_readProduct 51 = .ok (.invokevirtual 58, 3) := by decide +kernel
theorem dX5_readProduct_54 : decode cX5_readProduct 54 = .ok (.aload_n 0, 1) := by decide +kernel
theorem dX5_readProduct_55 : decode cX5_readProduct 55 = .ok (.bipush (-4), 2) := by decide +kernel
theorem dX5_readProduct_57 : decode cX5_readProduct 57 = .ok (.invokevirtual 28, 3) := by decide +kernel
theorem dX5_readProduct_60 : decode cX5_readProduct 60 = .ok (.goto 4, 3) := by decide +kernel
theorem dX5_readProduct_63 : decode cX5_readProduct 63 = .ok (.return_, 1) := by decide +kernel
theorem dX5_readProduct_64 : decode cX5_readProduct 64 = .ok (.iinc 3 1, 3) := by decide +kernel
theorem dX5_readProduct_67 : decode cX5_readProduct 67 = .ok (.goto (-59), 3) := by decide +kernel
theorem dX5_readProduct_70 : decode cX5_readProduct 70 = .ok (.return_, 1) := by decide +kernel
def fX5_readProduct_8 (RC : Nat → Nat → Int32 → zV → Option zV)  : Nat → Nat → Nat → Int32 → Int32 → zV → Option zV
  | 0 => fun _ _ _ _ _ => none
  | n + 1 => fun x0 x1 x2 x3 v =>
    if (150 : Int32) ≤ x3 then
      some v
    else
      zbind (fX8_takesSign x1 (42 : Int32) v) fun r_2 v_1 =>
      if r_2 = (0 : Int32) then
        zbind (fX8_takesSign x1 (47 : Int32) v_1) fun r_4 v_3 =>
        if r_4 = (0 : Int32) then
          some v_3
        else
          zbindv (fX5_readUnit RC x0 x1 x2 v_3) fun v_5 =>
          zbindv (fX5_add x0 (-4 : Int32) v_5) fun v_6 =>
          (fX5_readProduct_8 RC n) x0 x1 x2 (x3 + (1 : Int32)) v_6
      else
        zbindv (fX5_readUnit RC x0 x1 x2 v_1) fun v_7 =>
        zbindv (fX5_add x0 (-3 : Int32) v_7) fun v_8 =>
        (fX5_readProduct_8 RC n) x0 x1 x2 (x3 + (1 : Int32)) v_8
set_option maxRecDepth 4000 in
theorem jX5_readProduct_8 (x : zCx) (G : zG) (fr0 lo0 : Nat) (RC : Nat → Nat → Int32 → zV → Option zV) (hRC : ∀ (l : Launch) (x0 : Nat) (t0 : zty G x0 1 5) (x1 : Nat) (t1 : zty G x1 1 8) (x2 : Int32) (v : zV) (w : zV), RC x0 x1 x2 v = some w → zMet l yX5_readSum cX5_readSum 4 (Option.none : Option FieldType) fr0 lo0 0 0 [zr G x0, zr G x1, .int x2] G v none w) (F : zF x G cX5_readProduct 4 RX5 (fr0 + 8) (lo0 + 268)) (hr : x.2.2.2.2.2.2.2.2.1.sig.returnType = (Option.none : Option FieldType)) (hk : x.2.2.2.2.2.2.2.2.1.locks = false) (w : zV)  : ∀ (n : Nat) (x0 : Nat) (t0 : zty G x0 1 5) (x1 : Nat) (t1 : zty G x1 1 8) (x2 : Int32) (x3 : Int32) (v : zV), fX5_readProduct_8 RC n x0 x1 x2 x3 v = some w → zJ x G 4 (zQ x G none w 0 0) 0 0 8 [(0, zr G x0), (1, zr G x1), (2, .int x2), (3, .int x3)] [] v := by
  intro n
  induction n with
  | zero => intro x0 t0 x1 t1 x2 x3 v h; exact absurd h (by intro q; cases q)
  | succ n ih =>
    intro x0 t0 x1 t1 x2 x3 v h
    rw [fX5_readProduct_8] at h
    dsimp only at h
    refine z_iload_n F dX5_readProduct_8 rfl 3 rfl ?_
    refine z_sipush (y := (150 : Int32)) F dX5_readProduct_9 rfl ?_
    refine z_icmp_ge F 70 dX5_readProduct_12 rfl (fun hc => ?_) (fun hc => ?_)
    · replace h := zif_t hc h
      cases h
      exact z_retv F hr hk dX5_readProduct_70
    · replace h := zif_f hc h
      refine z_aload_n F dX5_readProduct_15 rfl 1 rfl ?_
      refine z_bipush (y := (42 : Int32)) F dX5_readProduct_16 rfl ?_
      obtain ⟨r_2, v_1, hq18, h⟩ := zbind_ex h
      refine z_callVi F [.int (42 : Int32)] [] (kX8_takesSign x.2.1 G x1 t1 (42 : Int32) v r_2 v_1 hq18) mI_X8_takesSign (c := 8) rfl t1 wM_X5_54 mi_X8_takesSign sl_X8_takesSign dX5_readProduct_18 rfl ⟨by omega, by omega⟩ rfl (Nat.le_of_ble_eq_true rfl) ⟨Nat.zero_le _, Nat.zero_le _⟩ ?_
      refine z_if_eq F 39 dX5_readProduct_21 rfl (fun hc => ?_) (fun hc => ?_)
      · replace h := zif_t hc h
        refine z_aload_n F dX5_readProduct_39 rfl 1 rfl ?_
        refine z_bipush (y := (47 : Int32)) F dX5_readProduct_40 rfl ?_
        obtain ⟨r_4, v_3, hq42, h⟩ := zbind_ex h
        refine z_callVi F [.int (47 : Int32)] [] (kX8_takesSign x.2.1 G x1 t1 (47 : Int32) v_1 r_4 v_3 hq42) mI_X8_takesSign (c := 8) rfl t1 wM_X5_54 mi_X8_takesSign sl_X8_takesSign dX5_readProduct_42 rfl ⟨by omega, by omega⟩ rfl (Nat.le_of_ble_eq_true rfl) ⟨Nat.zero_le _, Nat.zero_le _⟩ ?_
        refine z_if_eq F 63 dX5_readProduct_45 rfl (fun hc => ?_) (fun hc => ?_)
        · replace h := zif_t hc h
          cases h
          exact z_retv F hr hk dX5_readProduct_63
        · replace h := zif_f hc h
          refine z_aload_n F dX5_readProduct_48 rfl 0 rfl ?_
          refine z_aload_n F dX5_readProduct_49 rfl 1 rfl ?_
          refine z_iload_n F dX5_readProduct_50 rfl 2 rfl ?_
          obtain ⟨v_5, hq51, h⟩ := zbindv_ex h
          refine z_callVv F [zr G x1, .int x2] [] (kX5_readUnit x.2.1 G fr0 lo0 RC hRC x0 t0 x1 t1 x2 v_3 v_5 hq51) mI_X5_readUnit (c := 5) rfl t0 wM_X5_58 mi_X5_readUnit sl_X5_readUnit dX5_readProduct_51 rfl ⟨by omega, by omega⟩ rfl (Nat.le_of_ble_eq_true rfl) ⟨Nat.zero_le _, Nat.zero_le _⟩ ?_
          refine z_aload_n F dX5_readProduct_54 rfl 0 rfl ?_
          refine z_bipush (y := (-4 : Int32)) F dX5_readProduct_55 rfl ?_
          obtain ⟨v_6, hq57, h⟩ := zbindv_ex h
          refine z_callVv F [.int (-4 : Int32)] [] (kX5_add x.2.1 G x0 t0 (-4 : Int32) v_5 v_6 hq57) mI_X5_add (c := 5) rfl t0 wM_X5_28 mi_X5_add sl_X5_add dX5_readProduct_57 rfl ⟨by omega, by omega⟩ rfl (Nat.le_of_ble_eq_true rfl) ⟨Nat.zero_le _, Nat.zero_le _⟩ ?_
          refine z_goto F 64 dX5_readProduct_60 rfl ?_
          refine z_iinc F [(3, .int (x3 + (1 : Int32))), (0, zr G x0), (1, zr G x1), (2, .int x2)] dX5_readProduct_64 3 rfl rfl (Nat.le_of_ble_eq_true rfl) rfl ?_
          refine z_goto F 8 dX5_readProduct_67 rfl ?_
          refine z_ls [(0, zr G x0), (1, zr G x1), (2, .int x2), (3, .int (x3 + (1 : Int32)))] [1, 2, 3, 0] rfl ?_
          exact ih x0 t0 x1 t1 x2 (x3 + (1 : Int32)) v_6 h
      · replace h := zif_f hc h
        refine z_aload_n F dX5_readProduct_24 rfl 0 rfl ?_
        refine z_aload_n F dX5_readProduct_25 rfl 1 rfl ?_
        refine z_iload_n F dX5_readProduct_26 rfl 2 rfl ?_
        obtain ⟨v_7, hq27, h⟩ := zbindv_ex h
        refine z_callVv F [zr G x1, .int x2] [] (kX5_readUnit x.2.1 G fr0 lo0 RC hRC x0 t0 x1 t1 x2 v_1 v_7 hq27) mI_X5_readUnit (c := 5) rfl t0 wM_X5_58 mi_X5_readUnit sl_X5_readUnit dX5_readProduct_27 rfl ⟨by omega, by omega⟩ rfl (Nat.le_of_ble_eq_true rfl) ⟨Nat.zero_le _, Nat.zero_le _⟩ ?_
        refine z_aload_n F dX5_readProduct_30 rfl 0 rfl ?_
        refine z_bipush (y := (-3 : Int32)) F dX5_readProduct_31 rfl ?_
        obtain ⟨v_8, hq33, h⟩ := zbindv_ex h
        refine z_callVv F [.int (-3 : Int32)] [] (kX5_add x.2.1 G x0 t0 (-3 : Int32) v_7 v_8 hq33) mI_X5_add (c := 5) rfl t0 wM_X5_28 mi_X5_add sl_X5_add dX5_readProduct_33 rfl ⟨by omega, by omega⟩ rfl (Nat.le_of_ble_eq_true rfl) ⟨Nat.zero_le _, Nat.zero_le _⟩ ?_
        refine z_goto F 64 dX5_readProduct_36 rfl ?_
        refine z_iinc F [(3, .int (x3 + (1 : Int32))), (0, zr G x0), (1, zr G x1), (2, .int x2)] dX5_readProduct_64 3 rfl rfl (Nat.le_of_ble_eq_true rfl) rfl ?_
        refine z_goto F 8 dX5_readProduct_67 rfl ?_
        refine z_ls [(0, zr G x0), (1, zr G x1), (2, .int x2), (3, .int (x3 + (1 : Int32)))] [1, 2, 3, 0] rfl ?_
        exact ih x0 t0 x1 t1 x2 (x3 + (1 : Int32)) v_8 h

def fX5_readProduct (RC : Nat → Nat → Int32 → zV → Option zV) (x0 : Nat) (x1 : Nat) (x2 : Int32) (v : zV) : Option zV :=
  zbindv (fX5_readUnit RC x0 x1 x2 v) fun v_1 =>
  fX5_readProduct_8 RC  zFU x0 x1 x2 (0 : Int32) v_1
set_option maxRecDepth 4000 in
theorem kX5_readProduct (l : Launch) (G : zG) (fr0 lo0 : Nat) (RC : Nat → Nat → Int32 → zV → Option zV) (hRC : ∀ (l : Launch) (x0 : Nat) (t0 : zty G x0 1 5) (x1 : Nat) (t1 : zty G x1 1 8) (x2 : Int32) (v : zV) (w : zV), RC x0 x1 x2 v = some w → zMet l yX5_readSum cX5_readSum 4 (Option.none : Option FieldType) fr0 lo0 0 0 [zr G x0, zr G x1, .int x2] G v none w) (x0 : Nat) (t0 : zty G x0 1 5) (x1 : Nat) (t1 : zty G x1 1 8) (x2 : Int32) (v : zV) (w : zV) (h : fX5_readProduct RC x0 x1 x2 v = some w) : zMet l yX5_readProduct cX5_readProduct 4 (Option.none : Option FieldType) (fr0 + 8) (lo0 + 268) 0 0 [zr G x0, zr G x1, .int x2] G v none w := by
  refine zM_of (own := RX5) (by decide) rfl (Nat.le_of_ble_eq_true rfl) (fun x hl F hr hk hcs => ?_)
  subst hl
  refine z_ls [(0, zr G x0), (1, zr G x1), (2, .int x2)] [0, 1, 2] rfl ?_
  unfold fX5_readProduct at h
  refine z_aload_n F dX5_readProduct_0 rfl 0 rfl ?_
  refine z_aload_n F dX5_readProduct_1 rfl 1 rfl ?_
  refine z_iload_n F dX5_readProduct_2 rfl 2 rfl ?_
  obtain ⟨v_1, hq3, h⟩ := zbindv_ex h
  refine z_callVv F [zr G x1, .int x2] [] (kX5_readUnit x.2.1 G fr0 lo0 RC hRC x0 t0 x1 t1 x2 v v_1 hq3) mI_X5_readUnit (c := 5) rfl t0 wM_X5_58 mi_X5_readUnit sl_X5_readUnit dX5_readProduct_3 rfl ⟨by omega, by omega⟩ rfl (Nat.le_of_ble_eq_true rfl) ⟨Nat.zero_le _, Nat.zero_le _⟩ ?_
  refine z_iconst (y := (0 : Int32)) F dX5_readProduct_6 rfl ?_
  refine z_istore_n F [(3, .int (0 : Int32)), (0, zr G x0), (1, zr G x1), (2, .int x2)] dX5_readProduct_7 rfl (Nat.le_of_ble_eq_true rfl) rfl ?_
  refine z_ls [(0, zr G x0), (1, zr G x1), (2, .int x2), (3, .int (0 : Int32))] [1, 2, 3, 0] rfl ?_
  exact jX5_readProduct_8 x G fr0 lo0 RC hRC F hr hk w   zFU x0 t0 x1 t1 x2 (0 : Int32) v_1 h

theorem dX5_readSum_0 : decode cX5_readSum 0 = .ok (.aload_n 0, 1) := by decide +kernel
theorem dX5_readSum_1 : decode cX5_readSum 1 = .ok (.aload_n 1, 1) := by decide +kernel
theorem dX5_readSum_2 : decode cX5_readSum 2 = .ok (.iload_n 2, 1) := by decide +kernel
theorem dX5_readSum_3 : decode cX5_readSum 3 = .ok (.invokevirtual 51, 3) := by decide +kernel
theorem dX5_readSum_6 : decode cX5_readSum 6 = .ok (.iconst 0, 1) := by decide +kernel
theorem dX5_readSum_7 : decode cX5_readSum 7 = .ok (.istore_n 3, 1) := by decide +kernel
theorem dX5_readSum_8 : decode cX5_readSum 8 = .ok (.iload_n 3, 1) := by decide +kernel
theorem dX5_readSum_9 : decode cX5_readSum 9 = .ok (.sipush 150, 3) := by decide +kernel
theorem dX5_readSum_12 : decode cX5_readSum 12 = .ok (.if_icmp .ge 57, 3) := by decide +kernel
theorem dX5_readSum_15 : decode cX5_readSum 15 = .ok (.aload_n 1, 1) := by decide +kernel
theorem dX5_readSum_16 : decode cX5_readSum 16 = .ok (.bipush 43, 2) := by decide +kernel
theorem dX5_readSum_18 : decode cX5_readSum 18 = .ok (.invokevirtual 54, 3) := by decide +kernel
theorem dX5_readSum_21 : decode cX5_readSum 21 = .ok (.ifCond .eq 17, 3) := by decide +kernel
theorem dX5_readSum_24 : decode cX5_readSum 24 = .ok (.aload_n 0, 1) := by decide +kernel
theorem dX5_readSum_25 : decode cX5_readSum 25 = .ok (.aload_n 1, 1) := by decide +kernel
theorem dX5_readSum_26 : decode cX5_readSum 26 = .ok (.iload_n 2, 1) := by decide +kernel
theorem dX5_readSum_27 : decode cX5_readSum 27 = .ok (.invokevirtual 51, 3) := by decide +kernel
theorem dX5_readSum_30 : decode cX5_readSum 30 = .ok (.aload_n 0, 1) := by decide +kernel
theorem dX5_readSum_31 : decode cX5_readSum 31 = .ok (.iconst (-1), 1) := by decide +kernel
theorem dX5_readSum_32 : decode cX5_readSum 32 = .ok (.invokevirtual 28, 3) := by decide +kernel
theorem dX5_readSum_35 : decode cX5_readSum 35 = .ok (.goto 28, 3) := by decide +kernel
theorem dX5_readSum_38 : decode cX5_readSum 38 = .ok (.aload_n 1, 1) := by decide +kernel
theorem dX5_readSum_39 : decode cX5_readSum 39 = .ok (.bipush 45, 2) := by decide +kernel
theorem dX5_readSum_41 : decode cX5_readSum 41 = .ok (.invokevirtual 54, 3) := by decide +kernel
theorem dX5_readSum_44 : decode cX5_readSum 44 = .ok (.ifCond .eq 18, 3) := by decide +kernel
theorem dX5_readSum_47 : decode cX5_readSum 47 = .ok (.aload_n 0, 1) := by decide +kernel
theorem dX5_readSum_48 : decode cX5_readSum 48 = .ok (.aload_n 1, 1) := by decide +kernel
theorem dX5_readSum_49 : decode cX5_readSum 49 = .ok (.iload_n 2, 1) := by decide +kernel
theorem dX5_readSum_50 : decode cX5_readSum 50 = .ok (.invokevirtual 51, 3) := by decide +kernel
theorem dX5_readSum_53 : decode cX5_readSum 53 = .ok (.aload_n 0, 1) := by decide +kernel
theorem dX5_readSum_54 : decode cX5_readSum 54 = .ok (.bipush (-2), 2) := by decide +kernel
theorem dX5_readSum_56 : decode cX5_readSum 56 = .ok (.invokevirtual 28, 3) := by decide +kernel
theorem dX5_readSum_59 : decode cX5_readSum 59 = .ok (.goto 4, 3) := by decide +kernel
theorem dX5_readSum_62 : decode cX5_readSum 62 = .ok (.return_, 1) := by decide +kernel
theorem dX5_readSum_63 : decode cX5_readSum 63 = .ok (.iinc 3 1, 3) := by decide +kernel
theorem dX5_readSum_66 : decode cX5_readSum 66 = .ok (.goto (-58), 3) := by decide +kernel
theorem dX5_readSum_69 : decode cX5_readSum 69 = .ok (.return_, 1) := by decide +kernel
def fX5_readSum_8 (RC : Nat → Nat → Int32 → zV → Option zV)  : Nat → Nat → Nat → Int32 → Int32 → zV → Option zV
  | 0 => fun _ _ _ _ _ => none
  | n + 1 => fun x0 x1 x2 x3 v =>
    if (150 : Int32) ≤ x3 then
      some v
    else
      zbind (fX8_takesSign x1 (43 : Int32) v) fun r_2 v_1 =>
      if r_2 = (0 : Int32) then
        zbind (fX8_takesSign x1 (45 : Int32) v_1) fun r_4 v_3 =>
        if r_4 = (0 : Int32) then
          some v_3
        else
          zbindv (fX5_readProduct RC x0 x1 x2 v_3) fun v_5 =>
          zbindv (fX5_add x0 (-2 : Int32) v_5) fun v_6 =>
          (fX5_readSum_8 RC n) x0 x1 x2 (x3 + (1 : Int32)) v_6
      else
        zbindv (fX5_readProduct RC x0 x1 x2 v_1) fun v_7 =>
        zbindv (fX5_add x0 (-1 : Int32) v_7) fun v_8 =>
        (fX5_readSum_8 RC n) x0 x1 x2 (x3 + (1 : Int32)) v_8
set_option maxRecDepth 4000 in
theorem jX5_readSum_8 (x : zCx) (G : zG) (fr0 lo0 : Nat) (RC : Nat → Nat → Int32 → zV → Option zV) (hRC : ∀ (l : Launch) (x0 : Nat) (t0 : zty G x0 1 5) (x1 : Nat) (t1 : zty G x1 1 8) (x2 : Int32) (v : zV) (w : zV), RC x0 x1 x2 v = some w → zMet l yX5_readSum cX5_readSum 4 (Option.none : Option FieldType) fr0 lo0 0 0 [zr G x0, zr G x1, .int x2] G v none w) (F : zF x G cX5_readSum 4 RX5 (fr0 + 9) (lo0 + 291)) (hr : x.2.2.2.2.2.2.2.2.1.sig.returnType = (Option.none : Option FieldType)) (hk : x.2.2.2.2.2.2.2.2.1.locks = false) (w : zV)  : ∀ (n : Nat) (x0 : Nat) (t0 : zty G x0 1 5) (x1 : Nat) (t1 : zty G x1 1 8) (x2 : Int32) (x3 : Int32) (v : zV), fX5_readSum_8 RC n x0 x1 x2 x3 v = some w → zJ x G 4 (zQ x G none w 0 0) 0 0 8 [(0, zr G x0), (1, zr G x1), (2, .int x2), (3, .int x3)] [] v := by
  intro n
  induction n with
  | zero => intro x0 t0 x1 t1 x2 x3 v h; exact absurd h (by intro q; cases q)
  | succ n ih =>
    intro x0 t0 x1 t1 x2 x3 v h
    rw [fX5_readSum_8] at h
    dsimp only at h
    refine z_iload_n F dX5_readSum_8 rfl 3 rfl ?_
    refine z_sipush (y := (150 : Int32)) F dX5_readSum_9 rfl ?_
    refine z_icmp_ge F 69 dX5_readSum_12 rfl (fun hc => ?_) (fun hc => ?_)
    · replace h := zif_t hc h
      cases h
      exact z_retv F hr hk dX5_readSum_69
    · replace h := zif_f hc h
      refine z_aload_n F dX5_readSum_15 rfl 1 rfl ?_
      refine z_bipush (y := (43 : Int32)) F dX5_readSum_16 rfl ?_
      obtain ⟨r_2, v_1, hq18, h⟩ := zbind_ex h
      refine z_callVi F [.int (43 : Int32)] [] (kX8_takesSign x.2.1 G x1 t1 (43 : Int32) v r_2 v_1 hq18) mI_X8_takesSign (c := 8) rfl t1 wM_X5_54 mi_X8_takesSign sl_X8_takesSign dX5_readSum_18 rfl ⟨by omega, by omega⟩ rfl (Nat.le_of_ble_eq_true rfl) ⟨Nat.zero_le _, Nat.zero_le _⟩ ?_
      refine z_if_eq F 38 dX5_readSum_21 rfl (fun hc => ?_) (fun hc => ?_)
      · replace h := zif_t hc h
        refine z_aload_n F dX5_readSum_38 rfl 1 rfl ?_
        refine z_bipush (y := (45 : Int32)) F dX5_readSum_39 rfl ?_
        obtain ⟨r_4, v_3, hq41, h⟩ := zbind_ex h
        refine z_callVi F [.int (45 : Int32)] [] (kX8_takesSign x.2.1 G x1 t1 (45 : Int32) v_1 r_4 v_3 hq41) mI_X8_takesSign (c := 8) rfl t1 wM_X5_54 mi_X8_takesSign sl_X8_takesSign dX5_readSum_41 rfl ⟨by omega, by omega⟩ rfl (Nat.le_of_ble_eq_true rfl) ⟨Nat.zero_le _, Nat.zero_le _⟩ ?_
        refine z_if_eq F 62 dX5_readSum_44 rfl (fun hc => ?_) (fun hc => ?_)
        · replace h := zif_t hc h
          cases h
          exact z_retv F hr hk dX5_readSum_62
        · replace h := zif_f hc h
          refine z_aload_n F dX5_readSum_47 rfl 0 rfl ?_
          refine z_aload_n F dX5_readSum_48 rfl 1 rfl ?_
          refine z_iload_n F dX5_readSum_49 rfl 2 rfl ?_
          obtain ⟨v_5, hq50, h⟩ := zbindv_ex h
          refine z_callVv F [zr G x1, .int x2] [] (kX5_readProduct x.2.1 G fr0 lo0 RC hRC x0 t0 x1 t1 x2 v_3 v_5 hq50) mI_X5_readProduct (c := 5) rfl t0 wM_X5_51 mi_X5_readProduct sl_X5_readProduct dX5_readSum_50 rfl ⟨by omega, by omega⟩ rfl (Nat.le_of_ble_eq_true rfl) ⟨Nat.zero_le _, Nat.zero_le _⟩ ?_
          refine z_aload_n F dX5_readSum_53 rfl 0 rfl ?_
          refine z_bipush (y := (-2 : Int32)) F dX5_readSum_54 rfl ?_
          obtain ⟨v_6, hq56, h⟩ := zbindv_ex h
          refine z_callVv F [.int (-2 : Int32)] [] (kX5_add x.2.1 G x0 t0 (-2 : Int32) v_5 v_6 hq56) mI_X5_add (c := 5) rfl t0 wM_X5_28 mi_X5_add sl_X5_add dX5_readSum_56 rfl ⟨by omega, by omega⟩ rfl (Nat.le_of_ble_eq_true rfl) ⟨Nat.zero_le _, Nat.zero_le _⟩ ?_
          refine z_goto F 63 dX5_readSum_59 rfl ?_
          refine z_iinc F [(3, .int (x3 + (1 : Int32))), (0, zr G x0), (1, zr G x1), (2, .int x2)] dX5_readSum_63 3 rfl rfl (Nat.le_of_ble_eq_true rfl) rfl ?_
          refine z_goto F 8 dX5_readSum_66 rfl ?_
          refine z_ls [(0, zr G x0), (1, zr G x1), (2, .int x2), (3, .int (x3 + (1 : Int32)))] [1, 2, 3, 0] rfl ?_
          exact ih x0 t0 x1 t1 x2 (x3 + (1 : Int32)) v_6 h
      · replace h := zif_f hc h
        refine z_aload_n F dX5_readSum_24 rfl 0 rfl ?_
        refine z_aload_n F dX5_readSum_25 rfl 1 rfl ?_
        refine z_iload_n F dX5_readSum_26 rfl 2 rfl ?_
        obtain ⟨v_7, hq27, h⟩ := zbindv_ex h
        refine z_callVv F [zr G x1, .int x2] [] (kX5_readProduct x.2.1 G fr0 lo0 RC hRC x0 t0 x1 t1 x2 v_1 v_7 hq27) mI_X5_readProduct (c := 5) rfl t0 wM_X5_51 mi_X5_readProduct sl_X5_readProduct dX5_readSum_27 rfl ⟨by omega, by omega⟩ rfl (Nat.le_of_ble_eq_true rfl) ⟨Nat.zero_le _, Nat.zero_le _⟩ ?_
        refine z_aload_n F dX5_readSum_30 rfl 0 rfl ?_
        refine z_iconst (y := (-1 : Int32)) F dX5_readSum_31 rfl ?_
        obtain ⟨v_8, hq32, h⟩ := zbindv_ex h
        refine z_callVv F [.int (-1 : Int32)] [] (kX5_add x.2.1 G x0 t0 (-1 : Int32) v_7 v_8 hq32) mI_X5_add (c := 5) rfl t0 wM_X5_28 mi_X5_add sl_X5_add dX5_readSum_32 rfl ⟨by omega, by omega⟩ rfl (Nat.le_of_ble_eq_true rfl) ⟨Nat.zero_le _, Nat.zero_le _⟩ ?_
        refine z_goto F 63 dX5_readSum_35 rfl ?_
        refine z_iinc F [(3, .int (x3 + (1 : Int32))), (0, zr G x0), (1, zr G x1), (2, .int x2)] dX5_readSum_63 3 rfl rfl (Nat.le_of_ble_eq_true rfl) rfl ?_
        refine z_goto F 8 dX5_readSum_66 rfl ?_
        refine z_ls [(0, zr G x0), (1, zr G x1), (2, .int x2), (3, .int (x3 + (1 : Int32)))] [1, 2, 3, 0] rfl ?_
        exact ih x0 t0 x1 t1 x2 (x3 + (1 : Int32)) v_8 h

def fX5_readSum (RC : Nat → Nat → Int32 → zV → Option zV) (x0 : Nat) (x1 : Nat) (x2 : Int32) (v : zV) : Option zV :=
  zbindv (fX5_readProduct RC x0 x1 x2 v) fun v_1 =>
  fX5_readSum_8 RC  zFU x0 x1 x2 (0 : Int32) v_1
set_option maxRecDepth 4000 in
theorem kX5_readSum (l : Launch) (G : zG) (fr0 lo0 : Nat) (RC : Nat → Nat → Int32 → zV → Option zV) (hRC : ∀ (l : Launch) (x0 : Nat) (t0 : zty G x0 1 5) (x1 : Nat) (t1 : zty G x1 1 8) (x2 : Int32) (v : zV) (w : zV), RC x0 x1 x2 v = some w → zMet l yX5_readSum cX5_readSum 4 (Option.none : Option FieldType) fr0 lo0 0 0 [zr G x0, zr G x1, .int x2] G v none w) (x0 : Nat) (t0 : zty G x0 1 5) (x1 : Nat) (t1 : zty G x1 1 8) (x2 : Int32) (v : zV) (w : zV) (h : fX5_readSum RC x0 x1 x2 v = some w) : zMet l yX5_readSum cX5_readSum 4 (Option.none : Option FieldType) (fr0 + 9) (lo0 + 291) 0 0 [zr G x0, zr G x1, .int x2] G v none w := by
  refine zM_of (own := RX5) (by decide) rfl (Nat.le_of_ble_eq_true rfl) (fun x hl F hr hk hcs => ?_)
  subst hl
  refine z_ls [(0, zr G x0), (1, zr G x1), (2, .int x2)] [0, 1, 2] rfl ?_
  unfold fX5_readSum at h
  refine z_aload_n F dX5_readSum_0 rfl 0 rfl ?_
  refine z_aload_n F dX5_readSum_1 rfl 1 rfl ?_
  refine z_iload_n F dX5_readSum_2 rfl 2 rfl ?_
  obtain ⟨v_1, hq3, h⟩ := zbindv_ex h
  refine z_callVv F [zr G x1, .int x2] [] (kX5_readProduct x.2.1 G fr0 lo0 RC hRC x0 t0 x1 t1 x2 v v_1 hq3) mI_X5_readProduct (c := 5) rfl t0 wM_X5_51 mi_X5_readProduct sl_X5_readProduct dX5_readSum_3 rfl ⟨by omega, by omega⟩ rfl (Nat.le_of_ble_eq_true rfl) ⟨Nat.zero_le _, Nat.zero_le _⟩ ?_
  refine z_iconst (y := (0 : Int32)) F dX5_readSum_6 rfl ?_
  refine z_istore_n F [(3, .int (0 : Int32)), (0, zr G x0), (1, zr G x1), (2, .int x2)] dX5_readSum_7 rfl (Nat.le_of_ble_eq_true rfl) rfl ?_
  refine z_ls [(0, zr G x0), (1, zr G x1), (2, .int x2), (3, .int (0 : Int32))] [1, 2, 3, 0] rfl ?_
  exact jX5_readSum_8 x G fr0 lo0 RC hRC F hr hk w   zFU x0 t0 x1 t1 x2 (0 : Int32) v_1 h

def fX5_readSumD : Nat → Nat → Nat → Int32 → zV → Option zV
  | 0 => fun _ _ _ _ => none
  | d + 1 => fX5_readSum (fX5_readSumD d)
theorem kX5_readSumD_all (d : Nat) : ∀ (l : Launch) (G : zG) (x0 : Nat) (t0 : zty G x0 1 5) (x1 : Nat) (t1 : zty G x1 1 8) (x2 : Int32) (v : zV) (w : zV), fX5_readSumD d x0 x1 x2 v = some w → zMet l yX5_readSum cX5_readSum 4 (Option.none : Option FieldType) (d * 9 + 1) (d * 291 + 1) 0 0 [zr G x0, zr G x1, .int x2] G v none w := by
  induction d with
  | zero => intro l G x0 t0 x1 t1 x2 v w h; exact absurd h (by intro q; cases q)
  | succ d ih =>
    intro l G x0 t0 x1 t1 x2 v w h
    have e1 : (d + 1) * 9 + 1 = d * 9 + 1 + 9 := by omega
    have e2 : (d + 1) * 291 + 1 = d * 291 + 1 + 291 := by omega
    rw [e1, e2]
    exact kX5_readSum l G _ _ (fX5_readSumD d) (fun l => ih l G) x0 t0 x1 t1 x2 v w h
theorem kX5_readSumD (l : Launch) (G : zG) (d : Nat) (x0 : Nat) (t0 : zty G x0 1 5) (x1 : Nat) (t1 : zty G x1 1 8) (x2 : Int32) (v : zV) (w : zV) (h : fX5_readSumD d x0 x1 x2 v = some w) : zMet l yX5_readSum cX5_readSum 4 (Option.none : Option FieldType) (d * 9 + 1) (d * 291 + 1) 0 0 [zr G x0, zr G x1, .int x2] G v none w := kX5_readSumD_all d l G x0 t0 x1 t1 x2 v w h

theorem dX5_read_0 : decode cX5_read 0 = .ok (.aload_n 0, 1) := by decide +kernel
theorem dX5_read_1 : decode cX5_read 1 = .ok (.iconst 0, 1) := by decide +kernel
theorem dX5_read_2 : decode cX5_read 2 = .ok (.putfield 24, 3) := by decide +kernel
theorem dX5_read_5 : decode cX5_read 5 = .ok (.aload_n 0, 1) := by decide +kernel
theorem dX5_read_6 : decode cX5_read 6 = .ok (.aload_n 1, 1) := by decide +kernel
theorem dX5_read_7 : decode cX5_read 7 = .ok (.iconst 0, 1) := by decide +kernel
theorem dX5_read_8 : decode cX5_read 8 = .ok (.invokevirtual 38, 3) := by decide +kernel
theorem dX5_read_11 : decode cX5_read 11 = .ok (.aload_n 1, 1) := by decide +kernel
theorem dX5_read_12 : decode cX5_read 12 = .ok (.invokevirtual 42, 3) := by decide +kernel
theorem dX5_read_15 : decode cX5_read 15 = .ok (.iconst (-1), 1) := by decide +kernel
theorem dX5_read_16 : decode cX5_read 16 = .ok (.if_icmp .eq 7, 3) := by decide +kernel
theorem dX5_read_19 : decode cX5_read 19 = .ok (.aload_n 1, 1) := by decide +kernel
theorem dX5_read_20 : decode cX5_read 20 = .ok (.invokevirtual 48, 3) := by decide +kernel
theorem dX5_read_23 : decode cX5_read 23 = .ok (.return_, 1) := by decide +kernel
def fX5_read (x0 : Nat) (x1 : Nat) (v : zV) : Option zV :=
  zlet (zup v x0 3 (0 : Int32)) fun v_1 =>
  zbindv (fX5_readSumD 20 x0 x1 (0 : Int32) v_1) fun v_2 =>
  zbind (fX8_look x1 v_2) fun r_4 v_3 =>
  if r_4 = (-1 : Int32) then
    some v_3
  else
    zbindv (fX8_misfit x1 v_3) fun v_5 =>
    some v_5
set_option maxRecDepth 4000 in
theorem kX5_read (l : Launch) (G : zG) (x0 : Nat) (t0 : zty G x0 1 5) (x1 : Nat) (t1 : zty G x1 1 8) (v : zV) (w : zV) (h : fX5_read x0 x1 v = some w) : zMet l yX5_read cX5_read 2 (Option.none : Option FieldType) 182 5844 0 0 [zr G x0, zr G x1] G v none w := by
  refine zM_of (own := RX5) (by decide) rfl (Nat.le_of_ble_eq_true rfl) (fun x hl F hr hk hcs => ?_)
  subst hl
  refine z_ls [(0, zr G x0), (1, zr G x1)] [0, 1] rfl ?_
  unfold fX5_read at h
  refine z_aload_n F dX5_read_0 rfl 0 rfl ?_
  refine z_iconst (y := (0 : Int32)) F dX5_read_1 rfl ?_
  refine zp_5_3 F t0 wF_X5_24 dX5_read_2 ?_
  obtain ⟨v_1, ev_1, h⟩ := zlet_ex h
  refine z_heap ev_1 ?_
  refine z_aload_n F dX5_read_5 rfl 0 rfl ?_
  refine z_aload_n F dX5_read_6 rfl 1 rfl ?_
  refine z_iconst (y := (0 : Int32)) F dX5_read_7 rfl ?_
  obtain ⟨v_2, hq8, h⟩ := zbindv_ex h
  refine z_callVv F [zr G x1, .int (0 : Int32)] [] (kX5_readSumD x.2.1 G 20 x0 t0 x1 t1 (0 : Int32) v_1 v_2 hq8) mI_X5_readSum (c := 5) rfl t0 wM_X5_38 mi_X5_readSum sl_X5_readSum dX5_read_8 rfl ⟨Nat.le_of_ble_eq_true rfl, Nat.le_of_ble_eq_true rfl⟩ rfl (Nat.le_of_ble_eq_true rfl) ⟨Nat.zero_le _, Nat.zero_le _⟩ ?_
  refine z_aload_n F dX5_read_11 rfl 1 rfl ?_
  obtain ⟨r_4, v_3, hq12, h⟩ := zbind_ex h
  refine z_callVi F [] [] (kX8_look x.2.1 G x1 t1 v_2 r_4 v_3 hq12) mI_X8_look (c := 8) rfl t1 wM_X5_42 mi_X8_look sl_X8_look dX5_read_12 rfl ⟨Nat.le_of_ble_eq_true rfl, Nat.le_of_ble_eq_true rfl⟩ rfl (Nat.le_of_ble_eq_true rfl) ⟨Nat.zero_le _, Nat.zero_le _⟩ ?_
  refine z_iconst (y := (-1 : Int32)) F dX5_read_15 rfl ?_
  refine z_icmp_eq F 23 dX5_read_16 rfl (fun hc => ?_) (fun hc => ?_)
  · replace h := zif_t hc h
    cases h
    exact z_retv F hr hk dX5_read_23
  · replace h := zif_f hc h
    refine z_aload_n F dX5_read_19 rfl 1 rfl ?_
    obtain ⟨v_5, hq20, h⟩ := zbindv_ex h
    refine z_callVv F [] [] (kX8_misfit x.2.1 G x1 t1 v_3 v_5 hq20) mI_X8_misfit (c := 8) rfl t1 wM_X5_48 mi_X8_misfit sl_X8_misfit dX5_read_20 rfl ⟨Nat.le_of_ble_eq_true rfl, Nat.le_of_ble_eq_true rfl⟩ rfl (Nat.le_of_ble_eq_true rfl) ⟨Nat.zero_le _, Nat.zero_le _⟩ ?_
    cases h
    exact z_retv F hr hk dX5_read_23

theorem dX5_setFact_0 : decode cX5_setFact 0 = .ok (.aload_n 0, 1) := by decide +kernel
theorem dX5_setFact_1 : decode cX5_setFact 1 = .ok (.getfield 18, 3) := by decide +kernel
theorem dX5_setFact_4 : decode cX5_setFact 4 = .ok (.bipush (-7), 2) := by decide +kernel
theorem dX5_setFact_6 : decode cX5_setFact 6 = .ok (.iload_n 1, 1) := by decide +kernel
theorem dX5_setFact_7 : decode cX5_setFact 7 = .ok (.isub, 1) := by decide +kernel
theorem dX5_setFact_8 : decode cX5_setFact 8 = .ok (.iload_n 2, 1) := by decide +kernel
theorem dX5_setFact_9 : decode cX5_setFact 9 = .ok (.invokestatic 112, 3) := by decide +kernel
theorem dX5_setFact_12 : decode cX5_setFact 12 = .ok (.return_, 1) := by decide +kernel
def fX5_setFact (x0 : Nat) (x1 : Int32) (x2 : Int32) (v : zV) : Option zV :=
  zbindv (fX9_set (zrf x0 2) ((-7 : Int32) - x1) x2 v) fun v_1 =>
  some v_1
set_option maxRecDepth 4000 in
theorem kX5_setFact (l : Launch) (G : zG) (x0 : Nat) (t0 : zty G x0 1 5) (x1 : Int32) (x2 : Int32) (v : zV) (w : zV) (h : fX5_setFact x0 x1 x2 v = some w) : zMet l yX5_setFact cX5_setFact 3 (Option.none : Option FieldType) 2 102 0 0 [zr G x0, .int x1, .int x2] G v none w := by
  refine zM_of (own := RX5) (by decide) rfl (Nat.le_of_ble_eq_true rfl) (fun x hl F hr hk hcs => ?_)
  subst hl
  refine z_ls [(0, zr G x0), (1, .int x1), (2, .int x2)] [0, 1, 2] rfl ?_
  unfold fX5_setFact at h
  refine z_aload_n F dX5_setFact_0 rfl 0 rfl ?_
  refine zg_5_2 F t0 wF_X5_18 dX5_setFact_1 ?_
  refine z_bipush (y := (-7 : Int32)) F dX5_setFact_4 rfl ?_
  refine z_iload_n F dX5_setFact_6 rfl 1 rfl ?_
  refine z_isub F dX5_setFact_7 ?_
  refine z_iload_n F dX5_setFact_8 rfl 2 rfl ?_
  obtain ⟨v_1, hq9, h⟩ := zbindv_ex h
  refine z_callSNv F [zr G (zrf x0 2), .int ((-7 : Int32) - x1), .int x2] [] (kX9_set x.2.1 G (zrf x0 2) (zt_f tc_5_2 t0) ((-7 : Int32) - x1) x2 v v_1 hq9) mI_X9_set wN_X5_112 ms_X9_set dX5_setFact_9 rfl ⟨Nat.le_of_ble_eq_true rfl, Nat.le_of_ble_eq_true rfl⟩ rfl (Nat.le_of_ble_eq_true rfl) ⟨Nat.zero_le _, Nat.zero_le _⟩ ?_
  cases h
  exact z_retv F hr hk dX5_setFact_12

theorem dX5_join_0 : decode cX5_join 0 = .ok (.iload_n 0, 1) := by decide +kernel
theorem dX5_join_1 : decode cX5_join 1 = .ok (.tableswitch 70 (-5) (-1) #[59, 47, 43, 39, 35], 35) := by decide +kernel
theorem dX5_join_36 : decode cX5_join 36 = .ok (.iload_n 1, 1) := by decide +kernel
theorem dX5_join_37 : decode cX5_join 37 = .ok (.iload_n 2, 1) := by decide +kernel
theorem dX5_join_38 : decode cX5_join 38 = .ok (.iadd, 1) := by decide +kernel
theorem dX5_join_39 : decode cX5_join 39 = .ok (.ireturn, 1) := by decide +kernel
theorem dX5_join_40 : decode cX5_join 40 = .ok (.iload_n 1, 1) := by decide +kernel
theorem dX5_join_41 : decode cX5_join 41 = .ok (.iload_n 2, 1) := by decide +kernel
theorem dX5_join_42 : decode cX5_join 42 = .ok (.isub, 1) := by decide +kernel
theorem dX5_join_43 : decode cX5_join 43 = .ok (.ireturn, 1) := by decide +kernel
theorem dX5_join_44 : decode cX5_join 44 = .ok (.iload_n 1, 1) := by decide +kernel
theorem dX5_join_45 : decode cX5_join 45 = .ok (.iload_n 2, 1) := by decide +kernel
theorem dX5_join_46 : decode cX5_join 46 = .ok (.imul, 1) := by decide +kernel
theorem dX5_join_47 : decode cX5_join 47 = .ok (.ireturn, 1) := by decide +kernel
theorem dX5_join_48 : decode cX5_join 48 = .ok (.iload_n 2, 1) := by decide +kernel
theorem dX5_join_49 : decode cX5_join 49 = .ok (.ifCond .ne 7, 3) := by decide +kernel
theorem dX5_join_52 : decode cX5_join 52 = .ok (.iconst 0, 1) := by decide +kernel
theorem dX5_join_53 : decode cX5_join 53 = .ok (.goto 6, 3) := by decide +kernel
theorem dX5_join_56 : decode cX5_join 56 = .ok (.iload_n 1, 1) := by decide +kernel
theorem dX5_join_57 : decode cX5_join 57 = .ok (.iload_n 2, 1) := by decide +kernel
theorem dX5_join_58 : decode cX5_join 58 = .ok (.idiv, 1) := by decide +kernel
theorem dX5_join_59 : decode cX5_join 59 = .ok (.ireturn, 1) := by decide +kernel
theorem dX5_join_60 : decode cX5_join 60 = .ok (.iload_n 1, 1) := by decide +kernel
theorem dX5_join_61 : decode cX5_join 61 = .ok (.iload_n 2, 1) := by decide +kernel
theorem dX5_join_62 : decode cX5_join 62 = .ok (.if_icmp .ge 7, 3) := by decide +kernel
theorem dX5_join_65 : decode cX5_join 65 = .ok (.iload_n 1, 1) := by decide +kernel
theorem dX5_join_66 : decode cX5_join 66 = .ok (.goto 4, 3) := by decide +kernel
theorem dX5_join_69 : decode cX5_join 69 = .ok (.iload_n 2, 1) := by decide +kernel
theorem dX5_join_70 : decode cX5_join 70 = .ok (.ireturn, 1) := by decide +kernel
theorem dX5_join_71 : decode cX5_join 71 = .ok (.iload_n 1, 1) := by decide +kernel
theorem dX5_join_72 : decode cX5_join 72 = .ok (.iload_n 2, 1) := by decide +kernel
theorem dX5_join_73 : decode cX5_join 73 = .ok (.if_icmp .le 7, 3) := by decide +kernel
theorem dX5_join_76 : decode cX5_join 76 = .ok (.iload_n 1, 1) := by decide +kernel
theorem dX5_join_77 : decode cX5_join 77 = .ok (.goto 4, 3) := by decide +kernel
theorem dX5_join_80 : decode cX5_join 80 = .ok (.iload_n 2, 1) := by decide +kernel
theorem dX5_join_81 : decode cX5_join 81 = .ok (.ireturn, 1) := by decide +kernel
def fX5_join (x0 : Int32) (x1 : Int32) (x2 : Int32) (v : zV) : Option (Int32 × zV) :=
  if x0 = (-5 : Int32) then
    if x2 ≤ x1 then
      some (x2, v)
    else
      some (x1, v)
  else
    if x0 = (-4 : Int32) then
      if x2 = (0 : Int32) then
        some ((0 : Int32), v)
      else
        znz x2 <|
        some (x1 / x2, v)
    else
      if x0 = (-3 : Int32) then
        some (x1 * x2, v)
      else
        if x0 = (-2 : Int32) then
          some (x1 - x2, v)
        else
          if x0 = (-1 : Int32) then
            some (x1 + x2, v)
          else
            if x1 ≤ x2 then
              some (x2, v)
            else
              some (x1, v)
set_option maxRecDepth 4000 in
theorem kX5_join (l : Launch) (G : zG) (x0 : Int32) (x1 : Int32) (x2 : Int32) (v : zV) (r : Int32) (w : zV) (h : fX5_join x0 x1 x2 v = some (r, w)) : zMet l yX5_join cX5_join 3 (Option.some FieldType.int) 1 80 0 0 [.int x0, .int x1, .int x2] G v (some (.int r)) w := by
  refine zM_of (own := RX5) (by decide) rfl (Nat.le_of_ble_eq_true rfl) (fun x hl F hr hk hcs => ?_)
  subst hl
  refine z_ls [(0, .int x0), (1, .int x1), (2, .int x2)] [0, 1, 2] rfl ?_
  unfold fX5_join at h
  refine z_iload_n F dX5_join_0 rfl 0 rfl ?_
  by_cases hc : x0 = (-5 : Int32)
  · replace h := zif_t hc h
    refine z_swIn F 60 hc dX5_join_1 (by decide) (by decide) rfl rfl ?_
    refine z_iload_n F dX5_join_60 rfl 1 rfl ?_
    refine z_iload_n F dX5_join_61 rfl 2 rfl ?_
    refine z_icmp_ge F 69 dX5_join_62 rfl (fun hc => ?_) (fun hc => ?_)
    · replace h := zif_t hc h
      refine z_iload_n F dX5_join_69 rfl 2 rfl ?_
      cases h
      exact z_reti F hr hk dX5_join_70
    · replace h := zif_f hc h
      refine z_iload_n F dX5_join_65 rfl 1 rfl ?_
      refine z_goto F 70 dX5_join_66 rfl ?_
      cases h
      exact z_reti F hr hk dX5_join_70
  · replace h := zif_f hc h
    have hn1005 := zsw_ne hc
    by_cases hc : x0 = (-4 : Int32)
    · replace h := zif_t hc h
      refine z_swIn F 48 hc dX5_join_1 (by decide) (by decide) rfl rfl ?_
      refine z_iload_n F dX5_join_48 rfl 2 rfl ?_
      refine z_if_ne F 56 dX5_join_49 rfl (fun hc => ?_) (fun hc => ?_)
      · replace h := zif_f hc h
        refine z_iload_n F dX5_join_56 rfl 1 rfl ?_
        refine z_iload_n F dX5_join_57 rfl 2 rfl ?_
        obtain ⟨hz58, h⟩ := znz_ex h
        refine z_idiv F dX5_join_58 hz58 ?_
        cases h
        exact z_reti F hr hk dX5_join_59
      · replace h := zif_t hc h
        refine z_iconst (y := (0 : Int32)) F dX5_join_52 rfl ?_
        refine z_goto F 59 dX5_join_53 rfl ?_
        cases h
        exact z_reti F hr hk dX5_join_59
    · replace h := zif_f hc h
      have hn1004 := zsw_ne hc
      by_cases hc : x0 = (-3 : Int32)
      · replace h := zif_t hc h
        refine z_swIn F 44 hc dX5_join_1 (by decide) (by decide) rfl rfl ?_
        refine z_iload_n F dX5_join_44 rfl 1 rfl ?_
        refine z_iload_n F dX5_join_45 rfl 2 rfl ?_
        refine z_imul F dX5_join_46 ?_
        cases h
        exact z_reti F hr hk dX5_join_47
      · replace h := zif_f hc h
        have hn1003 := zsw_ne hc
        by_cases hc : x0 = (-2 : Int32)
        · replace h := zif_t hc h
          refine z_swIn F 40 hc dX5_join_1 (by decide) (by decide) rfl rfl ?_
          refine z_iload_n F dX5_join_40 rfl 1 rfl ?_
          refine z_iload_n F dX5_join_41 rfl 2 rfl ?_
          refine z_isub F dX5_join_42 ?_
          cases h
          exact z_reti F hr hk dX5_join_43
        · replace h := zif_f hc h
          have hn1002 := zsw_ne hc
          by_cases hc : x0 = (-1 : Int32)
          · replace h := zif_t hc h
            refine z_swIn F 36 hc dX5_join_1 (by decide) (by decide) rfl rfl ?_
            refine z_iload_n F dX5_join_36 rfl 1 rfl ?_
            refine z_iload_n F dX5_join_37 rfl 2 rfl ?_
            refine z_iadd F dX5_join_38 ?_
            cases h
            exact z_reti F hr hk dX5_join_39
          · replace h := zif_f hc h
            have hn1001 := zsw_ne hc
            refine z_tableOut F 71 dX5_join_1 (by have q0 : ((-5 : Int32) : Int32).toInt = -5 := rfl; have q1 : ((-4 : Int32) : Int32).toInt = -4 := rfl; have q2 : ((-3 : Int32) : Int32).toInt = -3 := rfl; have q3 : ((-2 : Int32) : Int32).toInt = -2 := rfl; have q4 : ((-1 : Int32) : Int32).toInt = -1 := rfl; omega) rfl ?_
            refine z_iload_n F dX5_join_71 rfl 1 rfl ?_
            refine z_iload_n F dX5_join_72 rfl 2 rfl ?_
            refine z_icmp_le F 80 dX5_join_73 rfl (fun hc => ?_) (fun hc => ?_)
            · replace h := zif_t hc h
              refine z_iload_n F dX5_join_80 rfl 2 rfl ?_
              cases h
              exact z_reti F hr hk dX5_join_81
            · replace h := zif_f hc h
              refine z_iload_n F dX5_join_76 rfl 1 rfl ?_
              refine z_goto F 81 dX5_join_77 rfl ?_
              cases h
              exact z_reti F hr hk dX5_join_81

theorem dX5_value_0 : decode cX5_value 0 = .ok (.iconst 0, 1) := by decide +kernel
theorem dX5_value_1 : decode cX5_value 1 = .ok (.istore_n 1, 1) := by decide +kernel
theorem dX5_value_2 : decode cX5_value 2 = .ok (.iconst 0, 1) := by decide +kernel
theorem dX5_value_3 : decode cX5_value 3 = .ok (.istore_n 2, 1) := by decide +kernel
theorem dX5_value_4 : decode cX5_value 4 = .ok (.iload_n 2, 1) := by decide +kernel
theorem dX5_value_5 : decode cX5_value 5 = .ok (.aload_n 0, 1) := by decide +kernel
theorem dX5_value_6 : decode cX5_value 6 = .ok (.getfield 24, 3) := by decide +kernel
theorem dX5_value_9 : decode cX5_value 9 = .ok (.if_icmp .ge 121, 3) := by decide +kernel
theorem dX5_value_12 : decode cX5_value 12 = .ok (.iload_n 2, 1) := by decide +kernel
theorem dX5_value_13 : decode cX5_value 13 = .ok (.aload_n 0, 1) := by decide +kernel
theorem dX5_value_14 : decode cX5_value 14 = .ok (.getfield 9, 3) := by decide +kernel
theorem dX5_value_17 : decode cX5_value 17 = .ok (.arraylength, 1) := by decide +kernel
theorem dX5_value_18 : decode cX5_value 18 = .ok (.if_icmp .ge 112, 3) := by decide +kernel
theorem dX5_value_21 : decode cX5_value 21 = .ok (.aload_n 0, 1) := by decide +kernel
theorem dX5_value_22 : decode cX5_value 22 = .ok (.getfield 9, 3) := by decide +kernel
theorem dX5_value_25 : decode cX5_value 25 = .ok (.iload_n 2, 1) := by decide +kernel
theorem dX5_value_26 : decode cX5_value 26 = .ok (.iaload, 1) := by decide +kernel
theorem dX5_value_27 : decode cX5_value 27 = .ok (.istore_n 3, 1) := by decide +kernel
theorem dX5_value_28 : decode cX5_value 28 = .ok (.iload_n 3, 1) := by decide +kernel
theorem dX5_value_29 : decode cX5_value 29 = .ok (.iconst (-1), 1) := by decide +kernel
theorem dX5_value_30 : decode cX5_value 30 = .ok (.if_icmp .gt 57, 3) := by decide +kernel
theorem dX5_value_33 : decode cX5_value 33 = .ok (.iload_n 3, 1) := by decide +kernel
theorem dX5_value_34 : decode cX5_value 34 = .ok (.bipush (-6), 2) := by decide +kernel
theorem dX5_value_36 : decode cX5_value 36 = .ok (.if_icmp .lt 51, 3) := by decide +kernel
theorem dX5_value_39 : decode cX5_value 39 = .ok (.iload_n 1, 1) := by decide +kernel
theorem dX5_value_40 : decode cX5_value 40 = .ok (.iconst 2, 1) := by decide +kernel
theorem dX5_value_41 : decode cX5_value 41 = .ok (.if_icmp .lt 83, 3) := by decide +kernel
theorem dX5_value_44 : decode cX5_value 44 = .ok (.iload_n 1, 1) := by decide +kernel
theorem dX5_value_45 : decode cX5_value 45 = .ok (.aload_n 0, 1) := by decide +kernel
theorem dX5_value_46 : decode cX5_value 46 = .ok (.getfield 15, 3) := by decide +kernel
theorem dX5_value_49 : decode cX5_value 49 = .ok (.arraylength, 1) := by decide +kernel
theorem dX5_value_50 : decode cX5_value 50 = .ok (.if_icmp .gt 74, 3) := by decide +kernel
theorem dX5_value_53 : decode cX5_value 53 = .ok (.aload_n 0, 1) := by decide +kernel
theorem dX5_value_54 : decode cX5_value 54 = .ok (.getfield 15, 3) := by decide +kernel
theorem dX5_value_57 : decode cX5_value 57 = .ok (.iload_n 1, 1) := by decide +kernel
theorem dX5_value_58 : decode cX5_value 58 = .ok (.iconst 2, 1) := by decide +kernel
theorem dX5_value_59 : decode cX5_value 59 = .ok (.isub, 1) := by decide +kernel
theorem dX5_value_60 : decode cX5_value 60 = .ok (.iload_n 3, 1) := by decide +kernel
theorem dX5_value_61 : decode cX5_value 61 = .ok (.aload_n 0, 1) := by decide +kernel
theorem dX5_value_62 : decode cX5_value 62 = .ok (.getfield 15, 3) := by decide +kernel
theorem dX5_value_65 : decode cX5_value 65 = .ok (.iload_n 1, 1) := by decide +kernel
theorem dX5_value_66 : decode cX5_value 66 = .ok (.iconst 2, 1) := by decide +kernel
theorem dX5_value_67 : decode cX5_value 67 = .ok (.isub, 1) := by decide +kernel
theorem dX5_value_68 : decode cX5_value 68 = .ok (.iaload, 1) := by decide +kernel
theorem dX5_value_69 : decode cX5_value 69 = .ok (.aload_n 0, 1) := by decide +kernel
theorem dX5_value_70 : decode cX5_value 70 = .ok (.getfield 15, 3) := by decide +kernel
theorem dX5_value_73 : decode cX5_value 73 = .ok (.iload_n 1, 1) := by decide +kernel
theorem dX5_value_74 : decode cX5_value 74 = .ok (.iconst 1, 1) := by decide +kernel
theorem dX5_value_75 : decode cX5_value 75 = .ok (.isub, 1) := by decide +kernel
theorem dX5_value_76 : decode cX5_value 76 = .ok (.iaload, 1) := by decide +kernel
theorem dX5_value_77 : decode cX5_value 77 = .ok (.invokestatic 116, 3) := by decide +kernel
theorem dX5_value_80 : decode cX5_value 80 = .ok (.iastore, 1) := by decide +kernel
theorem dX5_value_81 : decode cX5_value 81 = .ok (.iinc 1 (-1), 3) := by decide +kernel
theorem dX5_value_84 : decode cX5_value 84 = .ok (.goto 40, 3) := by decide +kernel
theorem dX5_value_87 : decode cX5_value 87 = .ok (.iload_n 1, 1) := by decide +kernel
theorem dX5_value_88 : decode cX5_value 88 = .ok (.aload_n 0, 1) := by decide +kernel
theorem dX5_value_89 : decode cX5_value 89 = .ok (.getfield 15, 3) := by decide +kernel
theorem dX5_value_92 : decode cX5_value 92 = .ok (.arraylength, 1) := by decide +kernel
theorem dX5_value_93 : decode cX5_value 93 = .ok (.if_icmp .ge 31, 3) := by decide +kernel
theorem dX5_value_96 : decode cX5_value 96 = .ok (.aload_n 0, 1) := by decide +kernel
theorem dX5_value_97 : decode cX5_value 97 = .ok (.getfield 15, 3) := by decide +kernel
theorem dX5_value_100 : decode cX5_value 100 = .ok (.iload_n 1, 1) := by decide +kernel
theorem dX5_value_101 : decode cX5_value 101 = .ok (.iload_n 3, 1) := by decide +kernel
theorem dX5_value_102 : decode cX5_value 102 = .ok (.ifCond .lt 7, 3) := by decide +kernel
theorem dX5_value_105 : decode cX5_value 105 = .ok (.iload_n 3, 1) := by decide +kernel
theorem dX5_value_106 : decode cX5_value 106 = .ok (.goto 14, 3) := by decide +kernel
theorem dX5_value_109 : decode cX5_value 109 = .ok (.aload_n 0, 1) := by decide +kernel
theorem dX5_value_110 : decode cX5_value 110 = .ok (.getfield 18, 3) := by decide +kernel
theorem dX5_value_113 : decode cX5_value 113 = .ok (.bipush (-7), 2) := by decide +kernel
theorem dX5_value_115 : decode cX5_value 115 = .ok (.iload_n 3, 1) := by decide +kernel
theorem dX5_value_116 : decode cX5_value 116 = .ok (.isub, 1) := by decide +kernel
theorem dX5_value_117 : decode cX5_value 117 = .ok (.invokestatic 120, 3) := by decide +kernel
theorem dX5_value_120 : decode cX5_value 120 = .ok (.iastore, 1) := by decide +kernel
theorem dX5_value_121 : decode cX5_value 121 = .ok (.iinc 1 1, 3) := by decide +kernel
theorem dX5_value_124 : decode cX5_value 124 = .ok (.iinc 2 1, 3) := by decide +kernel
theorem dX5_value_127 : decode cX5_value 127 = .ok (.goto (-123), 3) := by decide +kernel
theorem dX5_value_130 : decode cX5_value 130 = .ok (.aload_n 0, 1) := by decide +kernel
theorem dX5_value_131 : decode cX5_value 131 = .ok (.getfield 15, 3) := by decide +kernel
theorem dX5_value_134 : decode cX5_value 134 = .ok (.iconst 0, 1) := by decide +kernel
theorem dX5_value_135 : decode cX5_value 135 = .ok (.iaload, 1) := by decide +kernel
theorem dX5_value_136 : decode cX5_value 136 = .ok (.ireturn, 1) := by decide +kernel
def fX5_value_87 (K4 : Nat → Int32 → Int32 → zV → Option (Int32 × zV)) (x0 : Nat) (x1 : Int32) (x2 : Int32) (x3 : Int32) (v : zV) : Option (Int32 × zV) :=
  if (Int32.ofNat (zlen (zrf x0 1))) ≤ x1 then
    K4 x0 x1 (x2 + (1 : Int32)) v
  else
    if x3 < (0 : Int32) then
      zbind (fX9_get (zrf x0 2) ((-7 : Int32) - x3) v) fun r_2 v_1 =>
      zix x1 (zlen (zrf x0 1)) <|
      zlet (zup v_1 (zrf x0 1) (x1).toNatClampNeg r_2) fun v_3 =>
      K4 x0 (x1 + (1 : Int32)) (x2 + (1 : Int32)) v_3
    else
      zix x1 (zlen (zrf x0 1)) <|
      zlet (zup v (zrf x0 1) (x1).toNatClampNeg x3) fun v_4 =>
      K4 x0 (x1 + (1 : Int32)) (x2 + (1 : Int32)) v_4
set_option maxRecDepth 4000 in
theorem jX5_value_87 (x : zCx) (G : zG) (F : zF x G cX5_value 4 RX5 2 102) (hr : x.2.2.2.2.2.2.2.2.1.sig.returnType = (Option.some FieldType.int)) (hk : x.2.2.2.2.2.2.2.2.1.locks = false) (r : Int32) (w : zV) (K4 : Nat → Int32 → Int32 → zV → Option (Int32 × zV)) (hK4 : ∀ (x0 : Nat) (t0 : zty G x0 1 5) (x1 : Int32) (x2 : Int32) (v : zV), K4 x0 x1 x2 v = some (r, w) → zJ x G 4 (zQ x G (some (.int r)) w 0 0) 0 0 4 [(0, zr G x0), (1, .int x1), (2, .int x2)] [] v) : ∀ (x0 : Nat) (t0 : zty G x0 1 5) (x1 : Int32) (x2 : Int32) (x3 : Int32) (v : zV), fX5_value_87 K4 x0 x1 x2 x3 v = some (r, w) → zJ x G 4 (zQ x G (some (.int r)) w 0 0) 0 0 87 [(0, zr G x0), (1, .int x1), (2, .int x2), (3, .int x3)] [] v := by
  intro x0 t0 x1 x2 x3 v h
  unfold fX5_value_87 at h
  refine z_iload_n F dX5_value_87 rfl 1 rfl ?_
  refine z_aload_n F dX5_value_88 rfl 0 rfl ?_
  refine zg_5_1 F t0 wF_X5_15 dX5_value_89 ?_
  refine z_alen0 F (zt_f tc_5_1 t0) dX5_value_92 rfl ?_
  refine z_icmp_ge F 124 dX5_value_93 rfl (fun hc => ?_) (fun hc => ?_)
  · replace h := zif_t hc h
    refine z_iinc F [(2, .int (x2 + (1 : Int32))), (0, zr G x0), (1, .int x1), (3, .int x3)] dX5_value_124 2 rfl rfl (Nat.le_of_ble_eq_true rfl) rfl ?_
    refine z_goto F 4 dX5_value_127 rfl ?_
    refine z_ls [(0, zr G x0), (1, .int x1), (2, .int (x2 + (1 : Int32)))] [1, 2, 0] rfl ?_
    exact hK4 x0 t0 x1 (x2 + (1 : Int32)) v h
  · replace h := zif_f hc h
    refine z_aload_n F dX5_value_96 rfl 0 rfl ?_
    refine zg_5_1 F t0 wF_X5_15 dX5_value_97 ?_
    refine z_iload_n F dX5_value_100 rfl 1 rfl ?_
    refine z_iload_n F dX5_value_101 rfl 3 rfl ?_
    refine z_if_lt F 109 dX5_value_102 rfl (fun hc => ?_) (fun hc => ?_)
    · replace h := zif_t hc h
      refine z_aload_n F dX5_value_109 rfl 0 rfl ?_
      refine zg_5_2 F t0 wF_X5_18 dX5_value_110 ?_
      refine z_bipush (y := (-7 : Int32)) F dX5_value_113 rfl ?_
      refine z_iload_n F dX5_value_115 rfl 3 rfl ?_
      refine z_isub F dX5_value_116 ?_
      obtain ⟨r_2, v_1, hq117, h⟩ := zbind_ex h
      refine z_callSNi F [zr G (zrf x0 2), .int ((-7 : Int32) - x3)] [.int x1, zr G (zrf x0 1)] (kX9_get x.2.1 G (zrf x0 2) (zt_f tc_5_2 t0) ((-7 : Int32) - x3) v r_2 v_1 hq117) mI_X9_get wN_X5_120 ms_X9_get dX5_value_117 rfl ⟨Nat.le_of_ble_eq_true rfl, Nat.le_of_ble_eq_true rfl⟩ rfl (Nat.le_of_ble_eq_true rfl) ⟨Nat.zero_le _, Nat.zero_le _⟩ ?_
      obtain ⟨hi120, h⟩ := zix_ex h
      refine z_iast F (zt_f tc_5_1 t0) dX5_value_120 hi120 ?_
      obtain ⟨v_3, ev_3, h⟩ := zlet_ex h
      refine z_heap ev_3 ?_
      refine z_iinc F [(1, .int (x1 + (1 : Int32))), (0, zr G x0), (2, .int x2), (3, .int x3)] dX5_value_121 1 rfl rfl (Nat.le_of_ble_eq_true rfl) rfl ?_
      refine z_iinc F [(2, .int (x2 + (1 : Int32))), (1, .int (x1 + (1 : Int32))), (0, zr G x0), (3, .int x3)] dX5_value_124 2 rfl rfl (Nat.le_of_ble_eq_true rfl) rfl ?_
      refine z_goto F 4 dX5_value_127 rfl ?_
      refine z_ls [(0, zr G x0), (1, .int (x1 + (1 : Int32))), (2, .int (x2 + (1 : Int32)))] [2, 1, 0] rfl ?_
      exact hK4 x0 t0 (x1 + (1 : Int32)) (x2 + (1 : Int32)) v_3 h
    · replace h := zif_f hc h
      refine z_iload_n F dX5_value_105 rfl 3 rfl ?_
      refine z_goto F 120 dX5_value_106 rfl ?_
      obtain ⟨hi120, h⟩ := zix_ex h
      refine z_iast F (zt_f tc_5_1 t0) dX5_value_120 hi120 ?_
      obtain ⟨v_4, ev_4, h⟩ := zlet_ex h
      refine z_heap ev_4 ?_
      refine z_iinc F [(1, .int (x1 + (1 : Int32))), (0, zr G x0), (2, .int x2), (3, .int x3)] dX5_value_121 1 rfl rfl (Nat.le_of_ble_eq_true rfl) rfl ?_
      refine z_iinc F [(2, .int (x2 + (1 : Int32))), (1, .int (x1 + (1 : Int32))), (0, zr G x0), (3, .int x3)] dX5_value_124 2 rfl rfl (Nat.le_of_ble_eq_true rfl) rfl ?_
      refine z_goto F 4 dX5_value_127 rfl ?_
      refine z_ls [(0, zr G x0), (1, .int (x1 + (1 : Int32))), (2, .int (x2 + (1 : Int32)))] [2, 1, 0] rfl ?_
      exact hK4 x0 t0 (x1 + (1 : Int32)) (x2 + (1 : Int32)) v_4 h

def fX5_value_4  : Nat → Nat → Int32 → Int32 → zV → Option (Int32 × zV)
  | 0 => fun _ _ _ _ => none
  | n + 1 => fun x0 x1 x2 v =>
    if (v x0 3) ≤ x2 then
      zix (0 : Int32) (zlen (zrf x0 1)) <|
      some (v (zrf x0 1) ((0 : Int32)).toNatClampNeg, v)
    else
      if (Int32.ofNat (zlen (zrf x0 0))) ≤ x2 then
        zix (0 : Int32) (zlen (zrf x0 1)) <|
        some (v (zrf x0 1) ((0 : Int32)).toNatClampNeg, v)
      else
        zix x2 (zlen (zrf x0 0)) <|
        if (-1 : Int32) < (v (zrf x0 0) (x2).toNatClampNeg) then
          fX5_value_87 (fX5_value_4 n) x0 x1 x2 (v (zrf x0 0) (x2).toNatClampNeg) v
        else
          if (v (zrf x0 0) (x2).toNatClampNeg) < (-6 : Int32) then
            fX5_value_87 (fX5_value_4 n) x0 x1 x2 (v (zrf x0 0) (x2).toNatClampNeg) v
          else
            if x1 < (2 : Int32) then
              (fX5_value_4 n) x0 x1 (x2 + (1 : Int32)) v
            else
              if (Int32.ofNat (zlen (zrf x0 1))) < x1 then
                (fX5_value_4 n) x0 x1 (x2 + (1 : Int32)) v
              else
                zix (x1 - (2 : Int32)) (zlen (zrf x0 1)) <|
                zix (x1 - (1 : Int32)) (zlen (zrf x0 1)) <|
                zbind (fX5_join (v (zrf x0 0) (x2).toNatClampNeg) (v (zrf x0 1) (x1 - (2 : Int32)).toNatClampNeg) (v (zrf x0 1) (x1 - (1 : Int32)).toNatClampNeg) v) fun r_2 v_1 =>
                zix (x1 - (2 : Int32)) (zlen (zrf x0 1)) <|
                zlet (zup v_1 (zrf x0 1) (x1 - (2 : Int32)).toNatClampNeg r_2) fun v_3 =>
                (fX5_value_4 n) x0 (x1 + (-1 : Int32)) (x2 + (1 : Int32)) v_3
set_option maxRecDepth 4000 in
theorem jX5_value_4 (x : zCx) (G : zG) (F : zF x G cX5_value 4 RX5 2 102) (hr : x.2.2.2.2.2.2.2.2.1.sig.returnType = (Option.some FieldType.int)) (hk : x.2.2.2.2.2.2.2.2.1.locks = false) (r : Int32) (w : zV)  : ∀ (n : Nat) (x0 : Nat) (t0 : zty G x0 1 5) (x1 : Int32) (x2 : Int32) (v : zV), fX5_value_4 n x0 x1 x2 v = some (r, w) → zJ x G 4 (zQ x G (some (.int r)) w 0 0) 0 0 4 [(0, zr G x0), (1, .int x1), (2, .int x2)] [] v := by
  intro n
  induction n with
  | zero => intro x0 t0 x1 x2 v h; exact absurd h (by intro q; cases q)
  | succ n ih =>
    intro x0 t0 x1 x2 v h
    rw [fX5_value_4] at h
    dsimp only at h
    refine z_iload_n F dX5_value_4 rfl 2 rfl ?_
    refine z_aload_n F dX5_value_5 rfl 0 rfl ?_
    refine zg_5_3 F t0 wF_X5_24 dX5_value_6 ?_
    refine z_icmp_ge F 130 dX5_value_9 rfl (fun hc => ?_) (fun hc => ?_)
    · replace h := zif_t hc h
      refine z_aload_n F dX5_value_130 rfl 0 rfl ?_
      refine zg_5_1 F t0 wF_X5_15 dX5_value_131 ?_
      refine z_iconst (y := (0 : Int32)) F dX5_value_134 rfl ?_
      obtain ⟨hi135, h⟩ := zix_ex h
      refine z_iald F (zt_f tc_5_1 t0) dX5_value_135 hi135 ?_
      cases h
      exact z_reti F hr hk dX5_value_136
    · replace h := zif_f hc h
      refine z_iload_n F dX5_value_12 rfl 2 rfl ?_
      refine z_aload_n F dX5_value_13 rfl 0 rfl ?_
      refine zg_5_0 F t0 wF_X5_9 dX5_value_14 ?_
      refine z_alen0 F (zt_f tc_5_0 t0) dX5_value_17 rfl ?_
      refine z_icmp_ge F 130 dX5_value_18 rfl (fun hc => ?_) (fun hc => ?_)
      · replace h := zif_t hc h
        refine z_aload_n F dX5_value_130 rfl 0 rfl ?_
        refine zg_5_1 F t0 wF_X5_15 dX5_value_131 ?_
        refine z_iconst (y := (0 : Int32)) F dX5_value_134 rfl ?_
        obtain ⟨hi135, h⟩ := zix_ex h
        refine z_iald F (zt_f tc_5_1 t0) dX5_value_135 hi135 ?_
        cases h
        exact z_reti F hr hk dX5_value_136
      · replace h := zif_f hc h
        refine z_aload_n F dX5_value_21 rfl 0 rfl ?_
        refine zg_5_0 F t0 wF_X5_9 dX5_value_22 ?_
        refine z_iload_n F dX5_value_25 rfl 2 rfl ?_
        obtain ⟨hi26, h⟩ := zix_ex h
        refine z_iald F (zt_f tc_5_0 t0) dX5_value_26 hi26 ?_
        refine z_istore_n F [(3, .int (v (zrf x0 0) (x2).toNatClampNeg)), (0, zr G x0), (1, .int x1), (2, .int x2)] dX5_value_27 rfl (Nat.le_of_ble_eq_true rfl) rfl ?_
        refine z_iload_n F dX5_value_28 rfl 0 rfl ?_
        refine z_iconst (y := (-1 : Int32)) F dX5_value_29 rfl ?_
        refine z_icmp_gt F 87 dX5_value_30 rfl (fun hc => ?_) (fun hc => ?_)
        · replace h := zif_t hc h
          refine z_ls [(0, zr G x0), (1, .int x1), (2, .int x2), (3, .int (v (zrf x0 0) (x2).toNatClampNeg))] [1, 2, 3, 0] rfl ?_
          exact jX5_value_87 x G F hr hk r w (fX5_value_4 n) ih x0 t0 x1 x2 (v (zrf x0 0) (x2).toNatClampNeg) v h
        · replace h := zif_f hc h
          refine z_iload_n F dX5_value_33 rfl 0 rfl ?_
          refine z_bipush (y := (-6 : Int32)) F dX5_value_34 rfl ?_
          refine z_icmp_lt F 87 dX5_value_36 rfl (fun hc => ?_) (fun hc => ?_)
          · replace h := zif_t hc h
            refine z_ls [(0, zr G x0), (1, .int x1), (2, .int x2), (3, .int (v (zrf x0 0) (x2).toNatClampNeg))] [1, 2, 3, 0] rfl ?_
            exact jX5_value_87 x G F hr hk r w (fX5_value_4 n) ih x0 t0 x1 x2 (v (zrf x0 0) (x2).toNatClampNeg) v h
          · replace h := zif_f hc h
            refine z_iload_n F dX5_value_39 rfl 2 rfl ?_
            refine z_iconst (y := (2 : Int32)) F dX5_value_40 rfl ?_
            refine z_icmp_lt F 124 dX5_value_41 rfl (fun hc => ?_) (fun hc => ?_)
            · replace h := zif_t hc h
              refine z_iinc F [(2, .int (x2 + (1 : Int32))), (3, .int (v (zrf x0 0) (x2).toNatClampNeg)), (0, zr G x0), (1, .int x1)] dX5_value_124 3 rfl rfl (Nat.le_of_ble_eq_true rfl) rfl ?_
              refine z_goto F 4 dX5_value_127 rfl ?_
              refine z_ls [(0, zr G x0), (1, .int x1), (2, .int (x2 + (1 : Int32)))] [2, 3, 0] rfl ?_
              exact ih x0 t0 x1 (x2 + (1 : Int32)) v h
            · replace h := zif_f hc h
              refine z_iload_n F dX5_value_44 rfl 2 rfl ?_
              refine z_aload_n F dX5_value_45 rfl 1 rfl ?_
              refine zg_5_1 F t0 wF_X5_15 dX5_value_46 ?_
              refine z_alen0 F (zt_f tc_5_1 t0) dX5_value_49 rfl ?_
              refine z_icmp_gt F 124 dX5_value_50 rfl (fun hc => ?_) (fun hc => ?_)
              · replace h := zif_t hc h
                refine z_iinc F [(2, .int (x2 + (1 : Int32))), (3, .int (v (zrf x0 0) (x2).toNatClampNeg)), (0, zr G x0), (1, .int x1)] dX5_value_124 3 rfl rfl (Nat.le_of_ble_eq_true rfl) rfl ?_
                refine z_goto F 4 dX5_value_127 rfl ?_
                refine z_ls [(0, zr G x0), (1, .int x1), (2, .int (x2 + (1 : Int32)))] [2, 3, 0] rfl ?_
                exact ih x0 t0 x1 (x2 + (1 : Int32)) v h
              · replace h := zif_f hc h
                refine z_aload_n F dX5_value_53 rfl 1 rfl ?_
                refine zg_5_1 F t0 wF_X5_15 dX5_value_54 ?_
                refine z_iload_n F dX5_value_57 rfl 2 rfl ?_
                refine z_iconst (y := (2 : Int32)) F dX5_value_58 rfl ?_
                refine z_isub F dX5_value_59 ?_
                refine z_iload_n F dX5_value_60 rfl 0 rfl ?_
                refine z_aload_n F dX5_value_61 rfl 1 rfl ?_
                refine zg_5_1 F t0 wF_X5_15 dX5_value_62 ?_
                refine z_iload_n F dX5_value_65 rfl 2 rfl ?_
                refine z_iconst (y := (2 : Int32)) F dX5_value_66 rfl ?_
                refine z_isub F dX5_value_67 ?_
                obtain ⟨hi68, h⟩ := zix_ex h
                refine z_iald F (zt_f tc_5_1 t0) dX5_value_68 hi68 ?_
                refine z_aload_n F dX5_value_69 rfl 1 rfl ?_
                refine zg_5_1 F t0 wF_X5_15 dX5_value_70 ?_
                refine z_iload_n F dX5_value_73 rfl 2 rfl ?_
                refine z_iconst (y := (1 : Int32)) F dX5_value_74 rfl ?_
                refine z_isub F dX5_value_75 ?_
                obtain ⟨hi76, h⟩ := zix_ex h
                refine z_iald F (zt_f tc_5_1 t0) dX5_value_76 hi76 ?_
                obtain ⟨r_2, v_1, hq77, h⟩ := zbind_ex h
                refine z_callSi F [.int (v (zrf x0 0) (x2).toNatClampNeg), .int (v (zrf x0 1) (x1 - (2 : Int32)).toNatClampNeg), .int (v (zrf x0 1) (x1 - (1 : Int32)).toNatClampNeg)] [.int (x1 - (2 : Int32)), zr G (zrf x0 1)] (kX5_join x.2.1 G (v (zrf x0 0) (x2).toNatClampNeg) (v (zrf x0 1) (x1 - (2 : Int32)).toNatClampNeg) (v (zrf x0 1) (x1 - (1 : Int32)).toNatClampNeg) v r_2 v_1 hq77) mI_X5_join wM_X5_116 ms_X5_join dX5_value_77 rfl ⟨Nat.le_of_ble_eq_true rfl, Nat.le_of_ble_eq_true rfl⟩ rfl (Nat.le_of_ble_eq_true rfl) ⟨Nat.zero_le _, Nat.zero_le _⟩ ?_
                obtain ⟨hi80, h⟩ := zix_ex h
                refine z_iast F (zt_f tc_5_1 t0) dX5_value_80 hi80 ?_
                obtain ⟨v_3, ev_3, h⟩ := zlet_ex h
                refine z_heap ev_3 ?_
                refine z_iinc F [(1, .int (x1 + (-1 : Int32))), (3, .int (v (zrf x0 0) (x2).toNatClampNeg)), (0, zr G x0), (2, .int x2)] dX5_value_81 2 rfl rfl (Nat.le_of_ble_eq_true rfl) rfl ?_
                refine z_goto F 124 dX5_value_84 rfl ?_
                refine z_iinc F [(2, .int (x2 + (1 : Int32))), (1, .int (x1 + (-1 : Int32))), (3, .int (v (zrf x0 0) (x2).toNatClampNeg)), (0, zr G x0)] dX5_value_124 3 rfl rfl (Nat.le_of_ble_eq_true rfl) rfl ?_
                refine z_goto F 4 dX5_value_127 rfl ?_
                refine z_ls [(0, zr G x0), (1, .int (x1 + (-1 : Int32))), (2, .int (x2 + (1 : Int32)))] [3, 1, 0] rfl ?_
                exact ih x0 t0 (x1 + (-1 : Int32)) (x2 + (1 : Int32)) v_3 h

def fX5_value (x0 : Nat) (v : zV) : Option (Int32 × zV) :=
  fX5_value_4  zFU x0 (0 : Int32) (0 : Int32) v
set_option maxRecDepth 4000 in
theorem kX5_value (l : Launch) (G : zG) (x0 : Nat) (t0 : zty G x0 1 5) (v : zV) (r : Int32) (w : zV) (h : fX5_value x0 v = some (r, w)) : zMet l yX5_value cX5_value 4 (Option.some FieldType.int) 2 102 0 0 [zr G x0] G v (some (.int r)) w := by
  refine zM_of (own := RX5) (by decide) rfl (Nat.le_of_ble_eq_true rfl) (fun x hl F hr hk hcs => ?_)
  subst hl
  refine z_ls [(0, zr G x0)] [0] rfl ?_
  unfold fX5_value at h
  refine z_iconst (y := (0 : Int32)) F dX5_value_0 rfl ?_
  refine z_istore_n F [(1, .int (0 : Int32)), (0, zr G x0)] dX5_value_1 rfl (Nat.le_of_ble_eq_true rfl) rfl ?_
  refine z_iconst (y := (0 : Int32)) F dX5_value_2 rfl ?_
  refine z_istore_n F [(2, .int (0 : Int32)), (1, .int (0 : Int32)), (0, zr G x0)] dX5_value_3 rfl (Nat.le_of_ble_eq_true rfl) rfl ?_
  refine z_ls [(0, zr G x0), (1, .int (0 : Int32)), (2, .int (0 : Int32))] [2, 1, 0] rfl ?_
  exact jX5_value_4 x G F hr hk r w   zFU x0 t0 (0 : Int32) (0 : Int32) v h

theorem dX1_copy_0 : decode cX1_copy 0 = .ok (.aload_n 0, 1) := by decide +kernel
theorem dX1_copy_1 : decode cX1_copy 1 = .ok (.aload_n 1, 1) := by decide +kernel
theorem dX1_copy_2 : decode cX1_copy 2 = .ok (.getfield 18, 3) := by decide +kernel
theorem dX1_copy_5 : decode cX1_copy 5 = .ok (.putfield 18, 3) := by decide +kernel
theorem dX1_copy_8 : decode cX1_copy 8 = .ok (.aload_n 1, 1) := by decide +kernel
theorem dX1_copy_9 : decode cX1_copy 9 = .ok (.getfield 9, 3) := by decide +kernel
theorem dX1_copy_12 : decode cX1_copy 12 = .ok (.iconst 0, 1) := by decide +kernel
theorem dX1_copy_13 : decode cX1_copy 13 = .ok (.aload_n 0, 1) := by decide +kernel
theorem dX1_copy_14 : decode cX1_copy 14 = .ok (.getfield 9, 3) := by decide +kernel
theorem dX1_copy_17 : decode cX1_copy 17 = .ok (.iconst 0, 1) := by decide +kernel
theorem dX1_copy_18 : decode cX1_copy 18 = .ok (.bipush 12, 2) := by decide +kernel
theorem dX1_copy_20 : decode cX1_copy 20 = .ok (.invokestatic 22, 3) := by decide +kernel
theorem dX1_copy_23 : decode cX1_copy 23 = .ok (.aload_n 1, 1) := by decide +kernel
theorem dX1_copy_24 : decode cX1_copy 24 = .ok (.getfield 15, 3) := by decide +kernel
theorem dX1_copy_27 : decode cX1_copy 27 = .ok (.iconst 0, 1) := by decide +kernel
theorem dX1_copy_28 : decode cX1_copy 28 = .ok (.aload_n 0, 1) := by decide +kernel
theorem dX1_copy_29 : decode cX1_copy 29 = .ok (.getfield 15, 3) := by decide +kernel
theorem dX1_copy_32 : decode cX1_copy 32 = .ok (.iconst 0, 1) := by decide +kernel
theorem dX1_copy_33 : decode cX1_copy 33 = .ok (.bipush 12, 2) := by decide +kernel
theorem dX1_copy_35 : decode cX1_copy 35 = .ok (.invokestatic 22, 3) := by decide +kernel
theorem dX1_copy_38 : decode cX1_copy 38 = .ok (.return_, 1) := by decide +kernel
def fX1_copy (x0 : Nat) (x1 : Nat) (v : zV) : Option zV :=
  zlet (zup v x0 0 (v x1 0)) fun v_1 =>
  zcpk (zrf x1 1) (zrf x0 1) (0 : Int32) (0 : Int32) (12 : Int32) <|
  zlet (zcp v_1 (zrf x1 1) (zrf x0 1) ((0 : Int32)).toNatClampNeg ((0 : Int32)).toNatClampNeg ((12 : Int32)).toNatClampNeg) fun v_2 =>
  zcpk (zrf x1 2) (zrf x0 2) (0 : Int32) (0 : Int32) (12 : Int32) <|
  zlet (zcp v_2 (zrf x1 2) (zrf x0 2) ((0 : Int32)).toNatClampNeg ((0 : Int32)).toNatClampNeg ((12 : Int32)).toNatClampNeg) fun v_3 =>
  some v_3
set_option maxRecDepth 4000 in
theorem kX1_copy (l : Launch) (G : zG) (x0 : Nat) (t0 : zty G x0 1 1) (x1 : Nat) (t1 : zty G x1 1 1) (v : zV) (w : zV) (h : fX1_copy x0 x1 v = some w) : zMet l yX1_copy cX1_copy 2 (Option.none : Option FieldType) 1 80 0 0 [zr G x0, zr G x1] G v none w := by
  refine zM_of (own := RX1) (by decide) rfl (Nat.le_of_ble_eq_true rfl) (fun x hl F hr hk hcs => ?_)
  subst hl
  refine z_ls [(0, zr G x0), (1, zr G x1)] [0, 1] rfl ?_
  unfold fX1_copy at h
  refine z_aload_n F dX1_copy_0 rfl 0 rfl ?_
  refine z_aload_n F dX1_copy_1 rfl 1 rfl ?_
  refine zg_1_0 F t1 wF_X1_18 dX1_copy_2 ?_
  refine zp_1_0 F t0 wF_X1_18 dX1_copy_5 ?_
  obtain ⟨v_1, ev_1, h⟩ := zlet_ex h
  refine z_heap ev_1 ?_
  refine z_aload_n F dX1_copy_8 rfl 1 rfl ?_
  refine zg_1_1 F t1 wF_X1_9 dX1_copy_9 ?_
  refine z_iconst (y := (0 : Int32)) F dX1_copy_12 rfl ?_
  refine z_aload_n F dX1_copy_13 rfl 0 rfl ?_
  refine zg_1_1 F t0 wF_X1_9 dX1_copy_14 ?_
  refine z_iconst (y := (0 : Int32)) F dX1_copy_17 rfl ?_
  refine z_bipush (y := (12 : Int32)) F dX1_copy_18 rfl ?_
  obtain ⟨hc20, h⟩ := zcpk_ex h
  refine z_copy F (zt_f tc_1_1 t1) (zt_f tc_1_1 t0) wM_X1_22 dX1_copy_20 hc20 (Nat.le_of_ble_eq_true rfl) (Nat.le_of_ble_eq_true rfl) (Nat.le_of_ble_eq_true rfl) ?_
  obtain ⟨v_2, ev_2, h⟩ := zlet_ex h
  refine z_heap ev_2 ?_
  refine z_aload_n F dX1_copy_23 rfl 1 rfl ?_
  refine zg_1_2 F t1 wF_X1_15 dX1_copy_24 ?_
  refine z_iconst (y := (0 : Int32)) F dX1_copy_27 rfl ?_
  refine z_aload_n F dX1_copy_28 rfl 0 rfl ?_
  refine zg_1_2 F t0 wF_X1_15 dX1_copy_29 ?_
  refine z_iconst (y := (0 : Int32)) F dX1_copy_32 rfl ?_
  refine z_bipush (y := (12 : Int32)) F dX1_copy_33 rfl ?_
  obtain ⟨hc35, h⟩ := zcpk_ex h
  refine z_copy F (zt_f tc_1_2 t1) (zt_f tc_1_2 t0) wM_X1_22 dX1_copy_35 hc35 (Nat.le_of_ble_eq_true rfl) (Nat.le_of_ble_eq_true rfl) (Nat.le_of_ble_eq_true rfl) ?_
  obtain ⟨v_3, ev_3, h⟩ := zlet_ex h
  refine z_heap ev_3 ?_
  cases h
  exact z_retv F hr hk dX1_copy_38

theorem dX1_readLine_0 : decode cX1_readLine 0 = .ok (.aload_n 1, 1) := by decide +kernel
theorem dX1_readLine_1 : decode cX1_readLine 1 = .ok (.invokevirtual 38, 3) := by decide +kernel
theorem dX1_readLine_4 : decode cX1_readLine 4 = .ok (.istore_n 3, 1) := by decide +kernel
theorem dX1_readLine_5 : decode cX1_readLine 5 = .ok (.aload_n 1, 1) := by decide +kernel
theorem dX1_readLine_6 : decode cX1_readLine 6 = .ok (.iconst 1, 1) := by decide +kernel
theorem dX1_readLine_7 : decode cX1_readLine 7 = .ok (.bipush 60, 2) := by decide +kernel
theorem dX1_readLine_9 : decode cX1_readLine 9 = .ok (.invokevirtual 41, 3) := by decide +kernel
theorem dX1_readLine_12 : decode cX1_readLine 12 = .ok (.istore 4, 2) := by decide +kernel
theorem dX1_readLine_14 : decode cX1_readLine 14 = .ok (.aload_n 0, 1) := by decide +kernel
theorem dX1_readLine_15 : decode cX1_readLine 15 = .ok (.getfield 18, 3) := by decide +kernel
theorem dX1_readLine_18 : decode cX1_readLine 18 = .ok (.bipush 12, 2) := by decide +kernel
theorem dX1_readLine_20 : decode cX1_readLine 20 = .ok (.if_icmp .lt 9, 3) := by decide +kernel
theorem dX1_readLine_23 : decode cX1_readLine 23 = .ok (.aload_n 1, 1) := by decide +kernel
theorem dX1_readLine_24 : decode cX1_readLine 24 = .ok (.iconst 3, 1) := by decide +kernel
theorem dX1_readLine_25 : decode cX1_readLine 25 = .ok (.iload_n 3, 1) := by decide +kernel
theorem dX1_readLine_26 : decode cX1_readLine 26 = .ok (.invokevirtual 45, 3) := by decide +kernel
theorem dX1_readLine_29 : decode cX1_readLine 29 = .ok (.iconst (-1), 1) := by decide +kernel
theorem dX1_readLine_30 : decode cX1_readLine 30 = .ok (.istore 5, 2) := by decide +kernel
theorem dX1_readLine_32 : decode cX1_readLine 32 = .ok (.aload_n 1, 1) := by decide +kernel
theorem dX1_readLine_33 : decode cX1_readLine 33 = .ok (.invokevirtual 49, 3) := by decide +kernel
theorem dX1_readLine_36 : decode cX1_readLine 36 = .ok (.ifCond .ne 16, 3) := by decide +kernel
theorem dX1_readLine_39 : decode cX1_readLine 39 = .ok (.aload_n 1, 1) := by decide +kernel
theorem dX1_readLine_40 : decode cX1_readLine 40 = .ok (.iconst 0, 1) := by decide +kernel
theorem dX1_readLine_41 : decode cX1_readLine 41 = .ok (.iload_n 2, 1) := by decide +kernel
theorem dX1_readLine_42 : decode cX1_readLine 42 = .ok (.iconst 1, 1) := by decide +kernel
theorem dX1_readLine_43 : decode cX1_readLine 43 = .ok (.isub, 1) := by decide +kernel
theorem dX1_readLine_44 : decode cX1_readLine 44 = .ok (.invokevirtual 41, 3) := by decide +kernel
theorem dX1_readLine_47 : decode cX1_readLine 47 = .ok (.istore 5, 2) := by decide +kernel
theorem dX1_readLine_49 : decode cX1_readLine 49 = .ok (.goto 16, 3) := by decide +kernel
theorem dX1_readLine_52 : decode cX1_readLine 52 = .ok (.aload_n 1, 1) := by decide +kernel
theorem dX1_readLine_53 : decode cX1_readLine 53 = .ok (.ldc 53, 2) := by decide +kernel
theorem dX1_readLine_55 : decode cX1_readLine 55 = .ok (.invokevirtual 55, 3) := by decide +kernel
theorem dX1_readLine_58 : decode cX1_readLine 58 = .ok (.ifCond .ne 7, 3) := by decide +kernel
theorem dX1_readLine_61 : decode cX1_readLine 61 = .ok (.aload_n 1, 1) := by decide +kernel
theorem dX1_readLine_62 : decode cX1_readLine 62 = .ok (.invokevirtual 59, 3) := by decide +kernel
theorem dX1_readLine_65 : decode cX1_readLine 65 = .ok (.aload_n 1, 1) := by decide +kernel
theorem dX1_readLine_66 : decode cX1_readLine 66 = .ok (.bipush 59, 2) := by decide +kernel
theorem dX1_readLine_68 : decode cX1_readLine 68 = .ok (.invokevirtual 62, 3) := by decide +kernel
theorem dX1_readLine_71 : decode cX1_readLine 71 = .ok (.aload_n 0, 1) := by decide +kernel
theorem dX1_readLine_72 : decode cX1_readLine 72 = .ok (.getfield 9, 3) := by decide +kernel
theorem dX1_readLine_75 : decode cX1_readLine 75 = .ok (.aload_n 0, 1) := by decide +kernel
theorem dX1_readLine_76 : decode cX1_readLine 76 = .ok (.getfield 18, 3) := by decide +kernel
theorem dX1_readLine_79 : decode cX1_readLine 79 = .ok (.iload 4, 2) := by decide +kernel
theorem dX1_readLine_81 : decode cX1_readLine 81 = .ok (.invokestatic 66, 3) := by decide +kernel
theorem dX1_readLine_84 : decode cX1_readLine 84 = .ok (.aload_n 0, 1) := by decide +kernel
theorem dX1_readLine_85 : decode cX1_readLine 85 = .ok (.getfield 15, 3) := by decide +kernel
theorem dX1_readLine_88 : decode cX1_readLine 88 = .ok (.aload_n 0, 1) := by decide +kernel
theorem dX1_readLine_89 : decode cX1_readLine 89 = .ok (.getfield 18, 3) := by decide +kernel
theorem dX1_readLine_92 : decode cX1_readLine 92 = .ok (.iload 5, 2) := by decide +kernel
theorem dX1_readLine_94 : decode cX1_readLine 94 = .ok (.invokestatic 66, 3) := by decide +kernel
theorem dX1_readLine_97 : decode cX1_readLine 97 = .ok (.aload_n 0, 1) := by decide +kernel
theorem dX1_readLine_98 : decode cX1_readLine 98 = .ok (.dup, 1) := by decide +kernel
theorem dX1_readLine_99 : decode cX1_readLine 99 = .ok (.getfield 18, 3) := by decide +kernel
theorem dX1_readLine_102 : decode cX1_readLine 102 = .ok (.iconst 1, 1) := by decide +kernel
theorem dX1_readLine_103 : decode cX1_readLine 103 = .ok (.iadd, 1) := by decide +kernel
theorem dX1_readLine_104 : decode cX1_readLine 104 = .ok (.putfield 18, 3) := by decide +kernel
theorem dX1_readLine_107 : decode cX1_readLine 107 = .ok (.return_, 1) := by decide +kernel
def fX1_readLine_65  (x0 : Nat) (x1 : Nat) (x4 : Int32) (x5 : Int32) (v : zV) : Option zV :=
  zbindv (fX8_sign x1 (59 : Int32) v) fun v_1 =>
  zbindv (fX9_set (zrf x0 1) (v_1 x0 0) x4 v_1) fun v_2 =>
  zbindv (fX9_set (zrf x0 2) (v_2 x0 0) x5 v_2) fun v_3 =>
  zlet (zup v_3 x0 0 ((v_3 x0 0) + (1 : Int32))) fun v_4 =>
  some v_4
set_option maxRecDepth 4000 in
theorem jX1_readLine_65 (x : zCx) (G : zG) (F : zF x G cX1_readLine 6 RX1 6 224) (hr : x.2.2.2.2.2.2.2.2.1.sig.returnType = (Option.none : Option FieldType)) (hk : x.2.2.2.2.2.2.2.2.1.locks = false) (w : zV)  : ∀ (x0 : Nat) (t0 : zty G x0 1 1) (x1 : Nat) (t1 : zty G x1 1 8) (x4 : Int32) (x5 : Int32) (v : zV), fX1_readLine_65 x0 x1 x4 x5 v = some w → zJ x G 6 (zQ x G none w 0 0) 0 0 65 [(0, zr G x0), (1, zr G x1), (4, .int x4), (5, .int x5)] [] v := by
  intro x0 t0 x1 t1 x4 x5 v h
  unfold fX1_readLine_65 at h
  refine z_aload_n F dX1_readLine_65 rfl 1 rfl ?_
  refine z_bipush (y := (59 : Int32)) F dX1_readLine_66 rfl ?_
  obtain ⟨v_1, hq68, h⟩ := zbindv_ex h
  refine z_callVv F [.int (59 : Int32)] [] (kX8_sign x.2.1 G x1 t1 (59 : Int32) v v_1 hq68) mI_X8_sign (c := 8) rfl t1 wM_X1_62 mi_X8_sign sl_X8_sign dX1_readLine_68 rfl ⟨Nat.le_of_ble_eq_true rfl, Nat.le_of_ble_eq_true rfl⟩ rfl (Nat.le_of_ble_eq_true rfl) ⟨Nat.zero_le _, Nat.zero_le _⟩ ?_
  refine z_aload_n F dX1_readLine_71 rfl 0 rfl ?_
  refine zg_1_1 F t0 wF_X1_9 dX1_readLine_72 ?_
  refine z_aload_n F dX1_readLine_75 rfl 0 rfl ?_
  refine zg_1_0 F t0 wF_X1_18 dX1_readLine_76 ?_
  refine z_iload F dX1_readLine_79 2 rfl ?_
  obtain ⟨v_2, hq81, h⟩ := zbindv_ex h
  refine z_callSNv F [zr G (zrf x0 1), .int (v_1 x0 0), .int x4] [] (kX9_set x.2.1 G (zrf x0 1) (zt_f tc_1_1 t0) (v_1 x0 0) x4 v_1 v_2 hq81) mI_X9_set wN_X1_66 ms_X9_set dX1_readLine_81 rfl ⟨Nat.le_of_ble_eq_true rfl, Nat.le_of_ble_eq_true rfl⟩ rfl (Nat.le_of_ble_eq_true rfl) ⟨Nat.zero_le _, Nat.zero_le _⟩ ?_
  refine z_aload_n F dX1_readLine_84 rfl 0 rfl ?_
  refine zg_1_2 F t0 wF_X1_15 dX1_readLine_85 ?_
  refine z_aload_n F dX1_readLine_88 rfl 0 rfl ?_
  refine zg_1_0 F t0 wF_X1_18 dX1_readLine_89 ?_
  refine z_iload F dX1_readLine_92 3 rfl ?_
  obtain ⟨v_3, hq94, h⟩ := zbindv_ex h
  refine z_callSNv F [zr G (zrf x0 2), .int (v_2 x0 0), .int x5] [] (kX9_set x.2.1 G (zrf x0 2) (zt_f tc_1_2 t0) (v_2 x0 0) x5 v_2 v_3 hq94) mI_X9_set wN_X1_66 ms_X9_set dX1_readLine_94 rfl ⟨Nat.le_of_ble_eq_true rfl, Nat.le_of_ble_eq_true rfl⟩ rfl (Nat.le_of_ble_eq_true rfl) ⟨Nat.zero_le _, Nat.zero_le _⟩ ?_
  refine z_aload_n F dX1_readLine_97 rfl 0 rfl ?_
  refine z_dup F dX1_readLine_98 rfl ?_
  refine zg_1_0 F t0 wF_X1_18 dX1_readLine_99 ?_
  refine z_iconst (y := (1 : Int32)) F dX1_readLine_102 rfl ?_
  refine z_iadd F dX1_readLine_103 ?_
  refine zp_1_0 F t0 wF_X1_18 dX1_readLine_104 ?_
  obtain ⟨v_4, ev_4, h⟩ := zlet_ex h
  refine z_heap ev_4 ?_
  cases h
  exact z_retv F hr hk dX1_readLine_107

def fX1_readLine_29  (x0 : Nat) (x1 : Nat) (x2 : Int32) (x4 : Int32) (v : zV) : Option zV :=
  zbind (fX8_looksAtLetter x1 v) fun r_2 v_1 =>
  if r_2 = (0 : Int32) then
    zbind (fX8_number x1 (0 : Int32) (x2 - (1 : Int32)) v_1) fun r_7 v_6 =>
    fX1_readLine_65  x0 x1 x4 r_7 v_6
  else
    zbind (fX8_takesWord x1 15 v_1) fun r_4 v_3 =>
    if r_4 = (0 : Int32) then
      zbindv (fX8_misfit x1 v_3) fun v_5 =>
      fX1_readLine_65  x0 x1 x4 (-1 : Int32) v_5
    else
      fX1_readLine_65  x0 x1 x4 (-1 : Int32) v_3
set_option maxRecDepth 4000 in
theorem jX1_readLine_29 (x : zCx) (G : zG) (F : zF x G cX1_readLine 6 RX1 6 224) (hr : x.2.2.2.2.2.2.2.2.1.sig.returnType = (Option.none : Option FieldType)) (hk : x.2.2.2.2.2.2.2.2.1.locks = false) (w : zV)  : ∀ (x0 : Nat) (t0 : zty G x0 1 1) (x1 : Nat) (t1 : zty G x1 1 8) (x2 : Int32) (x4 : Int32) (v : zV), fX1_readLine_29 x0 x1 x2 x4 v = some w → zJ x G 6 (zQ x G none w 0 0) 0 0 29 [(0, zr G x0), (1, zr G x1), (2, .int x2), (4, .int x4)] [] v := by
  intro x0 t0 x1 t1 x2 x4 v h
  unfold fX1_readLine_29 at h
  refine z_iconst (y := (-1 : Int32)) F dX1_readLine_29 rfl ?_
  refine z_istore (n := 0) F [(5, .int (-1 : Int32)), (0, zr G x0), (1, zr G x1), (2, .int x2), (4, .int x4)] dX1_readLine_30 (Nat.le_of_ble_eq_true rfl) rfl ?_
  refine z_aload_n F dX1_readLine_32 rfl 2 rfl ?_
  obtain ⟨r_2, v_1, hq33, h⟩ := zbind_ex h
  refine z_callVi F [] [] (kX8_looksAtLetter x.2.1 G x1 t1 v r_2 v_1 hq33) mI_X8_looksAtLetter (c := 8) rfl t1 wM_X1_49 mi_X8_looksAtLetter sl_X8_looksAtLetter dX1_readLine_33 rfl ⟨Nat.le_of_ble_eq_true rfl, Nat.le_of_ble_eq_true rfl⟩ rfl (Nat.le_of_ble_eq_true rfl) ⟨Nat.zero_le _, Nat.zero_le _⟩ ?_
  refine z_if_ne F 52 dX1_readLine_36 rfl (fun hc => ?_) (fun hc => ?_)
  · replace h := zif_f hc h
    refine z_aload_n F dX1_readLine_52 rfl 2 rfl ?_
    refine z_ldcs F 15 rfl (by decide) kS_X1_53 dX1_readLine_53 ?_
    obtain ⟨r_4, v_3, hq55, h⟩ := zbind_ex h
    refine z_callVi F [zs G 15] [] (kX8_takesWord x.2.1 G x1 t1 15 (by decide) v_1 r_4 v_3 hq55) mI_X8_takesWord (c := 8) rfl t1 wM_X1_55 mi_X8_takesWord sl_X8_takesWord dX1_readLine_55 rfl ⟨Nat.le_of_ble_eq_true rfl, Nat.le_of_ble_eq_true rfl⟩ rfl (Nat.le_of_ble_eq_true rfl) ⟨Nat.zero_le _, Nat.zero_le _⟩ ?_
    refine z_if_ne F 65 dX1_readLine_58 rfl (fun hc => ?_) (fun hc => ?_)
    · replace h := zif_f hc h
      refine z_ls [(0, zr G x0), (1, zr G x1), (4, .int x4), (5, .int (-1 : Int32))] [1, 2, 4, 0] rfl ?_
      exact jX1_readLine_65 x G F hr hk w   x0 t0 x1 t1 x4 (-1 : Int32) v_3 h
    · replace h := zif_t hc h
      refine z_aload_n F dX1_readLine_61 rfl 2 rfl ?_
      obtain ⟨v_5, hq62, h⟩ := zbindv_ex h
      refine z_callVv F [] [] (kX8_misfit x.2.1 G x1 t1 v_3 v_5 hq62) mI_X8_misfit (c := 8) rfl t1 wM_X1_59 mi_X8_misfit sl_X8_misfit dX1_readLine_62 rfl ⟨Nat.le_of_ble_eq_true rfl, Nat.le_of_ble_eq_true rfl⟩ rfl (Nat.le_of_ble_eq_true rfl) ⟨Nat.zero_le _, Nat.zero_le _⟩ ?_
      refine z_ls [(0, zr G x0), (1, zr G x1), (4, .int x4), (5, .int (-1 : Int32))] [1, 2, 4, 0] rfl ?_
      exact jX1_readLine_65 x G F hr hk w   x0 t0 x1 t1 x4 (-1 : Int32) v_5 h
  · replace h := zif_t hc h
    refine z_aload_n F dX1_readLine_39 rfl 2 rfl ?_
    refine z_iconst (y := (0 : Int32)) F dX1_readLine_40 rfl ?_
    refine z_iload_n F dX1_readLine_41 rfl 3 rfl ?_
    refine z_iconst (y := (1 : Int32)) F dX1_readLine_42 rfl ?_
    refine z_isub F dX1_readLine_43 ?_
    obtain ⟨r_7, v_6, hq44, h⟩ := zbind_ex h
    refine z_callVi F [.int (0 : Int32), .int (x2 - (1 : Int32))] [] (kX8_number x.2.1 G x1 t1 (0 : Int32) (x2 - (1 : Int32)) v_1 r_7 v_6 hq44) mI_X8_number (c := 8) rfl t1 wM_X1_41 mi_X8_number sl_X8_number dX1_readLine_44 rfl ⟨Nat.le_of_ble_eq_true rfl, Nat.le_of_ble_eq_true rfl⟩ rfl (Nat.le_of_ble_eq_true rfl) ⟨Nat.zero_le _, Nat.zero_le _⟩ ?_
    refine z_istore (n := 0) F [(5, .int r_7), (0, zr G x0), (1, zr G x1), (2, .int x2), (4, .int x4)] dX1_readLine_47 (Nat.le_of_ble_eq_true rfl) rfl ?_
    refine z_goto F 65 dX1_readLine_49 rfl ?_
    refine z_ls [(0, zr G x0), (1, zr G x1), (4, .int x4), (5, .int r_7)] [1, 2, 4, 0] rfl ?_
    exact jX1_readLine_65 x G F hr hk w   x0 t0 x1 t1 x4 r_7 v_6 h

def fX1_readLine (x0 : Nat) (x1 : Nat) (x2 : Int32) (v : zV) : Option zV :=
  zbind (fX8_lookAt x1 v) fun r_2 v_1 =>
  zbind (fX8_number x1 (1 : Int32) (60 : Int32) v_1) fun r_4 v_3 =>
  if (v_3 x0 0) < (12 : Int32) then
    fX1_readLine_29  x0 x1 x2 r_4 v_3
  else
    zbindv (fX8_fail x1 (3 : Int32) r_2 v_3) fun v_5 =>
    fX1_readLine_29  x0 x1 x2 r_4 v_5
set_option maxRecDepth 4000 in
theorem kX1_readLine (l : Launch) (G : zG) (x0 : Nat) (t0 : zty G x0 1 1) (x1 : Nat) (t1 : zty G x1 1 8) (x2 : Int32) (v : zV) (w : zV) (h : fX1_readLine x0 x1 x2 v = some w) : zMet l yX1_readLine cX1_readLine 6 (Option.none : Option FieldType) 6 224 0 0 [zr G x0, zr G x1, .int x2] G v none w := by
  refine zM_of (own := RX1) (by decide) rfl (Nat.le_of_ble_eq_true rfl) (fun x hl F hr hk hcs => ?_)
  subst hl
  refine z_ls [(0, zr G x0), (1, zr G x1), (2, .int x2)] [0, 1, 2] rfl ?_
  unfold fX1_readLine at h
  refine z_aload_n F dX1_readLine_0 rfl 1 rfl ?_
  obtain ⟨r_2, v_1, hq1, h⟩ := zbind_ex h
  refine z_callVi F [] [] (kX8_lookAt x.2.1 G x1 t1 v r_2 v_1 hq1) mI_X8_lookAt (c := 8) rfl t1 wM_X1_38 mi_X8_lookAt sl_X8_lookAt dX1_readLine_1 rfl ⟨Nat.le_of_ble_eq_true rfl, Nat.le_of_ble_eq_true rfl⟩ rfl (Nat.le_of_ble_eq_true rfl) ⟨Nat.zero_le _, Nat.zero_le _⟩ ?_
  refine z_istore_n F [(3, .int r_2), (0, zr G x0), (1, zr G x1), (2, .int x2)] dX1_readLine_4 rfl (Nat.le_of_ble_eq_true rfl) rfl ?_
  refine z_aload_n F dX1_readLine_5 rfl 2 rfl ?_
  refine z_iconst (y := (1 : Int32)) F dX1_readLine_6 rfl ?_
  refine z_bipush (y := (60 : Int32)) F dX1_readLine_7 rfl ?_
  obtain ⟨r_4, v_3, hq9, h⟩ := zbind_ex h
  refine z_callVi F [.int (1 : Int32), .int (60 : Int32)] [] (kX8_number x.2.1 G x1 t1 (1 : Int32) (60 : Int32) v_1 r_4 v_3 hq9) mI_X8_number (c := 8) rfl t1 wM_X1_41 mi_X8_number sl_X8_number dX1_readLine_9 rfl ⟨Nat.le_of_ble_eq_true rfl, Nat.le_of_ble_eq_true rfl⟩ rfl (Nat.le_of_ble_eq_true rfl) ⟨Nat.zero_le _, Nat.zero_le _⟩ ?_
  refine z_istore (n := 0) F [(4, .int r_4), (3, .int r_2), (0, zr G x0), (1, zr G x1), (2, .int x2)] dX1_readLine_12 (Nat.le_of_ble_eq_true rfl) rfl ?_
  refine z_aload_n F dX1_readLine_14 rfl 2 rfl ?_
  refine zg_1_0 F t0 wF_X1_18 dX1_readLine_15 ?_
  refine z_bipush (y := (12 : Int32)) F dX1_readLine_18 rfl ?_
  refine z_icmp_lt F 29 dX1_readLine_20 rfl (fun hc => ?_) (fun hc => ?_)
  · replace h := zif_t hc h
    refine z_ls [(0, zr G x0), (1, zr G x1), (2, .int x2), (4, .int r_4)] [2, 3, 4, 0] rfl ?_
    exact jX1_readLine_29 x G F hr hk w   x0 t0 x1 t1 x2 r_4 v_3 h
  · replace h := zif_f hc h
    refine z_aload_n F dX1_readLine_23 rfl 3 rfl ?_
    refine z_iconst (y := (3 : Int32)) F dX1_readLine_24 rfl ?_
    refine z_iload_n F dX1_readLine_25 rfl 1 rfl ?_
    obtain ⟨v_5, hq26, h⟩ := zbindv_ex h
    refine z_callVv F [.int (3 : Int32), .int r_2] [] (kX8_fail x.2.1 G x1 t1 (3 : Int32) r_2 v_3 v_5 hq26) mI_X8_fail (c := 8) rfl t1 wM_X1_45 mi_X8_fail sl_X8_fail dX1_readLine_26 rfl ⟨Nat.le_of_ble_eq_true rfl, Nat.le_of_ble_eq_true rfl⟩ rfl (Nat.le_of_ble_eq_true rfl) ⟨Nat.zero_le _, Nat.zero_le _⟩ ?_
    refine z_ls [(0, zr G x0), (1, zr G x1), (2, .int x2), (4, .int r_4)] [2, 3, 4, 0] rfl ?_
    exact jX1_readLine_29 x G F hr hk w   x0 t0 x1 t1 x2 r_4 v_5 h

theorem dX1_read_0 : decode cX1_read 0 = .ok (.aload_n 0, 1) := by decide +kernel
theorem dX1_read_1 : decode cX1_read 1 = .ok (.iconst 0, 1) := by decide +kernel
theorem dX1_read_2 : decode cX1_read 2 = .ok (.putfield 18, 3) := by decide +kernel
theorem dX1_read_5 : decode cX1_read 5 = .ok (.iconst 0, 1) := by decide +kernel
theorem dX1_read_6 : decode cX1_read 6 = .ok (.istore_n 3, 1) := by decide +kernel
theorem dX1_read_7 : decode cX1_read 7 = .ok (.iload_n 3, 1) := by decide +kernel
theorem dX1_read_8 : decode cX1_read 8 = .ok (.bipush 12, 2) := by decide +kernel
theorem dX1_read_10 : decode cX1_read 10 = .ok (.if_icmp .gt 23, 3) := by decide +kernel
theorem dX1_read_13 : decode cX1_read 13 = .ok (.aload_n 1, 1) := by decide +kernel
theorem dX1_read_14 : decode cX1_read 14 = .ok (.invokevirtual 28, 3) := by decide +kernel
theorem dX1_read_17 : decode cX1_read 17 = .ok (.iconst (-1), 1) := by decide +kernel
theorem dX1_read_18 : decode cX1_read 18 = .ok (.if_icmp .eq 15, 3) := by decide +kernel
theorem dX1_read_21 : decode cX1_read 21 = .ok (.aload_n 0, 1) := by decide +kernel
theorem dX1_read_22 : decode cX1_read 22 = .ok (.aload_n 1, 1) := by decide +kernel
theorem dX1_read_23 : decode cX1_read 23 = .ok (.iload_n 2, 1) := by decide +kernel
theorem dX1_read_24 : decode cX1_read 24 = .ok (.invokevirtual 34, 3) := by decide +kernel
theorem dX1_read_27 : decode cX1_read 27 = .ok (.iinc 3 1, 3) := by decide +kernel
theorem dX1_read_30 : decode cX1_read 30 = .ok (.goto (-23), 3) := by decide +kernel
theorem dX1_read_33 : decode cX1_read 33 = .ok (.return_, 1) := by decide +kernel
def fX1_read_7  : Nat → Nat → Nat → Int32 → Int32 → zV → Option zV
  | 0 => fun _ _ _ _ _ => none
  | n + 1 => fun x0 x1 x2 x3 v =>
    if (12 : Int32) < x3 then
      some v
    else
      zbind (fX8_look x1 v) fun r_2 v_1 =>
      if r_2 = (-1 : Int32) then
        some v_1
      else
        zbindv (fX1_readLine x0 x1 x2 v_1) fun v_3 =>
        (fX1_read_7 n) x0 x1 x2 (x3 + (1 : Int32)) v_3
set_option maxRecDepth 4000 in
theorem jX1_read_7 (x : zCx) (G : zG) (F : zF x G cX1_read 4 RX1 7 249) (hr : x.2.2.2.2.2.2.2.2.1.sig.returnType = (Option.none : Option FieldType)) (hk : x.2.2.2.2.2.2.2.2.1.locks = false) (w : zV)  : ∀ (n : Nat) (x0 : Nat) (t0 : zty G x0 1 1) (x1 : Nat) (t1 : zty G x1 1 8) (x2 : Int32) (x3 : Int32) (v : zV), fX1_read_7 n x0 x1 x2 x3 v = some w → zJ x G 4 (zQ x G none w 0 0) 0 0 7 [(0, zr G x0), (1, zr G x1), (2, .int x2), (3, .int x3)] [] v := by
  intro n
  induction n with
  | zero => intro x0 t0 x1 t1 x2 x3 v h; exact absurd h (by intro q; cases q)
  | succ n ih =>
    intro x0 t0 x1 t1 x2 x3 v h
    rw [fX1_read_7] at h
    dsimp only at h
    refine z_iload_n F dX1_read_7 rfl 3 rfl ?_
    refine z_bipush (y := (12 : Int32)) F dX1_read_8 rfl ?_
    refine z_icmp_gt F 33 dX1_read_10 rfl (fun hc => ?_) (fun hc => ?_)
    · replace h := zif_t hc h
      cases h
      exact z_retv F hr hk dX1_read_33
    · replace h := zif_f hc h
      refine z_aload_n F dX1_read_13 rfl 1 rfl ?_
      obtain ⟨r_2, v_1, hq14, h⟩ := zbind_ex h
      refine z_callVi F [] [] (kX8_look x.2.1 G x1 t1 v r_2 v_1 hq14) mI_X8_look (c := 8) rfl t1 wM_X1_28 mi_X8_look sl_X8_look dX1_read_14 rfl ⟨Nat.le_of_ble_eq_true rfl, Nat.le_of_ble_eq_true rfl⟩ rfl (Nat.le_of_ble_eq_true rfl) ⟨Nat.zero_le _, Nat.zero_le _⟩ ?_
      refine z_iconst (y := (-1 : Int32)) F dX1_read_17 rfl ?_
      refine z_icmp_eq F 33 dX1_read_18 rfl (fun hc => ?_) (fun hc => ?_)
      · replace h := zif_t hc h
        cases h
        exact z_retv F hr hk dX1_read_33
      · replace h := zif_f hc h
        refine z_aload_n F dX1_read_21 rfl 0 rfl ?_
        refine z_aload_n F dX1_read_22 rfl 1 rfl ?_
        refine z_iload_n F dX1_read_23 rfl 2 rfl ?_
        obtain ⟨v_3, hq24, h⟩ := zbindv_ex h
        refine z_callVv F [zr G x1, .int x2] [] (kX1_readLine x.2.1 G x0 t0 x1 t1 x2 v_1 v_3 hq24) mI_X1_readLine (c := 1) rfl t0 wM_X1_34 mi_X1_readLine sl_X1_readLine dX1_read_24 rfl ⟨Nat.le_of_ble_eq_true rfl, Nat.le_of_ble_eq_true rfl⟩ rfl (Nat.le_of_ble_eq_true rfl) ⟨Nat.zero_le _, Nat.zero_le _⟩ ?_
        refine z_iinc F [(3, .int (x3 + (1 : Int32))), (0, zr G x0), (1, zr G x1), (2, .int x2)] dX1_read_27 3 rfl rfl (Nat.le_of_ble_eq_true rfl) rfl ?_
        refine z_goto F 7 dX1_read_30 rfl ?_
        refine z_ls [(0, zr G x0), (1, zr G x1), (2, .int x2), (3, .int (x3 + (1 : Int32)))] [1, 2, 3, 0] rfl ?_
        exact ih x0 t0 x1 t1 x2 (x3 + (1 : Int32)) v_3 h

def fX1_read (x0 : Nat) (x1 : Nat) (x2 : Int32) (v : zV) : Option zV :=
  zlet (zup v x0 0 (0 : Int32)) fun v_1 =>
  fX1_read_7  zFU x0 x1 x2 (0 : Int32) v_1
set_option maxRecDepth 4000 in
theorem kX1_read (l : Launch) (G : zG) (x0 : Nat) (t0 : zty G x0 1 1) (x1 : Nat) (t1 : zty G x1 1 8) (x2 : Int32) (v : zV) (w : zV) (h : fX1_read x0 x1 x2 v = some w) : zMet l yX1_read cX1_read 4 (Option.none : Option FieldType) 7 249 0 0 [zr G x0, zr G x1, .int x2] G v none w := by
  refine zM_of (own := RX1) (by decide) rfl (Nat.le_of_ble_eq_true rfl) (fun x hl F hr hk hcs => ?_)
  subst hl
  refine z_ls [(0, zr G x0), (1, zr G x1), (2, .int x2)] [0, 1, 2] rfl ?_
  unfold fX1_read at h
  refine z_aload_n F dX1_read_0 rfl 0 rfl ?_
  refine z_iconst (y := (0 : Int32)) F dX1_read_1 rfl ?_
  refine zp_1_0 F t0 wF_X1_18 dX1_read_2 ?_
  obtain ⟨v_1, ev_1, h⟩ := zlet_ex h
  refine z_heap ev_1 ?_
  refine z_iconst (y := (0 : Int32)) F dX1_read_5 rfl ?_
  refine z_istore_n F [(3, .int (0 : Int32)), (0, zr G x0), (1, zr G x1), (2, .int x2)] dX1_read_6 rfl (Nat.le_of_ble_eq_true rfl) rfl ?_
  refine z_ls [(0, zr G x0), (1, zr G x1), (2, .int x2), (3, .int (0 : Int32))] [1, 2, 3, 0] rfl ?_
  exact jX1_read_7 x G F hr hk w   zFU x0 t0 x1 t1 x2 (0 : Int32) v_1 h

theorem dX1_lastYear_0 : decode cX1_lastYear 0 = .ok (.iconst 0, 1) := by decide +kernel
theorem dX1_lastYear_1 : decode cX1_lastYear 1 = .ok (.istore_n 1, 1) := by decide +kernel
theorem dX1_lastYear_2 : decode cX1_lastYear 2 = .ok (.iconst 0, 1) := by decide +kernel
theorem dX1_lastYear_3 : decode cX1_lastYear 3 = .ok (.istore_n 2, 1) := by decide +kernel
theorem dX1_lastYear_4 : decode cX1_lastYear 4 = .ok (.iload_n 2, 1) := by decide +kernel
theorem dX1_lastYear_5 : decode cX1_lastYear 5 = .ok (.aload_n 0, 1) := by decide +kernel
theorem dX1_lastYear_6 : decode cX1_lastYear 6 = .ok (.getfield 18, 3) := by decide +kernel
theorem dX1_lastYear_9 : decode cX1_lastYear 9 = .ok (.if_icmp .ge 22, 3) := by decide +kernel
theorem dX1_lastYear_12 : decode cX1_lastYear 12 = .ok (.iload_n 1, 1) := by decide +kernel
theorem dX1_lastYear_13 : decode cX1_lastYear 13 = .ok (.aload_n 0, 1) := by decide +kernel
theorem dX1_lastYear_14 : decode cX1_lastYear 14 = .ok (.getfield 9, 3) := by decide +kernel
theorem dX1_lastYear_17 : decode cX1_lastYear 17 = .ok (.iload_n 2, 1) := by decide +kernel
theorem dX1_lastYear_18 : decode cX1_lastYear 18 = .ok (.invokestatic 70, 3) := by decide +kernel
theorem dX1_lastYear_21 : decode cX1_lastYear 21 = .ok (.invokestatic 74, 3) := by decide +kernel
theorem dX1_lastYear_24 : decode cX1_lastYear 24 = .ok (.istore_n 1, 1) := by decide +kernel
theorem dX1_lastYear_25 : decode cX1_lastYear 25 = .ok (.iinc 2 1, 3) := by decide +kernel
theorem dX1_lastYear_28 : decode cX1_lastYear 28 = .ok (.goto (-24), 3) := by decide +kernel
theorem dX1_lastYear_31 : decode cX1_lastYear 31 = .ok (.iload_n 1, 1) := by decide +kernel
theorem dX1_lastYear_32 : decode cX1_lastYear 32 = .ok (.ireturn, 1) := by decide +kernel
def fX1_lastYear_4  : Nat → Nat → Int32 → Int32 → zV → Option (Int32 × zV)
  | 0 => fun _ _ _ _ => none
  | n + 1 => fun x0 x1 x2 v =>
    if (v x0 0) ≤ x2 then
      some (x1, v)
    else
      zbind (fX9_get (zrf x0 1) x2 v) fun r_2 v_1 =>
      (fX1_lastYear_4 n) x0 (zmax x1 r_2) (x2 + (1 : Int32)) v_1
set_option maxRecDepth 4000 in
theorem jX1_lastYear_4 (x : zCx) (G : zG) (F : zF x G cX1_lastYear 3 RX1 2 101) (hr : x.2.2.2.2.2.2.2.2.1.sig.returnType = (Option.some FieldType.int)) (hk : x.2.2.2.2.2.2.2.2.1.locks = false) (r : Int32) (w : zV)  : ∀ (n : Nat) (x0 : Nat) (t0 : zty G x0 1 1) (x1 : Int32) (x2 : Int32) (v : zV), fX1_lastYear_4 n x0 x1 x2 v = some (r, w) → zJ x G 3 (zQ x G (some (.int r)) w 0 0) 0 0 4 [(0, zr G x0), (1, .int x1), (2, .int x2)] [] v := by
  intro n
  induction n with
  | zero => intro x0 t0 x1 x2 v h; exact absurd h (by intro q; cases q)
  | succ n ih =>
    intro x0 t0 x1 x2 v h
    rw [fX1_lastYear_4] at h
    dsimp only at h
    refine z_iload_n F dX1_lastYear_4 rfl 2 rfl ?_
    refine z_aload_n F dX1_lastYear_5 rfl 0 rfl ?_
    refine zg_1_0 F t0 wF_X1_18 dX1_lastYear_6 ?_
    refine z_icmp_ge F 31 dX1_lastYear_9 rfl (fun hc => ?_) (fun hc => ?_)
    · replace h := zif_t hc h
      refine z_iload_n F dX1_lastYear_31 rfl 1 rfl ?_
      cases h
      exact z_reti F hr hk dX1_lastYear_32
    · replace h := zif_f hc h
      refine z_iload_n F dX1_lastYear_12 rfl 1 rfl ?_
      refine z_aload_n F dX1_lastYear_13 rfl 0 rfl ?_
      refine zg_1_1 F t0 wF_X1_9 dX1_lastYear_14 ?_
      refine z_iload_n F dX1_lastYear_17 rfl 2 rfl ?_
      obtain ⟨r_2, v_1, hq18, h⟩ := zbind_ex h
      refine z_callSNi F [zr G (zrf x0 1), .int x2] [.int x1] (kX9_get x.2.1 G (zrf x0 1) (zt_f tc_1_1 t0) x2 v r_2 v_1 hq18) mI_X9_get wN_X1_70 ms_X9_get dX1_lastYear_18 rfl ⟨Nat.le_of_ble_eq_true rfl, Nat.le_of_ble_eq_true rfl⟩ rfl (Nat.le_of_ble_eq_true rfl) ⟨Nat.zero_le _, Nat.zero_le _⟩ ?_
      refine z_max F wM_X1_74 dX1_lastYear_21 (Nat.le_of_ble_eq_true rfl) (Nat.le_of_ble_eq_true rfl) (Nat.le_of_ble_eq_true rfl) ⟨Nat.zero_le _, Nat.zero_le _⟩ ?_
      refine z_istore_n F [(1, .int (zmax x1 r_2)), (0, zr G x0), (2, .int x2)] dX1_lastYear_24 rfl (Nat.le_of_ble_eq_true rfl) rfl ?_
      refine z_iinc F [(2, .int (x2 + (1 : Int32))), (1, .int (zmax x1 r_2)), (0, zr G x0)] dX1_lastYear_25 2 rfl rfl (Nat.le_of_ble_eq_true rfl) rfl ?_
      refine z_goto F 4 dX1_lastYear_28 rfl ?_
      refine z_ls [(0, zr G x0), (1, .int (zmax x1 r_2)), (2, .int (x2 + (1 : Int32)))] [2, 1, 0] rfl ?_
      exact ih x0 t0 (zmax x1 r_2) (x2 + (1 : Int32)) v_1 h

def fX1_lastYear (x0 : Nat) (v : zV) : Option (Int32 × zV) :=
  fX1_lastYear_4  zFU x0 (0 : Int32) (0 : Int32) v
set_option maxRecDepth 4000 in
theorem kX1_lastYear (l : Launch) (G : zG) (x0 : Nat) (t0 : zty G x0 1 1) (v : zV) (r : Int32) (w : zV) (h : fX1_lastYear x0 v = some (r, w)) : zMet l yX1_lastYear cX1_lastYear 3 (Option.some FieldType.int) 2 101 0 0 [zr G x0] G v (some (.int r)) w := by
  refine zM_of (own := RX1) (by decide) rfl (Nat.le_of_ble_eq_true rfl) (fun x hl F hr hk hcs => ?_)
  subst hl
  refine z_ls [(0, zr G x0)] [0] rfl ?_
  unfold fX1_lastYear at h
  refine z_iconst (y := (0 : Int32)) F dX1_lastYear_0 rfl ?_
  refine z_istore_n F [(1, .int (0 : Int32)), (0, zr G x0)] dX1_lastYear_1 rfl (Nat.le_of_ble_eq_true rfl) rfl ?_
  refine z_iconst (y := (0 : Int32)) F dX1_lastYear_2 rfl ?_
  refine z_istore_n F [(2, .int (0 : Int32)), (1, .int (0 : Int32)), (0, zr G x0)] dX1_lastYear_3 rfl (Nat.le_of_ble_eq_true rfl) rfl ?_
  refine z_ls [(0, zr G x0), (1, .int (0 : Int32)), (2, .int (0 : Int32))] [2, 1, 0] rfl ?_
  exact jX1_lastYear_4 x G F hr hk r w   zFU x0 t0 (0 : Int32) (0 : Int32) v h

theorem dX1_allows_0 : decode cX1_allows 0 = .ok (.iconst 0, 1) := by decide +kernel
theorem dX1_allows_1 : decode cX1_allows 1 = .ok (.istore_n 3, 1) := by decide +kernel
theorem dX1_allows_2 : decode cX1_allows 2 = .ok (.iload_n 3, 1) := by decide +kernel
theorem dX1_allows_3 : decode cX1_allows 3 = .ok (.aload_n 0, 1) := by decide +kernel
theorem dX1_allows_4 : decode cX1_allows 4 = .ok (.getfield 18, 3) := by decide +kernel
theorem dX1_allows_7 : decode cX1_allows 7 = .ok (.if_icmp .ge 35, 3) := by decide +kernel
theorem dX1_allows_10 : decode cX1_allows 10 = .ok (.aload_n 0, 1) := by decide +kernel
theorem dX1_allows_11 : decode cX1_allows 11 = .ok (.getfield 9, 3) := by decide +kernel
theorem dX1_allows_14 : decode cX1_allows 14 = .ok (.iload_n 3, 1) := by decide +kernel
theorem dX1_allows_15 : decode cX1_allows 15 = .ok (.invokestatic 70, 3) := by decide +kernel
theorem dX1_allows_18 : decode cX1_allows 18 = .ok (.iload_n 1, 1) := by decide +kernel
theorem dX1_allows_19 : decode cX1_allows 19 = .ok (.if_icmp .ne 17, 3) := by decide +kernel
theorem dX1_allows_22 : decode cX1_allows 22 = .ok (.aload_n 0, 1) := by decide +kernel
theorem dX1_allows_23 : decode cX1_allows 23 = .ok (.getfield 15, 3) := by decide +kernel
theorem dX1_allows_26 : decode cX1_allows 26 = .ok (.iload_n 3, 1) := by decide +kernel
theorem dX1_allows_27 : decode cX1_allows 27 = .ok (.invokestatic 70, 3) := by decide +kernel
theorem dX1_allows_30 : decode cX1_allows 30 = .ok (.iload_n 2, 1) := by decide +kernel
theorem dX1_allows_31 : decode cX1_allows 31 = .ok (.if_icmp .eq 5, 3) := by decide +kernel
theorem dX1_allows_34 : decode cX1_allows 34 = .ok (.iconst 0, 1) := by decide +kernel
theorem dX1_allows_35 : decode cX1_allows 35 = .ok (.ireturn, 1) := by decide +kernel
theorem dX1_allows_36 : decode cX1_allows 36 = .ok (.iinc 3 1, 3) := by decide +kernel
theorem dX1_allows_39 : decode cX1_allows 39 = .ok (.goto (-37), 3) := by decide +kernel
theorem dX1_allows_42 : decode cX1_allows 42 = .ok (.iconst 1, 1) := by decide +kernel
theorem dX1_allows_43 : decode cX1_allows 43 = .ok (.ireturn, 1) := by decide +kernel
def fX1_allows_2  : Nat → Nat → Int32 → Int32 → Int32 → zV → Option (Int32 × zV)
  | 0 => fun _ _ _ _ _ => none
  | n + 1 => fun x0 x1 x2 x3 v =>
    if (v x0 0) ≤ x3 then
      some ((1 : Int32), v)
    else
      zbind (fX9_get (zrf x0 1) x3 v) fun r_2 v_1 =>
      if r_2 = x1 then
        zbind (fX9_get (zrf x0 2) x3 v_1) fun r_4 v_3 =>
        if r_4 = x2 then
          (fX1_allows_2 n) x0 x1 x2 (x3 + (1 : Int32)) v_3
        else
          some ((0 : Int32), v_3)
      else
        (fX1_allows_2 n) x0 x1 x2 (x3 + (1 : Int32)) v_1
set_option maxRecDepth 4000 in
theorem jX1_allows_2 (x : zCx) (G : zG) (F : zF x G cX1_allows 4 RX1 2 101) (hr : x.2.2.2.2.2.2.2.2.1.sig.returnType = (Option.some FieldType.boolean)) (hk : x.2.2.2.2.2.2.2.2.1.locks = false) (r : Int32) (w : zV)  : ∀ (n : Nat) (x0 : Nat) (t0 : zty G x0 1 1) (x1 : Int32) (x2 : Int32) (x3 : Int32) (v : zV), fX1_allows_2 n x0 x1 x2 x3 v = some (r, w) → zJ x G 4 (zQ x G (some (.int r)) w 0 0) 0 0 2 [(0, zr G x0), (1, .int x1), (2, .int x2), (3, .int x3)] [] v := by
  intro n
  induction n with
  | zero => intro x0 t0 x1 x2 x3 v h; exact absurd h (by intro q; cases q)
  | succ n ih =>
    intro x0 t0 x1 x2 x3 v h
    rw [fX1_allows_2] at h
    dsimp only at h
    refine z_iload_n F dX1_allows_2 rfl 3 rfl ?_
    refine z_aload_n F dX1_allows_3 rfl 0 rfl ?_
    refine zg_1_0 F t0 wF_X1_18 dX1_allows_4 ?_
    refine z_icmp_ge F 42 dX1_allows_7 rfl (fun hc => ?_) (fun hc => ?_)
    · replace h := zif_t hc h
      refine z_iconst (y := (1 : Int32)) F dX1_allows_42 rfl ?_
      cases h
      exact z_retz F hr hk rfl dX1_allows_43
    · replace h := zif_f hc h
      refine z_aload_n F dX1_allows_10 rfl 0 rfl ?_
      refine zg_1_1 F t0 wF_X1_9 dX1_allows_11 ?_
      refine z_iload_n F dX1_allows_14 rfl 3 rfl ?_
      obtain ⟨r_2, v_1, hq15, h⟩ := zbind_ex h
      refine z_callSNi F [zr G (zrf x0 1), .int x3] [] (kX9_get x.2.1 G (zrf x0 1) (zt_f tc_1_1 t0) x3 v r_2 v_1 hq15) mI_X9_get wN_X1_70 ms_X9_get dX1_allows_15 rfl ⟨Nat.le_of_ble_eq_true rfl, Nat.le_of_ble_eq_true rfl⟩ rfl (Nat.le_of_ble_eq_true rfl) ⟨Nat.zero_le _, Nat.zero_le _⟩ ?_
      refine z_iload_n F dX1_allows_18 rfl 1 rfl ?_
      refine z_icmp_ne F 36 dX1_allows_19 rfl (fun hc => ?_) (fun hc => ?_)
      · replace h := zif_f hc h
        refine z_iinc F [(3, .int (x3 + (1 : Int32))), (0, zr G x0), (1, .int x1), (2, .int x2)] dX1_allows_36 3 rfl rfl (Nat.le_of_ble_eq_true rfl) rfl ?_
        refine z_goto F 2 dX1_allows_39 rfl ?_
        refine z_ls [(0, zr G x0), (1, .int x1), (2, .int x2), (3, .int (x3 + (1 : Int32)))] [1, 2, 3, 0] rfl ?_
        exact ih x0 t0 x1 x2 (x3 + (1 : Int32)) v_1 h
      · replace h := zif_t hc h
        refine z_aload_n F dX1_allows_22 rfl 0 rfl ?_
        refine zg_1_2 F t0 wF_X1_15 dX1_allows_23 ?_
        refine z_iload_n F dX1_allows_26 rfl 3 rfl ?_
        obtain ⟨r_4, v_3, hq27, h⟩ := zbind_ex h
        refine z_callSNi F [zr G (zrf x0 2), .int x3] [] (kX9_get x.2.1 G (zrf x0 2) (zt_f tc_1_2 t0) x3 v_1 r_4 v_3 hq27) mI_X9_get wN_X1_70 ms_X9_get dX1_allows_27 rfl ⟨Nat.le_of_ble_eq_true rfl, Nat.le_of_ble_eq_true rfl⟩ rfl (Nat.le_of_ble_eq_true rfl) ⟨Nat.zero_le _, Nat.zero_le _⟩ ?_
        refine z_iload_n F dX1_allows_30 rfl 2 rfl ?_
        refine z_icmp_eq F 36 dX1_allows_31 rfl (fun hc => ?_) (fun hc => ?_)
        · replace h := zif_t hc h
          refine z_iinc F [(3, .int (x3 + (1 : Int32))), (0, zr G x0), (1, .int x1), (2, .int x2)] dX1_allows_36 3 rfl rfl (Nat.le_of_ble_eq_true rfl) rfl ?_
          refine z_goto F 2 dX1_allows_39 rfl ?_
          refine z_ls [(0, zr G x0), (1, .int x1), (2, .int x2), (3, .int (x3 + (1 : Int32)))] [1, 2, 3, 0] rfl ?_
          exact ih x0 t0 x1 x2 (x3 + (1 : Int32)) v_3 h
        · replace h := zif_f hc h
          refine z_iconst (y := (0 : Int32)) F dX1_allows_34 rfl ?_
          cases h
          exact z_retz F hr hk rfl dX1_allows_35

def fX1_allows (x0 : Nat) (x1 : Int32) (x2 : Int32) (v : zV) : Option (Int32 × zV) :=
  fX1_allows_2  zFU x0 x1 x2 (0 : Int32) v
set_option maxRecDepth 4000 in
theorem kX1_allows (l : Launch) (G : zG) (x0 : Nat) (t0 : zty G x0 1 1) (x1 : Int32) (x2 : Int32) (v : zV) (r : Int32) (w : zV) (h : fX1_allows x0 x1 x2 v = some (r, w)) : zMet l yX1_allows cX1_allows 4 (Option.some FieldType.boolean) 2 101 0 0 [zr G x0, .int x1, .int x2] G v (some (.int r)) w := by
  refine zM_of (own := RX1) (by decide) rfl (Nat.le_of_ble_eq_true rfl) (fun x hl F hr hk hcs => ?_)
  subst hl
  refine z_ls [(0, zr G x0), (1, .int x1), (2, .int x2)] [0, 1, 2] rfl ?_
  unfold fX1_allows at h
  refine z_iconst (y := (0 : Int32)) F dX1_allows_0 rfl ?_
  refine z_istore_n F [(3, .int (0 : Int32)), (0, zr G x0), (1, .int x1), (2, .int x2)] dX1_allows_1 rfl (Nat.le_of_ble_eq_true rfl) rfl ?_
  refine z_ls [(0, zr G x0), (1, .int x1), (2, .int x2), (3, .int (0 : Int32))] [1, 2, 3, 0] rfl ?_
  exact jX1_allows_2 x G F hr hk r w   zFU x0 t0 x1 x2 (0 : Int32) v h

theorem dX2_agreeAcross_0 : decode cX2_agreeAcross 0 = .ok (.iload_n 2, 1) := by decide +kernel
theorem dX2_agreeAcross_1 : decode cX2_agreeAcross 1 = .ok (.ifCond .le 37, 3) := by decide +kernel
theorem dX2_agreeAcross_4 : decode cX2_agreeAcross 4 = .ok (.iload_n 2, 1) := by decide +kernel
theorem dX2_agreeAcross_5 : decode cX2_agreeAcross 5 = .ok (.aload_n 1, 1) := by decide +kernel
theorem dX2_agreeAcross_6 : decode cX2_agreeAcross 6 = .ok (.getfield 72, 3) := by decide +kernel
theorem dX2_agreeAcross_9 : decode cX2_agreeAcross 9 = .ok (.if_icmp .ge 29, 3) := by decide +kernel
theorem dX2_agreeAcross_12 : decode cX2_agreeAcross 12 = .ok (.aload_n 0, 1) := by decide +kernel
theorem dX2_agreeAcross_13 : decode cX2_agreeAcross 13 = .ok (.getfield 15, 3) := by decide +kernel
theorem dX2_agreeAcross_16 : decode cX2_agreeAcross 16 = .ok (.aload_n 1, 1) := by decide +kernel
theorem dX2_agreeAcross_17 : decode cX2_agreeAcross 17 = .ok (.iload_n 2, 1) := by decide +kernel
theorem dX2_agreeAcross_18 : decode cX2_agreeAcross 18 = .ok (.iconst 1, 1) := by decide +kernel
theorem dX2_agreeAcross_19 : decode cX2_agreeAcross 19 = .ok (.isub, 1) := by decide +kernel
theorem dX2_agreeAcross_20 : decode cX2_agreeAcross 20 = .ok (.invokevirtual 116, 3) := by decide +kernel
theorem dX2_agreeAcross_23 : decode cX2_agreeAcross 23 = .ok (.aload_n 1, 1) := by decide +kernel
theorem dX2_agreeAcross_24 : decode cX2_agreeAcross 24 = .ok (.iload_n 2, 1) := by decide +kernel
theorem dX2_agreeAcross_25 : decode cX2_agreeAcross 25 = .ok (.invokevirtual 116, 3) := by decide +kernel
theorem dX2_agreeAcross_28 : decode cX2_agreeAcross 28 = .ok (.invokevirtual 119, 3) := by decide +kernel
theorem dX2_agreeAcross_31 : decode cX2_agreeAcross 31 = .ok (.ifCond .eq 7, 3) := by decide +kernel
theorem dX2_agreeAcross_34 : decode cX2_agreeAcross 34 = .ok (.iconst 1, 1) := by decide +kernel
theorem dX2_agreeAcross_35 : decode cX2_agreeAcross 35 = .ok (.goto 4, 3) := by decide +kernel
theorem dX2_agreeAcross_38 : decode cX2_agreeAcross 38 = .ok (.iconst 0, 1) := by decide +kernel
theorem dX2_agreeAcross_39 : decode cX2_agreeAcross 39 = .ok (.ireturn, 1) := by decide +kernel
def fX2_agreeAcross (x0 : Nat) (x1 : Nat) (x2 : Int32) (v : zV) : Option (Int32 × zV) :=
  if x2 ≤ (0 : Int32) then
    some ((0 : Int32), v)
  else
    if (v x1 1) ≤ x2 then
      some ((0 : Int32), v)
    else
      zbind (fX7_onChair x1 (x2 - (1 : Int32)) v) fun r_2 v_1 =>
      zbind (fX7_onChair x1 x2 v_1) fun r_4 v_3 =>
      zbind (fX0_believeTheSame (zrf x0 0) r_2 r_4 v_3) fun r_6 v_5 =>
      if r_6 = (0 : Int32) then
        some ((0 : Int32), v_5)
      else
        some ((1 : Int32), v_5)
set_option maxRecDepth 4000 in
theorem kX2_agreeAcross (l : Launch) (G : zG) (x0 : Nat) (t0 : zty G x0 1 2) (x1 : Nat) (t1 : zty G x1 1 7) (x2 : Int32) (v : zV) (r : Int32) (w : zV) (h : fX2_agreeAcross x0 x1 x2 v = some (r, w)) : zMet l yX2_agreeAcross cX2_agreeAcross 3 (Option.some FieldType.boolean) 3 123 0 0 [zr G x0, zr G x1, .int x2] G v (some (.int r)) w := by
  refine zM_of (own := RX2) (by decide) rfl (Nat.le_of_ble_eq_true rfl) (fun x hl F hr hk hcs => ?_)
  subst hl
  refine z_ls [(0, zr G x0), (1, zr G x1), (2, .int x2)] [0, 1, 2] rfl ?_
  unfold fX2_agreeAcross at h
  refine z_iload_n F dX2_agreeAcross_0 rfl 2 rfl ?_
  refine z_if_le F 38 dX2_agreeAcross_1 rfl (fun hc => ?_) (fun hc => ?_)
  · replace h := zif_t hc h
    refine z_iconst (y := (0 : Int32)) F dX2_agreeAcross_38 rfl ?_
    cases h
    exact z_retz F hr hk rfl dX2_agreeAcross_39
  · replace h := zif_f hc h
    refine z_iload_n F dX2_agreeAcross_4 rfl 2 rfl ?_
    refine z_aload_n F dX2_agreeAcross_5 rfl 1 rfl ?_
    refine zg_7_1 F t1 wF_X2_72 dX2_agreeAcross_6 ?_
    refine z_icmp_ge F 38 dX2_agreeAcross_9 rfl (fun hc => ?_) (fun hc => ?_)
    · replace h := zif_t hc h
      refine z_iconst (y := (0 : Int32)) F dX2_agreeAcross_38 rfl ?_
      cases h
      exact z_retz F hr hk rfl dX2_agreeAcross_39
    · replace h := zif_f hc h
      refine z_aload_n F dX2_agreeAcross_12 rfl 0 rfl ?_
      refine zg_2_0 F t0 wF_X2_15 dX2_agreeAcross_13 ?_
      refine z_aload_n F dX2_agreeAcross_16 rfl 1 rfl ?_
      refine z_iload_n F dX2_agreeAcross_17 rfl 2 rfl ?_
      refine z_iconst (y := (1 : Int32)) F dX2_agreeAcross_18 rfl ?_
      refine z_isub F dX2_agreeAcross_19 ?_
      obtain ⟨r_2, v_1, hq20, h⟩ := zbind_ex h
      refine z_callVi F [.int (x2 - (1 : Int32))] [zr G (zrf x0 0)] (kX7_onChair x.2.1 G x1 t1 (x2 - (1 : Int32)) v r_2 v_1 hq20) mI_X7_onChair (c := 7) rfl t1 wM_X2_116 mi_X7_onChair sl_X7_onChair dX2_agreeAcross_20 rfl ⟨Nat.le_of_ble_eq_true rfl, Nat.le_of_ble_eq_true rfl⟩ rfl (Nat.le_of_ble_eq_true rfl) ⟨Nat.zero_le _, Nat.zero_le _⟩ ?_
      refine z_aload_n F dX2_agreeAcross_23 rfl 1 rfl ?_
      refine z_iload_n F dX2_agreeAcross_24 rfl 2 rfl ?_
      obtain ⟨r_4, v_3, hq25, h⟩ := zbind_ex h
      refine z_callVi F [.int x2] [.int r_2, zr G (zrf x0 0)] (kX7_onChair x.2.1 G x1 t1 x2 v_1 r_4 v_3 hq25) mI_X7_onChair (c := 7) rfl t1 wM_X2_116 mi_X7_onChair sl_X7_onChair dX2_agreeAcross_25 rfl ⟨Nat.le_of_ble_eq_true rfl, Nat.le_of_ble_eq_true rfl⟩ rfl (Nat.le_of_ble_eq_true rfl) ⟨Nat.zero_le _, Nat.zero_le _⟩ ?_
      obtain ⟨r_6, v_5, hq28, h⟩ := zbind_ex h
      refine z_callVi F [.int r_2, .int r_4] [] (kX0_believeTheSame x.2.1 G (zrf x0 0) (zt_f tc_2_0 t0) r_2 r_4 v_3 r_6 v_5 hq28) mI_X0_believeTheSame (c := 0) rfl (zt_f tc_2_0 t0) wM_X2_119 mi_X0_believeTheSame sl_X0_believeTheSame dX2_agreeAcross_28 rfl ⟨Nat.le_of_ble_eq_true rfl, Nat.le_of_ble_eq_true rfl⟩ rfl (Nat.le_of_ble_eq_true rfl) ⟨Nat.zero_le _, Nat.zero_le _⟩ ?_
      refine z_if_eq F 38 dX2_agreeAcross_31 rfl (fun hc => ?_) (fun hc => ?_)
      · replace h := zif_t hc h
        refine z_iconst (y := (0 : Int32)) F dX2_agreeAcross_38 rfl ?_
        cases h
        exact z_retz F hr hk rfl dX2_agreeAcross_39
      · replace h := zif_f hc h
        refine z_iconst (y := (1 : Int32)) F dX2_agreeAcross_34 rfl ?_
        refine z_goto F 39 dX2_agreeAcross_35 rfl ?_
        cases h
        exact z_retz F hr hk rfl dX2_agreeAcross_39

theorem dX2_kill_0 : decode cX2_kill 0 = .ok (.aload_n 1, 1) := by decide +kernel
theorem dX2_kill_1 : decode cX2_kill 1 = .ok (.iload_n 2, 1) := by decide +kernel
theorem dX2_kill_2 : decode cX2_kill 2 = .ok (.invokevirtual 96, 3) := by decide +kernel
theorem dX2_kill_5 : decode cX2_kill 5 = .ok (.ifCond .ne 5, 3) := by decide +kernel
theorem dX2_kill_8 : decode cX2_kill 8 = .ok (.iconst 0, 1) := by decide +kernel
theorem dX2_kill_9 : decode cX2_kill 9 = .ok (.ireturn, 1) := by decide +kernel
theorem dX2_kill_10 : decode cX2_kill 10 = .ok (.aload_n 1, 1) := by decide +kernel
theorem dX2_kill_11 : decode cX2_kill 11 = .ok (.iload_n 2, 1) := by decide +kernel
theorem dX2_kill_12 : decode cX2_kill 12 = .ok (.invokevirtual 99, 3) := by decide +kernel
theorem dX2_kill_15 : decode cX2_kill 15 = .ok (.istore_n 3, 1) := by decide +kernel
theorem dX2_kill_16 : decode cX2_kill 16 = .ok (.aload_n 1, 1) := by decide +kernel
theorem dX2_kill_17 : decode cX2_kill 17 = .ok (.getfield 103, 3) := by decide +kernel
theorem dX2_kill_20 : decode cX2_kill 20 = .ok (.iload_n 2, 1) := by decide +kernel
theorem dX2_kill_21 : decode cX2_kill 21 = .ok (.iconst 3, 1) := by decide +kernel
theorem dX2_kill_22 : decode cX2_kill 22 = .ok (.invokestatic 92, 3) := by decide +kernel
theorem dX2_kill_25 : decode cX2_kill 25 = .ok (.aload_n 1, 1) := by decide +kernel
theorem dX2_kill_26 : decode cX2_kill 26 = .ok (.dup, 1) := by decide +kernel
theorem dX2_kill_27 : decode cX2_kill 27 = .ok (.getfield 106, 3) := by decide +kernel
theorem dX2_kill_30 : decode cX2_kill 30 = .ok (.iconst 1, 1) := by decide +kernel
theorem dX2_kill_31 : decode cX2_kill 31 = .ok (.iadd, 1) := by decide +kernel
theorem dX2_kill_32 : decode cX2_kill 32 = .ok (.putfield 106, 3) := by decide +kernel
theorem dX2_kill_35 : decode cX2_kill 35 = .ok (.aload_n 1, 1) := by decide +kernel
theorem dX2_kill_36 : decode cX2_kill 36 = .ok (.iload_n 3, 1) := by decide +kernel
theorem dX2_kill_37 : decode cX2_kill 37 = .ok (.invokevirtual 109, 3) := by decide +kernel
theorem dX2_kill_40 : decode cX2_kill 40 = .ok (.iconst 1, 1) := by decide +kernel
theorem dX2_kill_41 : decode cX2_kill 41 = .ok (.istore 4, 2) := by decide +kernel
theorem dX2_kill_43 : decode cX2_kill 43 = .ok (.iconst 0, 1) := by decide +kernel
theorem dX2_kill_44 : decode cX2_kill 44 = .ok (.istore 5, 2) := by decide +kernel
theorem dX2_kill_46 : decode cX2_kill 46 = .ok (.iload 5, 2) := by decide +kernel
theorem dX2_kill_48 : decode cX2_kill 48 = .ok (.bipush 12, 2) := by decide +kernel
theorem dX2_kill_50 : decode cX2_kill 50 = .ok (.if_icmp .ge 26, 3) := by decide +kernel
theorem dX2_kill_53 : decode cX2_kill 53 = .ok (.aload_n 0, 1) := by decide +kernel
theorem dX2_kill_54 : decode cX2_kill 54 = .ok (.aload_n 1, 1) := by decide +kernel
theorem dX2_kill_55 : decode cX2_kill 55 = .ok (.iload_n 3, 1) := by decide +kernel
theorem dX2_kill_56 : decode cX2_kill 56 = .ok (.invokevirtual 112, 3) := by decide +kernel
theorem dX2_kill_59 : decode cX2_kill 59 = .ok (.ifCond .eq 17, 3) := by decide +kernel
theorem dX2_kill_62 : decode cX2_kill 62 = .ok (.aload_n 1, 1) := by decide +kernel
theorem dX2_kill_63 : decode cX2_kill 63 = .ok (.iload_n 3, 1) := by decide +kernel
theorem dX2_kill_64 : decode cX2_kill 64 = .ok (.invokevirtual 78, 3) := by decide +kernel
theorem dX2_kill_67 : decode cX2_kill 67 = .ok (.iinc 4 1, 3) := by decide +kernel
theorem dX2_kill_70 : decode cX2_kill 70 = .ok (.iinc 5 1, 3) := by decide +kernel
theorem dX2_kill_73 : decode cX2_kill 73 = .ok (.goto (-27), 3) := by decide +kernel
theorem dX2_kill_76 : decode cX2_kill 76 = .ok (.iload 4, 2) := by decide +kernel
theorem dX2_kill_78 : decode cX2_kill 78 = .ok (.ireturn, 1) := by decide +kernel
def fX2_kill_46  : Nat → Nat → Nat → Int32 → Int32 → Int32 → zV → Option (Int32 × zV)
  | 0 => fun _ _ _ _ _ _ => none
  | n + 1 => fun x0 x1 x3 x4 x5 v =>
    if (12 : Int32) ≤ x5 then
      some (x4, v)
    else
      zbind (fX2_agreeAcross x0 x1 x3 v) fun r_2 v_1 =>
      if r_2 = (0 : Int32) then
        some (x4, v_1)
      else
        zbindv (fX7_leave x1 x3 v_1) fun v_3 =>
        (fX2_kill_46 n) x0 x1 x3 (x4 + (1 : Int32)) (x5 + (1 : Int32)) v_3
set_option maxRecDepth 4000 in
theorem jX2_kill_46 (x : zCx) (G : zG) (F : zF x G cX2_kill 6 RX2 4 145) (hr : x.2.2.2.2.2.2.2.2.1.sig.returnType = (Option.some FieldType.int)) (hk : x.2.2.2.2.2.2.2.2.1.locks = false) (r : Int32) (w : zV)  : ∀ (n : Nat) (x0 : Nat) (t0 : zty G x0 1 2) (x1 : Nat) (t1 : zty G x1 1 7) (x3 : Int32) (x4 : Int32) (x5 : Int32) (v : zV), fX2_kill_46 n x0 x1 x3 x4 x5 v = some (r, w) → zJ x G 6 (zQ x G (some (.int r)) w 0 0) 0 0 46 [(0, zr G x0), (1, zr G x1), (3, .int x3), (4, .int x4), (5, .int x5)] [] v := by
  intro n
  induction n with
  | zero => intro x0 t0 x1 t1 x3 x4 x5 v h; exact absurd h (by intro q; cases q)
  | succ n ih =>
    intro x0 t0 x1 t1 x3 x4 x5 v h
    rw [fX2_kill_46] at h
    dsimp only at h
    refine z_iload F dX2_kill_46 4 rfl ?_
    refine z_bipush (y := (12 : Int32)) F dX2_kill_48 rfl ?_
    refine z_icmp_ge F 76 dX2_kill_50 rfl (fun hc => ?_) (fun hc => ?_)
    · replace h := zif_t hc h
      refine z_iload F dX2_kill_76 3 rfl ?_
      cases h
      exact z_reti F hr hk dX2_kill_78
    · replace h := zif_f hc h
      refine z_aload_n F dX2_kill_53 rfl 0 rfl ?_
      refine z_aload_n F dX2_kill_54 rfl 1 rfl ?_
      refine z_iload_n F dX2_kill_55 rfl 2 rfl ?_
      obtain ⟨r_2, v_1, hq56, h⟩ := zbind_ex h
      refine z_callVi F [zr G x1, .int x3] [] (kX2_agreeAcross x.2.1 G x0 t0 x1 t1 x3 v r_2 v_1 hq56) mI_X2_agreeAcross (c := 2) rfl t0 wM_X2_112 mi_X2_agreeAcross sl_X2_agreeAcross dX2_kill_56 rfl ⟨Nat.le_of_ble_eq_true rfl, Nat.le_of_ble_eq_true rfl⟩ rfl (Nat.le_of_ble_eq_true rfl) ⟨Nat.zero_le _, Nat.zero_le _⟩ ?_
      refine z_if_eq F 76 dX2_kill_59 rfl (fun hc => ?_) (fun hc => ?_)
      · replace h := zif_t hc h
        refine z_iload F dX2_kill_76 3 rfl ?_
        cases h
        exact z_reti F hr hk dX2_kill_78
      · replace h := zif_f hc h
        refine z_aload_n F dX2_kill_62 rfl 1 rfl ?_
        refine z_iload_n F dX2_kill_63 rfl 2 rfl ?_
        obtain ⟨v_3, hq64, h⟩ := zbindv_ex h
        refine z_callVv F [.int x3] [] (kX7_leave x.2.1 G x1 t1 x3 v_1 v_3 hq64) mI_X7_leave (c := 7) rfl t1 wM_X2_78 mi_X7_leave sl_X7_leave dX2_kill_64 rfl ⟨Nat.le_of_ble_eq_true rfl, Nat.le_of_ble_eq_true rfl⟩ rfl (Nat.le_of_ble_eq_true rfl) ⟨Nat.zero_le _, Nat.zero_le _⟩ ?_
        refine z_iinc F [(4, .int (x4 + (1 : Int32))), (0, zr G x0), (1, zr G x1), (3, .int x3), (5, .int x5)] dX2_kill_67 3 rfl rfl (Nat.le_of_ble_eq_true rfl) rfl ?_
        refine z_iinc F [(5, .int (x5 + (1 : Int32))), (4, .int (x4 + (1 : Int32))), (0, zr G x0), (1, zr G x1), (3, .int x3)] dX2_kill_70 4 rfl rfl (Nat.le_of_ble_eq_true rfl) rfl ?_
        refine z_goto F 46 dX2_kill_73 rfl ?_
        refine z_ls [(0, zr G x0), (1, zr G x1), (3, .int x3), (4, .int (x4 + (1 : Int32))), (5, .int (x5 + (1 : Int32)))] [2, 3, 4, 1, 0] rfl ?_
        exact ih x0 t0 x1 t1 x3 (x4 + (1 : Int32)) (x5 + (1 : Int32)) v_3 h

def fX2_kill (x0 : Nat) (x1 : Nat) (x2 : Int32) (v : zV) : Option (Int32 × zV) :=
  zbind (fX7_isAlive x1 x2 v) fun r_2 v_1 =>
  if r_2 = (0 : Int32) then
    some ((0 : Int32), v_1)
  else
    zbind (fX7_chairOf x1 x2 v_1) fun r_4 v_3 =>
    zbindv (fX9_set (zrf x1 9) x2 (3 : Int32) v_3) fun v_5 =>
    zlet (zup v_5 x1 5 ((v_5 x1 5) + (1 : Int32))) fun v_6 =>
    zbindv (fX7_vacate x1 r_4 v_6) fun v_7 =>
    fX2_kill_46  zFU x0 x1 r_4 (1 : Int32) (0 : Int32) v_7
set_option maxRecDepth 4000 in
theorem kX2_kill (l : Launch) (G : zG) (x0 : Nat) (t0 : zty G x0 1 2) (x1 : Nat) (t1 : zty G x1 1 7) (x2 : Int32) (v : zV) (r : Int32) (w : zV) (h : fX2_kill x0 x1 x2 v = some (r, w)) : zMet l yX2_kill cX2_kill 6 (Option.some FieldType.int) 4 145 0 0 [zr G x0, zr G x1, .int x2] G v (some (.int r)) w := by
  refine zM_of (own := RX2) (by decide) rfl (Nat.le_of_ble_eq_true rfl) (fun x hl F hr hk hcs => ?_)
  subst hl
  refine z_ls [(0, zr G x0), (1, zr G x1), (2, .int x2)] [0, 1, 2] rfl ?_
  unfold fX2_kill at h
  refine z_aload_n F dX2_kill_0 rfl 1 rfl ?_
  refine z_iload_n F dX2_kill_1 rfl 2 rfl ?_
  obtain ⟨r_2, v_1, hq2, h⟩ := zbind_ex h
  refine z_callVi F [.int x2] [] (kX7_isAlive x.2.1 G x1 t1 x2 v r_2 v_1 hq2) mI_X7_isAlive (c := 7) rfl t1 wM_X2_96 mi_X7_isAlive sl_X7_isAlive dX2_kill_2 rfl ⟨Nat.le_of_ble_eq_true rfl, Nat.le_of_ble_eq_true rfl⟩ rfl (Nat.le_of_ble_eq_true rfl) ⟨Nat.zero_le _, Nat.zero_le _⟩ ?_
  refine z_if_ne F 10 dX2_kill_5 rfl (fun hc => ?_) (fun hc => ?_)
  · replace h := zif_f hc h
    refine z_aload_n F dX2_kill_10 rfl 1 rfl ?_
    refine z_iload_n F dX2_kill_11 rfl 2 rfl ?_
    obtain ⟨r_4, v_3, hq12, h⟩ := zbind_ex h
    refine z_callVi F [.int x2] [] (kX7_chairOf x.2.1 G x1 t1 x2 v_1 r_4 v_3 hq12) mI_X7_chairOf (c := 7) rfl t1 wM_X2_99 mi_X7_chairOf sl_X7_chairOf dX2_kill_12 rfl ⟨Nat.le_of_ble_eq_true rfl, Nat.le_of_ble_eq_true rfl⟩ rfl (Nat.le_of_ble_eq_true rfl) ⟨Nat.zero_le _, Nat.zero_le _⟩ ?_
    refine z_istore_n F [(3, .int r_4), (0, zr G x0), (1, zr G x1), (2, .int x2)] dX2_kill_15 rfl (Nat.le_of_ble_eq_true rfl) rfl ?_
    refine z_aload_n F dX2_kill_16 rfl 2 rfl ?_
    refine zg_7_9 F t1 wF_X2_103 dX2_kill_17 ?_
    refine z_iload_n F dX2_kill_20 rfl 3 rfl ?_
    refine z_iconst (y := (3 : Int32)) F dX2_kill_21 rfl ?_
    obtain ⟨v_5, hq22, h⟩ := zbindv_ex h
    refine z_callSNv F [zr G (zrf x1 9), .int x2, .int (3 : Int32)] [] (kX9_set x.2.1 G (zrf x1 9) (zt_f tc_7_9 t1) x2 (3 : Int32) v_3 v_5 hq22) mI_X9_set wN_X2_92 ms_X9_set dX2_kill_22 rfl ⟨Nat.le_of_ble_eq_true rfl, Nat.le_of_ble_eq_true rfl⟩ rfl (Nat.le_of_ble_eq_true rfl) ⟨Nat.zero_le _, Nat.zero_le _⟩ ?_
    refine z_aload_n F dX2_kill_25 rfl 2 rfl ?_
    refine z_dup F dX2_kill_26 rfl ?_
    refine zg_7_5 F t1 wF_X2_106 dX2_kill_27 ?_
    refine z_iconst (y := (1 : Int32)) F dX2_kill_30 rfl ?_
    refine z_iadd F dX2_kill_31 ?_
    refine zp_7_5 F t1 wF_X2_106 dX2_kill_32 ?_
    obtain ⟨v_6, ev_6, h⟩ := zlet_ex h
    refine z_heap ev_6 ?_
    refine z_aload_n F dX2_kill_35 rfl 2 rfl ?_
    refine z_iload_n F dX2_kill_36 rfl 0 rfl ?_
    obtain ⟨v_7, hq37, h⟩ := zbindv_ex h
    refine z_callVv F [.int r_4] [] (kX7_vacate x.2.1 G x1 t1 r_4 v_6 v_7 hq37) mI_X7_vacate (c := 7) rfl t1 wM_X2_109 mi_X7_vacate sl_X7_vacate dX2_kill_37 rfl ⟨Nat.le_of_ble_eq_true rfl, Nat.le_of_ble_eq_true rfl⟩ rfl (Nat.le_of_ble_eq_true rfl) ⟨Nat.zero_le _, Nat.zero_le _⟩ ?_
    refine z_iconst (y := (1 : Int32)) F dX2_kill_40 rfl ?_
    refine z_istore (n := 0) F [(4, .int (1 : Int32)), (3, .int r_4), (0, zr G x0), (1, zr G x1), (2, .int x2)] dX2_kill_41 (Nat.le_of_ble_eq_true rfl) rfl ?_
    refine z_iconst (y := (0 : Int32)) F dX2_kill_43 rfl ?_
    refine z_istore (n := 0) F [(5, .int (0 : Int32)), (4, .int (1 : Int32)), (3, .int r_4), (0, zr G x0), (1, zr G x1), (2, .int x2)] dX2_kill_44 (Nat.le_of_ble_eq_true rfl) rfl ?_
    refine z_ls [(0, zr G x0), (1, zr G x1), (3, .int r_4), (4, .int (1 : Int32)), (5, .int (0 : Int32))] [3, 4, 2, 1, 0] rfl ?_
    exact jX2_kill_46 x G F hr hk r w   zFU x0 t0 x1 t1 r_4 (1 : Int32) (0 : Int32) v_7 h
  · replace h := zif_t hc h
    refine z_iconst (y := (0 : Int32)) F dX2_kill_8 rfl ?_
    cases h
    exact z_reti F hr hk dX2_kill_9

theorem dX2_tellDeaths_0 : decode cX2_tellDeaths 0 = .ok (.iconst 0, 1) := by decide +kernel
theorem dX2_tellDeaths_1 : decode cX2_tellDeaths 1 = .ok (.istore_n 2, 1) := by decide +kernel
theorem dX2_tellDeaths_2 : decode cX2_tellDeaths 2 = .ok (.iload_n 2, 1) := by decide +kernel
theorem dX2_tellDeaths_3 : decode cX2_tellDeaths 3 = .ok (.aload_n 0, 1) := by decide +kernel
theorem dX2_tellDeaths_4 : decode cX2_tellDeaths 4 = .ok (.getfield 15, 3) := by decide +kernel
theorem dX2_tellDeaths_7 : decode cX2_tellDeaths 7 = .ok (.getfield 31, 3) := by decide +kernel
theorem dX2_tellDeaths_10 : decode cX2_tellDeaths 10 = .ok (.if_icmp .ge 44, 3) := by decide +kernel
theorem dX2_tellDeaths_13 : decode cX2_tellDeaths 13 = .ok (.aload_n 0, 1) := by decide +kernel
theorem dX2_tellDeaths_14 : decode cX2_tellDeaths 14 = .ok (.getfield 15, 3) := by decide +kernel
theorem dX2_tellDeaths_17 : decode cX2_tellDeaths 17 = .ok (.getfield 37, 3) := by decide +kernel
theorem dX2_tellDeaths_20 : decode cX2_tellDeaths 20 = .ok (.iload_n 2, 1) := by decide +kernel
theorem dX2_tellDeaths_21 : decode cX2_tellDeaths 21 = .ok (.invokestatic 40, 3) := by decide +kernel
theorem dX2_tellDeaths_24 : decode cX2_tellDeaths 24 = .ok (.aload_n 1, 1) := by decide +kernel
theorem dX2_tellDeaths_25 : decode cX2_tellDeaths 25 = .ok (.getfield 44, 3) := by decide +kernel
theorem dX2_tellDeaths_28 : decode cX2_tellDeaths 28 = .ok (.if_icmp .ne 20, 3) := by decide +kernel
theorem dX2_tellDeaths_31 : decode cX2_tellDeaths 31 = .ok (.aload_n 0, 1) := by decide +kernel
theorem dX2_tellDeaths_32 : decode cX2_tellDeaths 32 = .ok (.aload_n 1, 1) := by decide +kernel
theorem dX2_tellDeaths_33 : decode cX2_tellDeaths 33 = .ok (.aload_n 0, 1) := by decide +kernel
theorem dX2_tellDeaths_34 : decode cX2_tellDeaths 34 = .ok (.getfield 15, 3) := by decide +kernel
theorem dX2_tellDeaths_37 : decode cX2_tellDeaths 37 = .ok (.getfield 49, 3) := by decide +kernel
theorem dX2_tellDeaths_40 : decode cX2_tellDeaths 40 = .ok (.iload_n 2, 1) := by decide +kernel
theorem dX2_tellDeaths_41 : decode cX2_tellDeaths 41 = .ok (.invokestatic 40, 3) := by decide +kernel
theorem dX2_tellDeaths_44 : decode cX2_tellDeaths 44 = .ok (.invokevirtual 52, 3) := by decide +kernel
theorem dX2_tellDeaths_47 : decode cX2_tellDeaths 47 = .ok (.pop, 1) := by decide +kernel
theorem dX2_tellDeaths_48 : decode cX2_tellDeaths 48 = .ok (.iinc 2 1, 3) := by decide +kernel
theorem dX2_tellDeaths_51 : decode cX2_tellDeaths 51 = .ok (.goto (-49), 3) := by decide +kernel
theorem dX2_tellDeaths_54 : decode cX2_tellDeaths 54 = .ok (.return_, 1) := by decide +kernel
def fX2_tellDeaths_2  : Nat → Nat → Nat → Int32 → zV → Option zV
  | 0 => fun _ _ _ _ => none
  | n + 1 => fun x0 x1 x2 v =>
    if (v (zrf x0 0) 4) ≤ x2 then
      some v
    else
      zbind (fX9_get (zrf (zrf x0 0) 11) x2 v) fun r_2 v_1 =>
      if r_2 = (v_1 x1 0) then
        zbind (fX9_get (zrf (zrf x0 0) 12) x2 v_1) fun r_4 v_3 =>
        zbind (fX2_kill x0 x1 r_4 v_3) fun r_6 v_5 =>
        (fX2_tellDeaths_2 n) x0 x1 (x2 + (1 : Int32)) v_5
      else
        (fX2_tellDeaths_2 n) x0 x1 (x2 + (1 : Int32)) v_1
set_option maxRecDepth 4000 in
theorem jX2_tellDeaths_2 (x : zCx) (G : zG) (F : zF x G cX2_tellDeaths 3 RX2 5 170) (hr : x.2.2.2.2.2.2.2.2.1.sig.returnType = (Option.none : Option FieldType)) (hk : x.2.2.2.2.2.2.2.2.1.locks = false) (w : zV)  : ∀ (n : Nat) (x0 : Nat) (t0 : zty G x0 1 2) (x1 : Nat) (t1 : zty G x1 1 7) (x2 : Int32) (v : zV), fX2_tellDeaths_2 n x0 x1 x2 v = some w → zJ x G 3 (zQ x G none w 0 0) 0 0 2 [(0, zr G x0), (1, zr G x1), (2, .int x2)] [] v := by
  intro n
  induction n with
  | zero => intro x0 t0 x1 t1 x2 v h; exact absurd h (by intro q; cases q)
  | succ n ih =>
    intro x0 t0 x1 t1 x2 v h
    rw [fX2_tellDeaths_2] at h
    dsimp only at h
    refine z_iload_n F dX2_tellDeaths_2 rfl 2 rfl ?_
    refine z_aload_n F dX2_tellDeaths_3 rfl 0 rfl ?_
    refine zg_2_0 F t0 wF_X2_15 dX2_tellDeaths_4 ?_
    refine zg_0_4 F (zt_f tc_2_0 t0) wF_X2_31 dX2_tellDeaths_7 ?_
    refine z_icmp_ge F 54 dX2_tellDeaths_10 rfl (fun hc => ?_) (fun hc => ?_)
    · replace h := zif_t hc h
      cases h
      exact z_retv F hr hk dX2_tellDeaths_54
    · replace h := zif_f hc h
      refine z_aload_n F dX2_tellDeaths_13 rfl 0 rfl ?_
      refine zg_2_0 F t0 wF_X2_15 dX2_tellDeaths_14 ?_
      refine zg_0_11 F (zt_f tc_2_0 t0) wF_X2_37 dX2_tellDeaths_17 ?_
      refine z_iload_n F dX2_tellDeaths_20 rfl 2 rfl ?_
      obtain ⟨r_2, v_1, hq21, h⟩ := zbind_ex h
      refine z_callSNi F [zr G (zrf (zrf x0 0) 11), .int x2] [] (kX9_get x.2.1 G (zrf (zrf x0 0) 11) (zt_f tc_0_11 (zt_f tc_2_0 t0)) x2 v r_2 v_1 hq21) mI_X9_get wN_X2_40 ms_X9_get dX2_tellDeaths_21 rfl ⟨Nat.le_of_ble_eq_true rfl, Nat.le_of_ble_eq_true rfl⟩ rfl (Nat.le_of_ble_eq_true rfl) ⟨Nat.zero_le _, Nat.zero_le _⟩ ?_
      refine z_aload_n F dX2_tellDeaths_24 rfl 1 rfl ?_
      refine zg_7_0 F t1 wF_X2_44 dX2_tellDeaths_25 ?_
      refine z_icmp_ne F 48 dX2_tellDeaths_28 rfl (fun hc => ?_) (fun hc => ?_)
      · replace h := zif_f hc h
        refine z_iinc F [(2, .int (x2 + (1 : Int32))), (0, zr G x0), (1, zr G x1)] dX2_tellDeaths_48 2 rfl rfl (Nat.le_of_ble_eq_true rfl) rfl ?_
        refine z_goto F 2 dX2_tellDeaths_51 rfl ?_
        refine z_ls [(0, zr G x0), (1, zr G x1), (2, .int (x2 + (1 : Int32)))] [1, 2, 0] rfl ?_
        exact ih x0 t0 x1 t1 (x2 + (1 : Int32)) v_1 h
      · replace h := zif_t hc h
        refine z_aload_n F dX2_tellDeaths_31 rfl 0 rfl ?_
        refine z_aload_n F dX2_tellDeaths_32 rfl 1 rfl ?_
        refine z_aload_n F dX2_tellDeaths_33 rfl 0 rfl ?_
        refine zg_2_0 F t0 wF_X2_15 dX2_tellDeaths_34 ?_
        refine zg_0_12 F (zt_f tc_2_0 t0) wF_X2_49 dX2_tellDeaths_37 ?_
        refine z_iload_n F dX2_tellDeaths_40 rfl 2 rfl ?_
        obtain ⟨r_4, v_3, hq41, h⟩ := zbind_ex h
        refine z_callSNi F [zr G (zrf (zrf x0 0) 12), .int x2] [zr G x1, zr G x0] (kX9_get x.2.1 G (zrf (zrf x0 0) 12) (zt_f tc_0_12 (zt_f tc_2_0 t0)) x2 v_1 r_4 v_3 hq41) mI_X9_get wN_X2_40 ms_X9_get dX2_tellDeaths_41 rfl ⟨Nat.le_of_ble_eq_true rfl, Nat.le_of_ble_eq_true rfl⟩ rfl (Nat.le_of_ble_eq_true rfl) ⟨Nat.zero_le _, Nat.zero_le _⟩ ?_
        obtain ⟨r_6, v_5, hq44, h⟩ := zbind_ex h
        refine z_callVi F [zr G x1, .int r_4] [] (kX2_kill x.2.1 G x0 t0 x1 t1 r_4 v_3 r_6 v_5 hq44) mI_X2_kill (c := 2) rfl t0 wM_X2_52 mi_X2_kill sl_X2_kill dX2_tellDeaths_44 rfl ⟨Nat.le_of_ble_eq_true rfl, Nat.le_of_ble_eq_true rfl⟩ rfl (Nat.le_of_ble_eq_true rfl) ⟨Nat.zero_le _, Nat.zero_le _⟩ ?_
        refine z_pop F dX2_tellDeaths_47 rfl ?_
        refine z_iinc F [(2, .int (x2 + (1 : Int32))), (0, zr G x0), (1, zr G x1)] dX2_tellDeaths_48 2 rfl rfl (Nat.le_of_ble_eq_true rfl) rfl ?_
        refine z_goto F 2 dX2_tellDeaths_51 rfl ?_
        refine z_ls [(0, zr G x0), (1, zr G x1), (2, .int (x2 + (1 : Int32)))] [1, 2, 0] rfl ?_
        exact ih x0 t0 x1 t1 (x2 + (1 : Int32)) v_5 h

def fX2_tellDeaths (x0 : Nat) (x1 : Nat) (v : zV) : Option zV :=
  fX2_tellDeaths_2  zFU x0 x1 (0 : Int32) v
set_option maxRecDepth 4000 in
theorem kX2_tellDeaths (l : Launch) (G : zG) (x0 : Nat) (t0 : zty G x0 1 2) (x1 : Nat) (t1 : zty G x1 1 7) (v : zV) (w : zV) (h : fX2_tellDeaths x0 x1 v = some w) : zMet l yX2_tellDeaths cX2_tellDeaths 3 (Option.none : Option FieldType) 5 170 0 0 [zr G x0, zr G x1] G v none w := by
  refine zM_of (own := RX2) (by decide) rfl (Nat.le_of_ble_eq_true rfl) (fun x hl F hr hk hcs => ?_)
  subst hl
  refine z_ls [(0, zr G x0), (1, zr G x1)] [0, 1] rfl ?_
  unfold fX2_tellDeaths at h
  refine z_iconst (y := (0 : Int32)) F dX2_tellDeaths_0 rfl ?_
  refine z_istore_n F [(2, .int (0 : Int32)), (0, zr G x0), (1, zr G x1)] dX2_tellDeaths_1 rfl (Nat.le_of_ble_eq_true rfl) rfl ?_
  refine z_ls [(0, zr G x0), (1, zr G x1), (2, .int (0 : Int32))] [1, 2, 0] rfl ?_
  exact jX2_tellDeaths_2 x G F hr hk w   zFU x0 t0 x1 t1 (0 : Int32) v h

theorem dX2_scoreOf_0 : decode cX2_scoreOf 0 = .ok (.aload_n 1, 1) := by decide +kernel
theorem dX2_scoreOf_1 : decode cX2_scoreOf 1 = .ok (.getfield 72, 3) := by decide +kernel
theorem dX2_scoreOf_4 : decode cX2_scoreOf 4 = .ok (.iconst 1, 1) := by decide +kernel
theorem dX2_scoreOf_5 : decode cX2_scoreOf 5 = .ok (.if_icmp .ge 5, 3) := by decide +kernel
theorem dX2_scoreOf_8 : decode cX2_scoreOf 8 = .ok (.iconst 0, 1) := by decide +kernel
theorem dX2_scoreOf_9 : decode cX2_scoreOf 9 = .ok (.ireturn, 1) := by decide +kernel
theorem dX2_scoreOf_10 : decode cX2_scoreOf 10 = .ok (.aload_n 0, 1) := by decide +kernel
theorem dX2_scoreOf_11 : decode cX2_scoreOf 11 = .ok (.getfield 15, 3) := by decide +kernel
theorem dX2_scoreOf_14 : decode cX2_scoreOf 14 = .ok (.iload_n 2, 1) := by decide +kernel
theorem dX2_scoreOf_15 : decode cX2_scoreOf 15 = .ok (.aload_n 1, 1) := by decide +kernel
theorem dX2_scoreOf_16 : decode cX2_scoreOf 16 = .ok (.invokevirtual 123, 3) := by decide +kernel
theorem dX2_scoreOf_19 : decode cX2_scoreOf 19 = .ok (.invokevirtual 127, 3) := by decide +kernel
theorem dX2_scoreOf_22 : decode cX2_scoreOf 22 = .ok (.istore_n 3, 1) := by decide +kernel
theorem dX2_scoreOf_23 : decode cX2_scoreOf 23 = .ok (.aload_n 0, 1) := by decide +kernel
theorem dX2_scoreOf_24 : decode cX2_scoreOf 24 = .ok (.getfield 19, 3) := by decide +kernel
theorem dX2_scoreOf_27 : decode cX2_scoreOf 27 = .ok (.bipush (-7), 2) := by decide +kernel
theorem dX2_scoreOf_29 : decode cX2_scoreOf 29 = .ok (.iload_n 3, 1) := by decide +kernel
theorem dX2_scoreOf_30 : decode cX2_scoreOf 30 = .ok (.invokevirtual 133, 3) := by decide +kernel
theorem dX2_scoreOf_33 : decode cX2_scoreOf 33 = .ok (.aload_n 0, 1) := by decide +kernel
theorem dX2_scoreOf_34 : decode cX2_scoreOf 34 = .ok (.getfield 19, 3) := by decide +kernel
theorem dX2_scoreOf_37 : decode cX2_scoreOf 37 = .ok (.bipush (-8), 2) := by decide +kernel
theorem dX2_scoreOf_39 : decode cX2_scoreOf 39 = .ok (.aload_n 0, 1) := by decide +kernel
theorem dX2_scoreOf_40 : decode cX2_scoreOf 40 = .ok (.getfield 15, 3) := by decide +kernel
theorem dX2_scoreOf_43 : decode cX2_scoreOf 43 = .ok (.getfield 136, 3) := by decide +kernel
theorem dX2_scoreOf_46 : decode cX2_scoreOf 46 = .ok (.iload_n 3, 1) := by decide +kernel
theorem dX2_scoreOf_47 : decode cX2_scoreOf 47 = .ok (.isub, 1) := by decide +kernel
theorem dX2_scoreOf_48 : decode cX2_scoreOf 48 = .ok (.invokevirtual 133, 3) := by decide +kernel
theorem dX2_scoreOf_51 : decode cX2_scoreOf 51 = .ok (.aload_n 0, 1) := by decide +kernel
theorem dX2_scoreOf_52 : decode cX2_scoreOf 52 = .ok (.getfield 19, 3) := by decide +kernel
theorem dX2_scoreOf_55 : decode cX2_scoreOf 55 = .ok (.bipush (-9), 2) := by decide +kernel
theorem dX2_scoreOf_57 : decode cX2_scoreOf 57 = .ok (.aload_n 1, 1) := by decide +kernel
theorem dX2_scoreOf_58 : decode cX2_scoreOf 58 = .ok (.getfield 89, 3) := by decide +kernel
theorem dX2_scoreOf_61 : decode cX2_scoreOf 61 = .ok (.iload_n 2, 1) := by decide +kernel
theorem dX2_scoreOf_62 : decode cX2_scoreOf 62 = .ok (.invokestatic 40, 3) := by decide +kernel
theorem dX2_scoreOf_65 : decode cX2_scoreOf 65 = .ok (.invokevirtual 133, 3) := by decide +kernel
theorem dX2_scoreOf_68 : decode cX2_scoreOf 68 = .ok (.aload_n 0, 1) := by decide +kernel
theorem dX2_scoreOf_69 : decode cX2_scoreOf 69 = .ok (.getfield 19, 3) := by decide +kernel
theorem dX2_scoreOf_72 : decode cX2_scoreOf 72 = .ok (.bipush (-10), 2) := by decide +kernel
theorem dX2_scoreOf_74 : decode cX2_scoreOf 74 = .ok (.aload_n 0, 1) := by decide +kernel
theorem dX2_scoreOf_75 : decode cX2_scoreOf 75 = .ok (.getfield 15, 3) := by decide +kernel
theorem dX2_scoreOf_78 : decode cX2_scoreOf 78 = .ok (.iload_n 2, 1) := by decide +kernel
theorem dX2_scoreOf_79 : decode cX2_scoreOf 79 = .ok (.aload_n 1, 1) := by decide +kernel
theorem dX2_scoreOf_80 : decode cX2_scoreOf 80 = .ok (.getfield 44, 3) := by decide +kernel
theorem dX2_scoreOf_83 : decode cX2_scoreOf 83 = .ok (.invokevirtual 139, 3) := by decide +kernel
theorem dX2_scoreOf_86 : decode cX2_scoreOf 86 = .ok (.invokevirtual 133, 3) := by decide +kernel
theorem dX2_scoreOf_89 : decode cX2_scoreOf 89 = .ok (.aload_n 0, 1) := by decide +kernel
theorem dX2_scoreOf_90 : decode cX2_scoreOf 90 = .ok (.getfield 19, 3) := by decide +kernel
theorem dX2_scoreOf_93 : decode cX2_scoreOf 93 = .ok (.bipush (-11), 2) := by decide +kernel
theorem dX2_scoreOf_95 : decode cX2_scoreOf 95 = .ok (.iload_n 2, 1) := by decide +kernel
theorem dX2_scoreOf_96 : decode cX2_scoreOf 96 = .ok (.invokevirtual 133, 3) := by decide +kernel
theorem dX2_scoreOf_99 : decode cX2_scoreOf 99 = .ok (.aload_n 0, 1) := by decide +kernel
theorem dX2_scoreOf_100 : decode cX2_scoreOf 100 = .ok (.getfield 19, 3) := by decide +kernel
theorem dX2_scoreOf_103 : decode cX2_scoreOf 103 = .ok (.bipush (-12), 2) := by decide +kernel
theorem dX2_scoreOf_105 : decode cX2_scoreOf 105 = .ok (.aload_n 1, 1) := by decide +kernel
theorem dX2_scoreOf_106 : decode cX2_scoreOf 106 = .ok (.getfield 44, 3) := by decide +kernel
theorem dX2_scoreOf_109 : decode cX2_scoreOf 109 = .ok (.invokevirtual 133, 3) := by decide +kernel
theorem dX2_scoreOf_112 : decode cX2_scoreOf 112 = .ok (.aload_n 0, 1) := by decide +kernel
theorem dX2_scoreOf_113 : decode cX2_scoreOf 113 = .ok (.getfield 19, 3) := by decide +kernel
theorem dX2_scoreOf_116 : decode cX2_scoreOf 116 = .ok (.bipush (-13), 2) := by decide +kernel
theorem dX2_scoreOf_118 : decode cX2_scoreOf 118 = .ok (.aload_n 1, 1) := by decide +kernel
theorem dX2_scoreOf_119 : decode cX2_scoreOf 119 = .ok (.getfield 72, 3) := by decide +kernel
theorem dX2_scoreOf_122 : decode cX2_scoreOf 122 = .ok (.invokevirtual 133, 3) := by decide +kernel
theorem dX2_scoreOf_125 : decode cX2_scoreOf 125 = .ok (.aload_n 0, 1) := by decide +kernel
theorem dX2_scoreOf_126 : decode cX2_scoreOf 126 = .ok (.getfield 19, 3) := by decide +kernel
theorem dX2_scoreOf_129 : decode cX2_scoreOf 129 = .ok (.invokevirtual 142, 3) := by decide +kernel
theorem dX2_scoreOf_132 : decode cX2_scoreOf 132 = .ok (.aload_n 0, 1) := by decide +kernel
theorem dX2_scoreOf_133 : decode cX2_scoreOf 133 = .ok (.getfield 15, 3) := by decide +kernel
theorem dX2_scoreOf_136 : decode cX2_scoreOf 136 = .ok (.iload_n 2, 1) := by decide +kernel
theorem dX2_scoreOf_137 : decode cX2_scoreOf 137 = .ok (.aload_n 1, 1) := by decide +kernel
theorem dX2_scoreOf_138 : decode cX2_scoreOf 138 = .ok (.getfield 44, 3) := by decide +kernel
theorem dX2_scoreOf_141 : decode cX2_scoreOf 141 = .ok (.invokevirtual 145, 3) := by decide +kernel
theorem dX2_scoreOf_144 : decode cX2_scoreOf 144 = .ok (.iadd, 1) := by decide +kernel
theorem dX2_scoreOf_145 : decode cX2_scoreOf 145 = .ok (.aload_n 1, 1) := by decide +kernel
theorem dX2_scoreOf_146 : decode cX2_scoreOf 146 = .ok (.iload_n 2, 1) := by decide +kernel
theorem dX2_scoreOf_147 : decode cX2_scoreOf 147 = .ok (.invokevirtual 148, 3) := by decide +kernel
theorem dX2_scoreOf_150 : decode cX2_scoreOf 150 = .ok (.iadd, 1) := by decide +kernel
theorem dX2_scoreOf_151 : decode cX2_scoreOf 151 = .ok (.ireturn, 1) := by decide +kernel
def fX2_scoreOf (x0 : Nat) (x1 : Nat) (x2 : Int32) (v : zV) : Option (Int32 × zV) :=
  if (1 : Int32) ≤ (v x1 1) then
    zbind (fX7_last x1 v) fun r_2 v_1 =>
    zbind (fX0_differing (zrf x0 0) x2 r_2 v_1) fun r_4 v_3 =>
    zbindv (fX5_setFact (zrf x0 1) (-7 : Int32) r_4 v_3) fun v_5 =>
    zbindv (fX5_setFact (zrf x0 1) (-8 : Int32) ((v_5 (zrf x0 0) 0) - r_4) v_5) fun v_6 =>
    zbind (fX9_get (zrf x1 10) x2 v_6) fun r_8 v_7 =>
    zbindv (fX5_setFact (zrf x0 1) (-9 : Int32) r_8 v_7) fun v_9 =>
    zbind (fX0_ageIn (zrf x0 0) x2 (v_9 x1 0) v_9) fun r_11 v_10 =>
    zbindv (fX5_setFact (zrf x0 1) (-10 : Int32) r_11 v_10) fun v_12 =>
    zbindv (fX5_setFact (zrf x0 1) (-11 : Int32) x2 v_12) fun v_13 =>
    zbindv (fX5_setFact (zrf x0 1) (-12 : Int32) (v_13 x1 0) v_13) fun v_14 =>
    zbindv (fX5_setFact (zrf x0 1) (-13 : Int32) (v_14 x1 1) v_14) fun v_15 =>
    zbind (fX5_value (zrf x0 1) v_15) fun r_17 v_16 =>
    zbind (fX0_praiseTold (zrf x0 0) x2 (v_16 x1 0) v_16) fun r_19 v_18 =>
    zbind (fX7_praiseAside x1 x2 v_18) fun r_21 v_20 =>
    some ((r_17 + r_19) + r_21, v_20)
  else
    some ((0 : Int32), v)
set_option maxRecDepth 4000 in
theorem kX2_scoreOf (l : Launch) (G : zG) (x0 : Nat) (t0 : zty G x0 1 2) (x1 : Nat) (t1 : zty G x1 1 7) (x2 : Int32) (v : zV) (r : Int32) (w : zV) (h : fX2_scoreOf x0 x1 x2 v = some (r, w)) : zMet l yX2_scoreOf cX2_scoreOf 4 (Option.some FieldType.int) 3 125 0 0 [zr G x0, zr G x1, .int x2] G v (some (.int r)) w := by
  refine zM_of (own := RX2) (by decide) rfl (Nat.le_of_ble_eq_true rfl) (fun x hl F hr hk hcs => ?_)
  subst hl
  refine z_ls [(0, zr G x0), (1, zr G x1), (2, .int x2)] [0, 1, 2] rfl ?_
  unfold fX2_scoreOf at h
  refine z_aload_n F dX2_scoreOf_0 rfl 1 rfl ?_
  refine zg_7_1 F t1 wF_X2_72 dX2_scoreOf_1 ?_
  refine z_iconst (y := (1 : Int32)) F dX2_scoreOf_4 rfl ?_
  refine z_icmp_ge F 10 dX2_scoreOf_5 rfl (fun hc => ?_) (fun hc => ?_)
  · replace h := zif_t hc h
    refine z_aload_n F dX2_scoreOf_10 rfl 0 rfl ?_
    refine zg_2_0 F t0 wF_X2_15 dX2_scoreOf_11 ?_
    refine z_iload_n F dX2_scoreOf_14 rfl 2 rfl ?_
    refine z_aload_n F dX2_scoreOf_15 rfl 1 rfl ?_
    obtain ⟨r_2, v_1, hq16, h⟩ := zbind_ex h
    refine z_callVi F [] [.int x2, zr G (zrf x0 0)] (kX7_last x.2.1 G x1 t1 v r_2 v_1 hq16) mI_X7_last (c := 7) rfl t1 wM_X2_123 mi_X7_last sl_X7_last dX2_scoreOf_16 rfl ⟨Nat.le_of_ble_eq_true rfl, Nat.le_of_ble_eq_true rfl⟩ rfl (Nat.le_of_ble_eq_true rfl) ⟨Nat.zero_le _, Nat.zero_le _⟩ ?_
    obtain ⟨r_4, v_3, hq19, h⟩ := zbind_ex h
    refine z_callVi F [.int x2, .int r_2] [] (kX0_differing x.2.1 G (zrf x0 0) (zt_f tc_2_0 t0) x2 r_2 v_1 r_4 v_3 hq19) mI_X0_differing (c := 0) rfl (zt_f tc_2_0 t0) wM_X2_127 mi_X0_differing sl_X0_differing dX2_scoreOf_19 rfl ⟨Nat.le_of_ble_eq_true rfl, Nat.le_of_ble_eq_true rfl⟩ rfl (Nat.le_of_ble_eq_true rfl) ⟨Nat.zero_le _, Nat.zero_le _⟩ ?_
    refine z_istore_n F [(3, .int r_4), (0, zr G x0), (1, zr G x1), (2, .int x2)] dX2_scoreOf_22 rfl (Nat.le_of_ble_eq_true rfl) rfl ?_
    refine z_aload_n F dX2_scoreOf_23 rfl 1 rfl ?_
    refine zg_2_1 F t0 wF_X2_19 dX2_scoreOf_24 ?_
    refine z_bipush (y := (-7 : Int32)) F dX2_scoreOf_27 rfl ?_
    refine z_iload_n F dX2_scoreOf_29 rfl 0 rfl ?_
    obtain ⟨v_5, hq30, h⟩ := zbindv_ex h
    refine z_callVv F [.int (-7 : Int32), .int r_4] [] (kX5_setFact x.2.1 G (zrf x0 1) (zt_f tc_2_1 t0) (-7 : Int32) r_4 v_3 v_5 hq30) mI_X5_setFact (c := 5) rfl (zt_f tc_2_1 t0) wM_X2_133 mi_X5_setFact sl_X5_setFact dX2_scoreOf_30 rfl ⟨Nat.le_of_ble_eq_true rfl, Nat.le_of_ble_eq_true rfl⟩ rfl (Nat.le_of_ble_eq_true rfl) ⟨Nat.zero_le _, Nat.zero_le _⟩ ?_
    refine z_aload_n F dX2_scoreOf_33 rfl 1 rfl ?_
    refine zg_2_1 F t0 wF_X2_19 dX2_scoreOf_34 ?_
    refine z_bipush (y := (-8 : Int32)) F dX2_scoreOf_37 rfl ?_
    refine z_aload_n F dX2_scoreOf_39 rfl 1 rfl ?_
    refine zg_2_0 F t0 wF_X2_15 dX2_scoreOf_40 ?_
    refine zg_0_0 F (zt_f tc_2_0 t0) wF_X2_136 dX2_scoreOf_43 ?_
    refine z_iload_n F dX2_scoreOf_46 rfl 0 rfl ?_
    refine z_isub F dX2_scoreOf_47 ?_
    obtain ⟨v_6, hq48, h⟩ := zbindv_ex h
    refine z_callVv F [.int (-8 : Int32), .int ((v_5 (zrf x0 0) 0) - r_4)] [] (kX5_setFact x.2.1 G (zrf x0 1) (zt_f tc_2_1 t0) (-8 : Int32) ((v_5 (zrf x0 0) 0) - r_4) v_5 v_6 hq48) mI_X5_setFact (c := 5) rfl (zt_f tc_2_1 t0) wM_X2_133 mi_X5_setFact sl_X5_setFact dX2_scoreOf_48 rfl ⟨Nat.le_of_ble_eq_true rfl, Nat.le_of_ble_eq_true rfl⟩ rfl (Nat.le_of_ble_eq_true rfl) ⟨Nat.zero_le _, Nat.zero_le _⟩ ?_
    refine z_aload_n F dX2_scoreOf_51 rfl 1 rfl ?_
    refine zg_2_1 F t0 wF_X2_19 dX2_scoreOf_52 ?_
    refine z_bipush (y := (-9 : Int32)) F dX2_scoreOf_55 rfl ?_
    refine z_aload_n F dX2_scoreOf_57 rfl 2 rfl ?_
    refine zg_7_10 F t1 wF_X2_89 dX2_scoreOf_58 ?_
    refine z_iload_n F dX2_scoreOf_61 rfl 3 rfl ?_
    obtain ⟨r_8, v_7, hq62, h⟩ := zbind_ex h
    refine z_callSNi F [zr G (zrf x1 10), .int x2] [.int (-9 : Int32), zr G (zrf x0 1)] (kX9_get x.2.1 G (zrf x1 10) (zt_f tc_7_10 t1) x2 v_6 r_8 v_7 hq62) mI_X9_get wN_X2_40 ms_X9_get dX2_scoreOf_62 rfl ⟨Nat.le_of_ble_eq_true rfl, Nat.le_of_ble_eq_true rfl⟩ rfl (Nat.le_of_ble_eq_true rfl) ⟨Nat.zero_le _, Nat.zero_le _⟩ ?_
    obtain ⟨v_9, hq65, h⟩ := zbindv_ex h
    refine z_callVv F [.int (-9 : Int32), .int r_8] [] (kX5_setFact x.2.1 G (zrf x0 1) (zt_f tc_2_1 t0) (-9 : Int32) r_8 v_7 v_9 hq65) mI_X5_setFact (c := 5) rfl (zt_f tc_2_1 t0) wM_X2_133 mi_X5_setFact sl_X5_setFact dX2_scoreOf_65 rfl ⟨Nat.le_of_ble_eq_true rfl, Nat.le_of_ble_eq_true rfl⟩ rfl (Nat.le_of_ble_eq_true rfl) ⟨Nat.zero_le _, Nat.zero_le _⟩ ?_
    refine z_aload_n F dX2_scoreOf_68 rfl 1 rfl ?_
    refine zg_2_1 F t0 wF_X2_19 dX2_scoreOf_69 ?_
    refine z_bipush (y := (-10 : Int32)) F dX2_scoreOf_72 rfl ?_
    refine z_aload_n F dX2_scoreOf_74 rfl 1 rfl ?_
    refine zg_2_0 F t0 wF_X2_15 dX2_scoreOf_75 ?_
    refine z_iload_n F dX2_scoreOf_78 rfl 3 rfl ?_
    refine z_aload_n F dX2_scoreOf_79 rfl 2 rfl ?_
    refine zg_7_0 F t1 wF_X2_44 dX2_scoreOf_80 ?_
    obtain ⟨r_11, v_10, hq83, h⟩ := zbind_ex h
    refine z_callVi F [.int x2, .int (v_9 x1 0)] [.int (-10 : Int32), zr G (zrf x0 1)] (kX0_ageIn x.2.1 G (zrf x0 0) (zt_f tc_2_0 t0) x2 (v_9 x1 0) v_9 r_11 v_10 hq83) mI_X0_ageIn (c := 0) rfl (zt_f tc_2_0 t0) wM_X2_139 mi_X0_ageIn sl_X0_ageIn dX2_scoreOf_83 rfl ⟨Nat.le_of_ble_eq_true rfl, Nat.le_of_ble_eq_true rfl⟩ rfl (Nat.le_of_ble_eq_true rfl) ⟨Nat.zero_le _, Nat.zero_le _⟩ ?_
    obtain ⟨v_12, hq86, h⟩ := zbindv_ex h
    refine z_callVv F [.int (-10 : Int32), .int r_11] [] (kX5_setFact x.2.1 G (zrf x0 1) (zt_f tc_2_1 t0) (-10 : Int32) r_11 v_10 v_12 hq86) mI_X5_setFact (c := 5) rfl (zt_f tc_2_1 t0) wM_X2_133 mi_X5_setFact sl_X5_setFact dX2_scoreOf_86 rfl ⟨Nat.le_of_ble_eq_true rfl, Nat.le_of_ble_eq_true rfl⟩ rfl (Nat.le_of_ble_eq_true rfl) ⟨Nat.zero_le _, Nat.zero_le _⟩ ?_
    refine z_aload_n F dX2_scoreOf_89 rfl 1 rfl ?_
    refine zg_2_1 F t0 wF_X2_19 dX2_scoreOf_90 ?_
    refine z_bipush (y := (-11 : Int32)) F dX2_scoreOf_93 rfl ?_
    refine z_iload_n F dX2_scoreOf_95 rfl 3 rfl ?_
    obtain ⟨v_13, hq96, h⟩ := zbindv_ex h
    refine z_callVv F [.int (-11 : Int32), .int x2] [] (kX5_setFact x.2.1 G (zrf x0 1) (zt_f tc_2_1 t0) (-11 : Int32) x2 v_12 v_13 hq96) mI_X5_setFact (c := 5) rfl (zt_f tc_2_1 t0) wM_X2_133 mi_X5_setFact sl_X5_setFact dX2_scoreOf_96 rfl ⟨Nat.le_of_ble_eq_true rfl, Nat.le_of_ble_eq_true rfl⟩ rfl (Nat.le_of_ble_eq_true rfl) ⟨Nat.zero_le _, Nat.zero_le _⟩ ?_
    refine z_aload_n F dX2_scoreOf_99 rfl 1 rfl ?_
    refine zg_2_1 F t0 wF_X2_19 dX2_scoreOf_100 ?_
    refine z_bipush (y := (-12 : Int32)) F dX2_scoreOf_103 rfl ?_
    refine z_aload_n F dX2_scoreOf_105 rfl 2 rfl ?_
    refine zg_7_0 F t1 wF_X2_44 dX2_scoreOf_106 ?_
    obtain ⟨v_14, hq109, h⟩ := zbindv_ex h
    refine z_callVv F [.int (-12 : Int32), .int (v_13 x1 0)] [] (kX5_setFact x.2.1 G (zrf x0 1) (zt_f tc_2_1 t0) (-12 : Int32) (v_13 x1 0) v_13 v_14 hq109) mI_X5_setFact (c := 5) rfl (zt_f tc_2_1 t0) wM_X2_133 mi_X5_setFact sl_X5_setFact dX2_scoreOf_109 rfl ⟨Nat.le_of_ble_eq_true rfl, Nat.le_of_ble_eq_true rfl⟩ rfl (Nat.le_of_ble_eq_true rfl) ⟨Nat.zero_le _, Nat.zero_le _⟩ ?_
    refine z_aload_n F dX2_scoreOf_112 rfl 1 rfl ?_
    refine zg_2_1 F t0 wF_X2_19 dX2_scoreOf_113 ?_
    refine z_bipush (y := (-13 : Int32)) F dX2_scoreOf_116 rfl ?_
    refine z_aload_n F dX2_scoreOf_118 rfl 2 rfl ?_
    refine zg_7_1 F t1 wF_X2_72 dX2_scoreOf_119 ?_
    obtain ⟨v_15, hq122, h⟩ := zbindv_ex h
    refine z_callVv F [.int (-13 : Int32), .int (v_14 x1 1)] [] (kX5_setFact x.2.1 G (zrf x0 1) (zt_f tc_2_1 t0) (-13 : Int32) (v_14 x1 1) v_14 v_15 hq122) mI_X5_setFact (c := 5) rfl (zt_f tc_2_1 t0) wM_X2_133 mi_X5_setFact sl_X5_setFact dX2_scoreOf_122 rfl ⟨Nat.le_of_ble_eq_true rfl, Nat.le_of_ble_eq_true rfl⟩ rfl (Nat.le_of_ble_eq_true rfl) ⟨Nat.zero_le _, Nat.zero_le _⟩ ?_
    refine z_aload_n F dX2_scoreOf_125 rfl 1 rfl ?_
    refine zg_2_1 F t0 wF_X2_19 dX2_scoreOf_126 ?_
    obtain ⟨r_17, v_16, hq129, h⟩ := zbind_ex h
    refine z_callVi F [] [] (kX5_value x.2.1 G (zrf x0 1) (zt_f tc_2_1 t0) v_15 r_17 v_16 hq129) mI_X5_value (c := 5) rfl (zt_f tc_2_1 t0) wM_X2_142 mi_X5_value sl_X5_value dX2_scoreOf_129 rfl ⟨Nat.le_of_ble_eq_true rfl, Nat.le_of_ble_eq_true rfl⟩ rfl (Nat.le_of_ble_eq_true rfl) ⟨Nat.zero_le _, Nat.zero_le _⟩ ?_
    refine z_aload_n F dX2_scoreOf_132 rfl 1 rfl ?_
    refine zg_2_0 F t0 wF_X2_15 dX2_scoreOf_133 ?_
    refine z_iload_n F dX2_scoreOf_136 rfl 3 rfl ?_
    refine z_aload_n F dX2_scoreOf_137 rfl 2 rfl ?_
    refine zg_7_0 F t1 wF_X2_44 dX2_scoreOf_138 ?_
    obtain ⟨r_19, v_18, hq141, h⟩ := zbind_ex h
    refine z_callVi F [.int x2, .int (v_16 x1 0)] [.int r_17] (kX0_praiseTold x.2.1 G (zrf x0 0) (zt_f tc_2_0 t0) x2 (v_16 x1 0) v_16 r_19 v_18 hq141) mI_X0_praiseTold (c := 0) rfl (zt_f tc_2_0 t0) wM_X2_145 mi_X0_praiseTold sl_X0_praiseTold dX2_scoreOf_141 rfl ⟨Nat.le_of_ble_eq_true rfl, Nat.le_of_ble_eq_true rfl⟩ rfl (Nat.le_of_ble_eq_true rfl) ⟨Nat.zero_le _, Nat.zero_le _⟩ ?_
    refine z_iadd F dX2_scoreOf_144 ?_
    refine z_aload_n F dX2_scoreOf_145 rfl 2 rfl ?_
    refine z_iload_n F dX2_scoreOf_146 rfl 3 rfl ?_
    obtain ⟨r_21, v_20, hq147, h⟩ := zbind_ex h
    refine z_callVi F [.int x2] [.int (r_17 + r_19)] (kX7_praiseAside x.2.1 G x1 t1 x2 v_18 r_21 v_20 hq147) mI_X7_praiseAside (c := 7) rfl t1 wM_X2_148 mi_X7_praiseAside sl_X7_praiseAside dX2_scoreOf_147 rfl ⟨Nat.le_of_ble_eq_true rfl, Nat.le_of_ble_eq_true rfl⟩ rfl (Nat.le_of_ble_eq_true rfl) ⟨Nat.zero_le _, Nat.zero_le _⟩ ?_
    refine z_iadd F dX2_scoreOf_150 ?_
    cases h
    exact z_reti F hr hk dX2_scoreOf_151
  · replace h := zif_f hc h
    refine z_iconst (y := (0 : Int32)) F dX2_scoreOf_8 rfl ?_
    cases h
    exact z_reti F hr hk dX2_scoreOf_9

theorem dX2_scoreAll_0 : decode cX2_scoreAll 0 = .ok (.iconst 0, 1) := by decide +kernel
theorem dX2_scoreAll_1 : decode cX2_scoreAll 1 = .ok (.istore_n 2, 1) := by decide +kernel
theorem dX2_scoreAll_2 : decode cX2_scoreAll 2 = .ok (.iload_n 2, 1) := by decide +kernel
theorem dX2_scoreAll_3 : decode cX2_scoreAll 3 = .ok (.aload_n 0, 1) := by decide +kernel
theorem dX2_scoreAll_4 : decode cX2_scoreAll 4 = .ok (.getfield 15, 3) := by decide +kernel
theorem dX2_scoreAll_7 : decode cX2_scoreAll 7 = .ok (.getfield 82, 3) := by decide +kernel
theorem dX2_scoreAll_10 : decode cX2_scoreAll 10 = .ok (.if_icmp .ge 31, 3) := by decide +kernel
theorem dX2_scoreAll_13 : decode cX2_scoreAll 13 = .ok (.aload_n 1, 1) := by decide +kernel
theorem dX2_scoreAll_14 : decode cX2_scoreAll 14 = .ok (.iload_n 2, 1) := by decide +kernel
theorem dX2_scoreAll_15 : decode cX2_scoreAll 15 = .ok (.invokevirtual 85, 3) := by decide +kernel
theorem dX2_scoreAll_18 : decode cX2_scoreAll 18 = .ok (.ifCond .eq 17, 3) := by decide +kernel
theorem dX2_scoreAll_21 : decode cX2_scoreAll 21 = .ok (.aload_n 0, 1) := by decide +kernel
theorem dX2_scoreAll_22 : decode cX2_scoreAll 22 = .ok (.getfield 9, 3) := by decide +kernel
theorem dX2_scoreAll_25 : decode cX2_scoreAll 25 = .ok (.iload_n 2, 1) := by decide +kernel
theorem dX2_scoreAll_26 : decode cX2_scoreAll 26 = .ok (.aload_n 0, 1) := by decide +kernel
theorem dX2_scoreAll_27 : decode cX2_scoreAll 27 = .ok (.aload_n 1, 1) := by decide +kernel
theorem dX2_scoreAll_28 : decode cX2_scoreAll 28 = .ok (.iload_n 2, 1) := by decide +kernel
theorem dX2_scoreAll_29 : decode cX2_scoreAll 29 = .ok (.invokevirtual 151, 3) := by decide +kernel
theorem dX2_scoreAll_32 : decode cX2_scoreAll 32 = .ok (.invokestatic 92, 3) := by decide +kernel
theorem dX2_scoreAll_35 : decode cX2_scoreAll 35 = .ok (.iinc 2 1, 3) := by decide +kernel
theorem dX2_scoreAll_38 : decode cX2_scoreAll 38 = .ok (.goto (-36), 3) := by decide +kernel
theorem dX2_scoreAll_41 : decode cX2_scoreAll 41 = .ok (.return_, 1) := by decide +kernel
def fX2_scoreAll_2  : Nat → Nat → Nat → Int32 → zV → Option zV
  | 0 => fun _ _ _ _ => none
  | n + 1 => fun x0 x1 x2 v =>
    if (v (zrf x0 0) 1) ≤ x2 then
      some v
    else
      zbind (fX7_isWaiting x1 x2 v) fun r_2 v_1 =>
      if r_2 = (0 : Int32) then
        (fX2_scoreAll_2 n) x0 x1 (x2 + (1 : Int32)) v_1
      else
        zbind (fX2_scoreOf x0 x1 x2 v_1) fun r_4 v_3 =>
        zbindv (fX9_set (zrf x0 2) x2 r_4 v_3) fun v_5 =>
        (fX2_scoreAll_2 n) x0 x1 (x2 + (1 : Int32)) v_5
set_option maxRecDepth 4000 in
theorem jX2_scoreAll_2 (x : zCx) (G : zG) (F : zF x G cX2_scoreAll 3 RX2 4 148) (hr : x.2.2.2.2.2.2.2.2.1.sig.returnType = (Option.none : Option FieldType)) (hk : x.2.2.2.2.2.2.2.2.1.locks = false) (w : zV)  : ∀ (n : Nat) (x0 : Nat) (t0 : zty G x0 1 2) (x1 : Nat) (t1 : zty G x1 1 7) (x2 : Int32) (v : zV), fX2_scoreAll_2 n x0 x1 x2 v = some w → zJ x G 3 (zQ x G none w 0 0) 0 0 2 [(0, zr G x0), (1, zr G x1), (2, .int x2)] [] v := by
  intro n
  induction n with
  | zero => intro x0 t0 x1 t1 x2 v h; exact absurd h (by intro q; cases q)
  | succ n ih =>
    intro x0 t0 x1 t1 x2 v h
    rw [fX2_scoreAll_2] at h
    dsimp only at h
    refine z_iload_n F dX2_scoreAll_2 rfl 2 rfl ?_
    refine z_aload_n F dX2_scoreAll_3 rfl 0 rfl ?_
    refine zg_2_0 F t0 wF_X2_15 dX2_scoreAll_4 ?_
    refine zg_0_1 F (zt_f tc_2_0 t0) wF_X2_82 dX2_scoreAll_7 ?_
    refine z_icmp_ge F 41 dX2_scoreAll_10 rfl (fun hc => ?_) (fun hc => ?_)
    · replace h := zif_t hc h
      cases h
      exact z_retv F hr hk dX2_scoreAll_41
    · replace h := zif_f hc h
      refine z_aload_n F dX2_scoreAll_13 rfl 1 rfl ?_
      refine z_iload_n F dX2_scoreAll_14 rfl 2 rfl ?_
      obtain ⟨r_2, v_1, hq15, h⟩ := zbind_ex h
      refine z_callVi F [.int x2] [] (kX7_isWaiting x.2.1 G x1 t1 x2 v r_2 v_1 hq15) mI_X7_isWaiting (c := 7) rfl t1 wM_X2_85 mi_X7_isWaiting sl_X7_isWaiting dX2_scoreAll_15 rfl ⟨Nat.le_of_ble_eq_true rfl, Nat.le_of_ble_eq_true rfl⟩ rfl (Nat.le_of_ble_eq_true rfl) ⟨Nat.zero_le _, Nat.zero_le _⟩ ?_
      refine z_if_eq F 35 dX2_scoreAll_18 rfl (fun hc => ?_) (fun hc => ?_)
      · replace h := zif_t hc h
        refine z_iinc F [(2, .int (x2 + (1 : Int32))), (0, zr G x0), (1, zr G x1)] dX2_scoreAll_35 2 rfl rfl (Nat.le_of_ble_eq_true rfl) rfl ?_
        refine z_goto F 2 dX2_scoreAll_38 rfl ?_
        refine z_ls [(0, zr G x0), (1, zr G x1), (2, .int (x2 + (1 : Int32)))] [1, 2, 0] rfl ?_
        exact ih x0 t0 x1 t1 (x2 + (1 : Int32)) v_1 h
      · replace h := zif_f hc h
        refine z_aload_n F dX2_scoreAll_21 rfl 0 rfl ?_
        refine zg_2_2 F t0 wF_X2_9 dX2_scoreAll_22 ?_
        refine z_iload_n F dX2_scoreAll_25 rfl 2 rfl ?_
        refine z_aload_n F dX2_scoreAll_26 rfl 0 rfl ?_
        refine z_aload_n F dX2_scoreAll_27 rfl 1 rfl ?_
        refine z_iload_n F dX2_scoreAll_28 rfl 2 rfl ?_
        obtain ⟨r_4, v_3, hq29, h⟩ := zbind_ex h
        refine z_callVi F [zr G x1, .int x2] [.int x2, zr G (zrf x0 2)] (kX2_scoreOf x.2.1 G x0 t0 x1 t1 x2 v_1 r_4 v_3 hq29) mI_X2_scoreOf (c := 2) rfl t0 wM_X2_151 mi_X2_scoreOf sl_X2_scoreOf dX2_scoreAll_29 rfl ⟨Nat.le_of_ble_eq_true rfl, Nat.le_of_ble_eq_true rfl⟩ rfl (Nat.le_of_ble_eq_true rfl) ⟨Nat.zero_le _, Nat.zero_le _⟩ ?_
        obtain ⟨v_5, hq32, h⟩ := zbindv_ex h
        refine z_callSNv F [zr G (zrf x0 2), .int x2, .int r_4] [] (kX9_set x.2.1 G (zrf x0 2) (zt_f tc_2_2 t0) x2 r_4 v_3 v_5 hq32) mI_X9_set wN_X2_92 ms_X9_set dX2_scoreAll_32 rfl ⟨Nat.le_of_ble_eq_true rfl, Nat.le_of_ble_eq_true rfl⟩ rfl (Nat.le_of_ble_eq_true rfl) ⟨Nat.zero_le _, Nat.zero_le _⟩ ?_
        refine z_iinc F [(2, .int (x2 + (1 : Int32))), (0, zr G x0), (1, zr G x1)] dX2_scoreAll_35 2 rfl rfl (Nat.le_of_ble_eq_true rfl) rfl ?_
        refine z_goto F 2 dX2_scoreAll_38 rfl ?_
        refine z_ls [(0, zr G x0), (1, zr G x1), (2, .int (x2 + (1 : Int32)))] [1, 2, 0] rfl ?_
        exact ih x0 t0 x1 t1 (x2 + (1 : Int32)) v_5 h

def fX2_scoreAll (x0 : Nat) (x1 : Nat) (v : zV) : Option zV :=
  fX2_scoreAll_2  zFU x0 x1 (0 : Int32) v
set_option maxRecDepth 4000 in
theorem kX2_scoreAll (l : Launch) (G : zG) (x0 : Nat) (t0 : zty G x0 1 2) (x1 : Nat) (t1 : zty G x1 1 7) (v : zV) (w : zV) (h : fX2_scoreAll x0 x1 v = some w) : zMet l yX2_scoreAll cX2_scoreAll 3 (Option.none : Option FieldType) 4 148 0 0 [zr G x0, zr G x1] G v none w := by
  refine zM_of (own := RX2) (by decide) rfl (Nat.le_of_ble_eq_true rfl) (fun x hl F hr hk hcs => ?_)
  subst hl
  refine z_ls [(0, zr G x0), (1, zr G x1)] [0, 1] rfl ?_
  unfold fX2_scoreAll at h
  refine z_iconst (y := (0 : Int32)) F dX2_scoreAll_0 rfl ?_
  refine z_istore_n F [(2, .int (0 : Int32)), (0, zr G x0), (1, zr G x1)] dX2_scoreAll_1 rfl (Nat.le_of_ble_eq_true rfl) rfl ?_
  refine z_ls [(0, zr G x0), (1, zr G x1), (2, .int (0 : Int32))] [1, 2, 0] rfl ?_
  exact jX2_scoreAll_2 x G F hr hk w   zFU x0 t0 x1 t1 (0 : Int32) v h

theorem dX2_eldest_0 : decode cX2_eldest 0 = .ok (.iconst (-1), 1) := by decide +kernel
theorem dX2_eldest_1 : decode cX2_eldest 1 = .ok (.istore_n 2, 1) := by decide +kernel
theorem dX2_eldest_2 : decode cX2_eldest 2 = .ok (.iconst 0, 1) := by decide +kernel
theorem dX2_eldest_3 : decode cX2_eldest 3 = .ok (.istore_n 3, 1) := by decide +kernel
theorem dX2_eldest_4 : decode cX2_eldest 4 = .ok (.iload_n 3, 1) := by decide +kernel
theorem dX2_eldest_5 : decode cX2_eldest 5 = .ok (.aload_n 0, 1) := by decide +kernel
theorem dX2_eldest_6 : decode cX2_eldest 6 = .ok (.getfield 15, 3) := by decide +kernel
theorem dX2_eldest_9 : decode cX2_eldest 9 = .ok (.getfield 82, 3) := by decide +kernel
theorem dX2_eldest_12 : decode cX2_eldest 12 = .ok (.if_icmp .ge 49, 3) := by decide +kernel
theorem dX2_eldest_15 : decode cX2_eldest 15 = .ok (.aload_n 1, 1) := by decide +kernel
theorem dX2_eldest_16 : decode cX2_eldest 16 = .ok (.iload_n 3, 1) := by decide +kernel
theorem dX2_eldest_17 : decode cX2_eldest 17 = .ok (.invokevirtual 85, 3) := by decide +kernel
theorem dX2_eldest_20 : decode cX2_eldest 20 = .ok (.ifCond .eq 35, 3) := by decide +kernel
theorem dX2_eldest_23 : decode cX2_eldest 23 = .ok (.iload_n 2, 1) := by decide +kernel
theorem dX2_eldest_24 : decode cX2_eldest 24 = .ok (.iconst (-1), 1) := by decide +kernel
theorem dX2_eldest_25 : decode cX2_eldest 25 = .ok (.if_icmp .eq 28, 3) := by decide +kernel
theorem dX2_eldest_28 : decode cX2_eldest 28 = .ok (.aload_n 0, 1) := by decide +kernel
theorem dX2_eldest_29 : decode cX2_eldest 29 = .ok (.getfield 15, 3) := by decide +kernel
theorem dX2_eldest_32 : decode cX2_eldest 32 = .ok (.getfield 160, 3) := by decide +kernel
theorem dX2_eldest_35 : decode cX2_eldest 35 = .ok (.iload_n 3, 1) := by decide +kernel
theorem dX2_eldest_36 : decode cX2_eldest 36 = .ok (.invokestatic 40, 3) := by decide +kernel
theorem dX2_eldest_39 : decode cX2_eldest 39 = .ok (.aload_n 0, 1) := by decide +kernel
theorem dX2_eldest_40 : decode cX2_eldest 40 = .ok (.getfield 15, 3) := by decide +kernel
theorem dX2_eldest_43 : decode cX2_eldest 43 = .ok (.getfield 160, 3) := by decide +kernel
theorem dX2_eldest_46 : decode cX2_eldest 46 = .ok (.iload_n 2, 1) := by decide +kernel
theorem dX2_eldest_47 : decode cX2_eldest 47 = .ok (.invokestatic 40, 3) := by decide +kernel
theorem dX2_eldest_50 : decode cX2_eldest 50 = .ok (.if_icmp .le 5, 3) := by decide +kernel
theorem dX2_eldest_53 : decode cX2_eldest 53 = .ok (.iload_n 3, 1) := by decide +kernel
theorem dX2_eldest_54 : decode cX2_eldest 54 = .ok (.istore_n 2, 1) := by decide +kernel
theorem dX2_eldest_55 : decode cX2_eldest 55 = .ok (.iinc 3 1, 3) := by decide +kernel
theorem dX2_eldest_58 : decode cX2_eldest 58 = .ok (.goto (-54), 3) := by decide +kernel
theorem dX2_eldest_61 : decode cX2_eldest 61 = .ok (.iload_n 2, 1) := by decide +kernel
theorem dX2_eldest_62 : decode cX2_eldest 62 = .ok (.ireturn, 1) := by decide +kernel
def fX2_eldest_4  : Nat → Nat → Nat → Int32 → Int32 → zV → Option (Int32 × zV)
  | 0 => fun _ _ _ _ _ => none
  | n + 1 => fun x0 x1 x2 x3 v =>
    if (v (zrf x0 0) 1) ≤ x3 then
      some (x2, v)
    else
      zbind (fX7_isWaiting x1 x3 v) fun r_2 v_1 =>
      if r_2 = (0 : Int32) then
        (fX2_eldest_4 n) x0 x1 x2 (x3 + (1 : Int32)) v_1
      else
        if x2 = (-1 : Int32) then
          (fX2_eldest_4 n) x0 x1 x3 (x3 + (1 : Int32)) v_1
        else
          zbind (fX9_get (zrf (zrf x0 0) 8) x3 v_1) fun r_4 v_3 =>
          zbind (fX9_get (zrf (zrf x0 0) 8) x2 v_3) fun r_6 v_5 =>
          if r_4 ≤ r_6 then
            (fX2_eldest_4 n) x0 x1 x2 (x3 + (1 : Int32)) v_5
          else
            (fX2_eldest_4 n) x0 x1 x3 (x3 + (1 : Int32)) v_5
set_option maxRecDepth 4000 in
theorem jX2_eldest_4 (x : zCx) (G : zG) (F : zF x G cX2_eldest 4 RX2 3 122) (hr : x.2.2.2.2.2.2.2.2.1.sig.returnType = (Option.some FieldType.int)) (hk : x.2.2.2.2.2.2.2.2.1.locks = false) (r : Int32) (w : zV)  : ∀ (n : Nat) (x0 : Nat) (t0 : zty G x0 1 2) (x1 : Nat) (t1 : zty G x1 1 7) (x2 : Int32) (x3 : Int32) (v : zV), fX2_eldest_4 n x0 x1 x2 x3 v = some (r, w) → zJ x G 4 (zQ x G (some (.int r)) w 0 0) 0 0 4 [(0, zr G x0), (1, zr G x1), (2, .int x2), (3, .int x3)] [] v := by
  intro n
  induction n with
  | zero => intro x0 t0 x1 t1 x2 x3 v h; exact absurd h (by intro q; cases q)
  | succ n ih =>
    intro x0 t0 x1 t1 x2 x3 v h
    rw [fX2_eldest_4] at h
    dsimp only at h
    refine z_iload_n F dX2_eldest_4 rfl 3 rfl ?_
    refine z_aload_n F dX2_eldest_5 rfl 0 rfl ?_
    refine zg_2_0 F t0 wF_X2_15 dX2_eldest_6 ?_
    refine zg_0_1 F (zt_f tc_2_0 t0) wF_X2_82 dX2_eldest_9 ?_
    refine z_icmp_ge F 61 dX2_eldest_12 rfl (fun hc => ?_) (fun hc => ?_)
    · replace h := zif_t hc h
      refine z_iload_n F dX2_eldest_61 rfl 2 rfl ?_
      cases h
      exact z_reti F hr hk dX2_eldest_62
    · replace h := zif_f hc h
      refine z_aload_n F dX2_eldest_15 rfl 1 rfl ?_
      refine z_iload_n F dX2_eldest_16 rfl 3 rfl ?_
      obtain ⟨r_2, v_1, hq17, h⟩ := zbind_ex h
      refine z_callVi F [.int x3] [] (kX7_isWaiting x.2.1 G x1 t1 x3 v r_2 v_1 hq17) mI_X7_isWaiting (c := 7) rfl t1 wM_X2_85 mi_X7_isWaiting sl_X7_isWaiting dX2_eldest_17 rfl ⟨Nat.le_of_ble_eq_true rfl, Nat.le_of_ble_eq_true rfl⟩ rfl (Nat.le_of_ble_eq_true rfl) ⟨Nat.zero_le _, Nat.zero_le _⟩ ?_
      refine z_if_eq F 55 dX2_eldest_20 rfl (fun hc => ?_) (fun hc => ?_)
      · replace h := zif_t hc h
        refine z_iinc F [(3, .int (x3 + (1 : Int32))), (0, zr G x0), (1, zr G x1), (2, .int x2)] dX2_eldest_55 3 rfl rfl (Nat.le_of_ble_eq_true rfl) rfl ?_
        refine z_goto F 4 dX2_eldest_58 rfl ?_
        refine z_ls [(0, zr G x0), (1, zr G x1), (2, .int x2), (3, .int (x3 + (1 : Int32)))] [1, 2, 3, 0] rfl ?_
        exact ih x0 t0 x1 t1 x2 (x3 + (1 : Int32)) v_1 h
      · replace h := zif_f hc h
        refine z_iload_n F dX2_eldest_23 rfl 2 rfl ?_
        refine z_iconst (y := (-1 : Int32)) F dX2_eldest_24 rfl ?_
        refine z_icmp_eq F 53 dX2_eldest_25 rfl (fun hc => ?_) (fun hc => ?_)
        · replace h := zif_t hc h
          refine z_iload_n F dX2_eldest_53 rfl 3 rfl ?_
          refine z_istore_n F [(2, .int x3), (0, zr G x0), (1, zr G x1), (3, .int x3)] dX2_eldest_54 rfl (Nat.le_of_ble_eq_true rfl) rfl ?_
          refine z_iinc F [(3, .int (x3 + (1 : Int32))), (2, .int x3), (0, zr G x0), (1, zr G x1)] dX2_eldest_55 3 rfl rfl (Nat.le_of_ble_eq_true rfl) rfl ?_
          refine z_goto F 4 dX2_eldest_58 rfl ?_
          refine z_ls [(0, zr G x0), (1, zr G x1), (2, .int x3), (3, .int (x3 + (1 : Int32)))] [2, 3, 1, 0] rfl ?_
          exact ih x0 t0 x1 t1 x3 (x3 + (1 : Int32)) v_1 h
        · replace h := zif_f hc h
          refine z_aload_n F dX2_eldest_28 rfl 0 rfl ?_
          refine zg_2_0 F t0 wF_X2_15 dX2_eldest_29 ?_
          refine zg_0_8 F (zt_f tc_2_0 t0) wF_X2_160 dX2_eldest_32 ?_
          refine z_iload_n F dX2_eldest_35 rfl 3 rfl ?_
          obtain ⟨r_4, v_3, hq36, h⟩ := zbind_ex h
          refine z_callSNi F [zr G (zrf (zrf x0 0) 8), .int x3] [] (kX9_get x.2.1 G (zrf (zrf x0 0) 8) (zt_f tc_0_8 (zt_f tc_2_0 t0)) x3 v_1 r_4 v_3 hq36) mI_X9_get wN_X2_40 ms_X9_get dX2_eldest_36 rfl ⟨Nat.le_of_ble_eq_true rfl, Nat.le_of_ble_eq_true rfl⟩ rfl (Nat.le_of_ble_eq_true rfl) ⟨Nat.zero_le _, Nat.zero_le _⟩ ?_
          refine z_aload_n F dX2_eldest_39 rfl 0 rfl ?_
          refine zg_2_0 F t0 wF_X2_15 dX2_eldest_40 ?_
          refine zg_0_8 F (zt_f tc_2_0 t0) wF_X2_160 dX2_eldest_43 ?_
          refine z_iload_n F dX2_eldest_46 rfl 2 rfl ?_
          obtain ⟨r_6, v_5, hq47, h⟩ := zbind_ex h
          refine z_callSNi F [zr G (zrf (zrf x0 0) 8), .int x2] [.int r_4] (kX9_get x.2.1 G (zrf (zrf x0 0) 8) (zt_f tc_0_8 (zt_f tc_2_0 t0)) x2 v_3 r_6 v_5 hq47) mI_X9_get wN_X2_40 ms_X9_get dX2_eldest_47 rfl ⟨Nat.le_of_ble_eq_true rfl, Nat.le_of_ble_eq_true rfl⟩ rfl (Nat.le_of_ble_eq_true rfl) ⟨Nat.zero_le _, Nat.zero_le _⟩ ?_
          refine z_icmp_le F 55 dX2_eldest_50 rfl (fun hc => ?_) (fun hc => ?_)
          · replace h := zif_t hc h
            refine z_iinc F [(3, .int (x3 + (1 : Int32))), (0, zr G x0), (1, zr G x1), (2, .int x2)] dX2_eldest_55 3 rfl rfl (Nat.le_of_ble_eq_true rfl) rfl ?_
            refine z_goto F 4 dX2_eldest_58 rfl ?_
            refine z_ls [(0, zr G x0), (1, zr G x1), (2, .int x2), (3, .int (x3 + (1 : Int32)))] [1, 2, 3, 0] rfl ?_
            exact ih x0 t0 x1 t1 x2 (x3 + (1 : Int32)) v_5 h
          · replace h := zif_f hc h
            refine z_iload_n F dX2_eldest_53 rfl 3 rfl ?_
            refine z_istore_n F [(2, .int x3), (0, zr G x0), (1, zr G x1), (3, .int x3)] dX2_eldest_54 rfl (Nat.le_of_ble_eq_true rfl) rfl ?_
            refine z_iinc F [(3, .int (x3 + (1 : Int32))), (2, .int x3), (0, zr G x0), (1, zr G x1)] dX2_eldest_55 3 rfl rfl (Nat.le_of_ble_eq_true rfl) rfl ?_
            refine z_goto F 4 dX2_eldest_58 rfl ?_
            refine z_ls [(0, zr G x0), (1, zr G x1), (2, .int x3), (3, .int (x3 + (1 : Int32)))] [2, 3, 1, 0] rfl ?_
            exact ih x0 t0 x1 t1 x3 (x3 + (1 : Int32)) v_5 h

def fX2_eldest (x0 : Nat) (x1 : Nat) (v : zV) : Option (Int32 × zV) :=
  fX2_eldest_4  zFU x0 x1 (-1 : Int32) (0 : Int32) v
set_option maxRecDepth 4000 in
theorem kX2_eldest (l : Launch) (G : zG) (x0 : Nat) (t0 : zty G x0 1 2) (x1 : Nat) (t1 : zty G x1 1 7) (v : zV) (r : Int32) (w : zV) (h : fX2_eldest x0 x1 v = some (r, w)) : zMet l yX2_eldest cX2_eldest 4 (Option.some FieldType.int) 3 122 0 0 [zr G x0, zr G x1] G v (some (.int r)) w := by
  refine zM_of (own := RX2) (by decide) rfl (Nat.le_of_ble_eq_true rfl) (fun x hl F hr hk hcs => ?_)
  subst hl
  refine z_ls [(0, zr G x0), (1, zr G x1)] [0, 1] rfl ?_
  unfold fX2_eldest at h
  refine z_iconst (y := (-1 : Int32)) F dX2_eldest_0 rfl ?_
  refine z_istore_n F [(2, .int (-1 : Int32)), (0, zr G x0), (1, zr G x1)] dX2_eldest_1 rfl (Nat.le_of_ble_eq_true rfl) rfl ?_
  refine z_iconst (y := (0 : Int32)) F dX2_eldest_2 rfl ?_
  refine z_istore_n F [(3, .int (0 : Int32)), (2, .int (-1 : Int32)), (0, zr G x0), (1, zr G x1)] dX2_eldest_3 rfl (Nat.le_of_ble_eq_true rfl) rfl ?_
  refine z_ls [(0, zr G x0), (1, zr G x1), (2, .int (-1 : Int32)), (3, .int (0 : Int32))] [2, 3, 1, 0] rfl ?_
  exact jX2_eldest_4 x G F hr hk r w   zFU x0 t0 x1 t1 (-1 : Int32) (0 : Int32) v h

theorem dX2_greatest_0 : decode cX2_greatest 0 = .ok (.iconst (-1), 1) := by decide +kernel
theorem dX2_greatest_1 : decode cX2_greatest 1 = .ok (.istore_n 2, 1) := by decide +kernel
theorem dX2_greatest_2 : decode cX2_greatest 2 = .ok (.iconst 0, 1) := by decide +kernel
theorem dX2_greatest_3 : decode cX2_greatest 3 = .ok (.istore_n 3, 1) := by decide +kernel
theorem dX2_greatest_4 : decode cX2_greatest 4 = .ok (.iconst 0, 1) := by decide +kernel
theorem dX2_greatest_5 : decode cX2_greatest 5 = .ok (.istore 4, 2) := by decide +kernel
theorem dX2_greatest_7 : decode cX2_greatest 7 = .ok (.iload 4, 2) := by decide +kernel
theorem dX2_greatest_9 : decode cX2_greatest 9 = .ok (.aload_n 0, 1) := by decide +kernel
theorem dX2_greatest_10 : decode cX2_greatest 10 = .ok (.getfield 15, 3) := by decide +kernel
theorem dX2_greatest_13 : decode cX2_greatest 13 = .ok (.getfield 82, 3) := by decide +kernel
theorem dX2_greatest_16 : decode cX2_greatest 16 = .ok (.if_icmp .ge 54, 3) := by decide +kernel
theorem dX2_greatest_19 : decode cX2_greatest 19 = .ok (.aload_n 0, 1) := by decide +kernel
theorem dX2_greatest_20 : decode cX2_greatest 20 = .ok (.getfield 9, 3) := by decide +kernel
theorem dX2_greatest_23 : decode cX2_greatest 23 = .ok (.iload 4, 2) := by decide +kernel
theorem dX2_greatest_25 : decode cX2_greatest 25 = .ok (.invokestatic 40, 3) := by decide +kernel
theorem dX2_greatest_28 : decode cX2_greatest 28 = .ok (.istore 5, 2) := by decide +kernel
theorem dX2_greatest_30 : decode cX2_greatest 30 = .ok (.aload_n 1, 1) := by decide +kernel
theorem dX2_greatest_31 : decode cX2_greatest 31 = .ok (.iload 4, 2) := by decide +kernel
theorem dX2_greatest_33 : decode cX2_greatest 33 = .ok (.invokevirtual 85, 3) := by decide +kernel
theorem dX2_greatest_36 : decode cX2_greatest 36 = .ok (.ifCond .eq 28, 3) := by decide +kernel
theorem dX2_greatest_39 : decode cX2_greatest 39 = .ok (.iload 5, 2) := by decide +kernel
theorem dX2_greatest_41 : decode cX2_greatest 41 = .ok (.iload_n 3, 1) := by decide +kernel
theorem dX2_greatest_42 : decode cX2_greatest 42 = .ok (.if_icmp .ge 6, 3) := by decide +kernel
theorem dX2_greatest_45 : decode cX2_greatest 45 = .ok (.goto 19, 3) := by decide +kernel
theorem dX2_greatest_48 : decode cX2_greatest 48 = .ok (.iload 5, 2) := by decide +kernel
theorem dX2_greatest_50 : decode cX2_greatest 50 = .ok (.iload_n 3, 1) := by decide +kernel
theorem dX2_greatest_51 : decode cX2_greatest 51 = .ok (.if_icmp .le 8, 3) := by decide +kernel
theorem dX2_greatest_54 : decode cX2_greatest 54 = .ok (.iload 4, 2) := by decide +kernel
theorem dX2_greatest_56 : decode cX2_greatest 56 = .ok (.goto 4, 3) := by decide +kernel
theorem dX2_greatest_59 : decode cX2_greatest 59 = .ok (.iconst (-1), 1) := by decide +kernel
theorem dX2_greatest_60 : decode cX2_greatest 60 = .ok (.istore_n 2, 1) := by decide +kernel
theorem dX2_greatest_61 : decode cX2_greatest 61 = .ok (.iload 5, 2) := by decide +kernel
theorem dX2_greatest_63 : decode cX2_greatest 63 = .ok (.istore_n 3, 1) := by decide +kernel
theorem dX2_greatest_64 : decode cX2_greatest 64 = .ok (.iinc 4 1, 3) := by decide +kernel
theorem dX2_greatest_67 : decode cX2_greatest 67 = .ok (.goto (-60), 3) := by decide +kernel
theorem dX2_greatest_70 : decode cX2_greatest 70 = .ok (.iload_n 2, 1) := by decide +kernel
theorem dX2_greatest_71 : decode cX2_greatest 71 = .ok (.ireturn, 1) := by decide +kernel
def fX2_greatest_7  : Nat → Nat → Nat → Int32 → Int32 → Int32 → zV → Option (Int32 × zV)
  | 0 => fun _ _ _ _ _ _ => none
  | n + 1 => fun x0 x1 x2 x3 x4 v =>
    if (v (zrf x0 0) 1) ≤ x4 then
      some (x2, v)
    else
      zbind (fX9_get (zrf x0 2) x4 v) fun r_2 v_1 =>
      zbind (fX7_isWaiting x1 x4 v_1) fun r_4 v_3 =>
      if r_4 = (0 : Int32) then
        (fX2_greatest_7 n) x0 x1 x2 x3 (x4 + (1 : Int32)) v_3
      else
        if x3 ≤ r_2 then
          if r_2 ≤ x3 then
            (fX2_greatest_7 n) x0 x1 (-1 : Int32) r_2 (x4 + (1 : Int32)) v_3
          else
            (fX2_greatest_7 n) x0 x1 x4 r_2 (x4 + (1 : Int32)) v_3
        else
          (fX2_greatest_7 n) x0 x1 x2 x3 (x4 + (1 : Int32)) v_3
set_option maxRecDepth 4000 in
theorem jX2_greatest_7 (x : zCx) (G : zG) (F : zF x G cX2_greatest 6 RX2 3 122) (hr : x.2.2.2.2.2.2.2.2.1.sig.returnType = (Option.some FieldType.int)) (hk : x.2.2.2.2.2.2.2.2.1.locks = false) (r : Int32) (w : zV)  : ∀ (n : Nat) (x0 : Nat) (t0 : zty G x0 1 2) (x1 : Nat) (t1 : zty G x1 1 7) (x2 : Int32) (x3 : Int32) (x4 : Int32) (v : zV), fX2_greatest_7 n x0 x1 x2 x3 x4 v = some (r, w) → zJ x G 6 (zQ x G (some (.int r)) w 0 0) 0 0 7 [(0, zr G x0), (1, zr G x1), (2, .int x2), (3, .int x3), (4, .int x4)] [] v := by
  intro n
  induction n with
  | zero => intro x0 t0 x1 t1 x2 x3 x4 v h; exact absurd h (by intro q; cases q)
  | succ n ih =>
    intro x0 t0 x1 t1 x2 x3 x4 v h
    rw [fX2_greatest_7] at h
    dsimp only at h
    refine z_iload F dX2_greatest_7 4 rfl ?_
    refine z_aload_n F dX2_greatest_9 rfl 0 rfl ?_
    refine zg_2_0 F t0 wF_X2_15 dX2_greatest_10 ?_
    refine zg_0_1 F (zt_f tc_2_0 t0) wF_X2_82 dX2_greatest_13 ?_
    refine z_icmp_ge F 70 dX2_greatest_16 rfl (fun hc => ?_) (fun hc => ?_)
    · replace h := zif_t hc h
      refine z_iload_n F dX2_greatest_70 rfl 2 rfl ?_
      cases h
      exact z_reti F hr hk dX2_greatest_71
    · replace h := zif_f hc h
      refine z_aload_n F dX2_greatest_19 rfl 0 rfl ?_
      refine zg_2_2 F t0 wF_X2_9 dX2_greatest_20 ?_
      refine z_iload F dX2_greatest_23 4 rfl ?_
      obtain ⟨r_2, v_1, hq25, h⟩ := zbind_ex h
      refine z_callSNi F [zr G (zrf x0 2), .int x4] [] (kX9_get x.2.1 G (zrf x0 2) (zt_f tc_2_2 t0) x4 v r_2 v_1 hq25) mI_X9_get wN_X2_40 ms_X9_get dX2_greatest_25 rfl ⟨Nat.le_of_ble_eq_true rfl, Nat.le_of_ble_eq_true rfl⟩ rfl (Nat.le_of_ble_eq_true rfl) ⟨Nat.zero_le _, Nat.zero_le _⟩ ?_
      refine z_istore (n := 0) F [(5, .int r_2), (0, zr G x0), (1, zr G x1), (2, .int x2), (3, .int x3), (4, .int x4)] dX2_greatest_28 (Nat.le_of_ble_eq_true rfl) rfl ?_
      refine z_aload_n F dX2_greatest_30 rfl 2 rfl ?_
      refine z_iload F dX2_greatest_31 5 rfl ?_
      obtain ⟨r_4, v_3, hq33, h⟩ := zbind_ex h
      refine z_callVi F [.int x4] [] (kX7_isWaiting x.2.1 G x1 t1 x4 v_1 r_4 v_3 hq33) mI_X7_isWaiting (c := 7) rfl t1 wM_X2_85 mi_X7_isWaiting sl_X7_isWaiting dX2_greatest_33 rfl ⟨Nat.le_of_ble_eq_true rfl, Nat.le_of_ble_eq_true rfl⟩ rfl (Nat.le_of_ble_eq_true rfl) ⟨Nat.zero_le _, Nat.zero_le _⟩ ?_
      refine z_if_eq F 64 dX2_greatest_36 rfl (fun hc => ?_) (fun hc => ?_)
      · replace h := zif_t hc h
        refine z_iinc F [(4, .int (x4 + (1 : Int32))), (5, .int r_2), (0, zr G x0), (1, zr G x1), (2, .int x2), (3, .int x3)] dX2_greatest_64 5 rfl rfl (Nat.le_of_ble_eq_true rfl) rfl ?_
        refine z_goto F 7 dX2_greatest_67 rfl ?_
        refine z_ls [(0, zr G x0), (1, zr G x1), (2, .int x2), (3, .int x3), (4, .int (x4 + (1 : Int32)))] [2, 3, 4, 5, 0] rfl ?_
        exact ih x0 t0 x1 t1 x2 x3 (x4 + (1 : Int32)) v_3 h
      · replace h := zif_f hc h
        refine z_iload F dX2_greatest_39 0 rfl ?_
        refine z_iload_n F dX2_greatest_41 rfl 4 rfl ?_
        refine z_icmp_ge F 48 dX2_greatest_42 rfl (fun hc => ?_) (fun hc => ?_)
        · replace h := zif_t hc h
          refine z_iload F dX2_greatest_48 0 rfl ?_
          refine z_iload_n F dX2_greatest_50 rfl 4 rfl ?_
          refine z_icmp_le F 59 dX2_greatest_51 rfl (fun hc => ?_) (fun hc => ?_)
          · replace h := zif_t hc h
            refine z_iconst (y := (-1 : Int32)) F dX2_greatest_59 rfl ?_
            refine z_istore_n F [(2, .int (-1 : Int32)), (5, .int r_2), (0, zr G x0), (1, zr G x1), (3, .int x3), (4, .int x4)] dX2_greatest_60 rfl (Nat.le_of_ble_eq_true rfl) rfl ?_
            refine z_iload F dX2_greatest_61 1 rfl ?_
            refine z_istore_n F [(3, .int r_2), (2, .int (-1 : Int32)), (5, .int r_2), (0, zr G x0), (1, zr G x1), (4, .int x4)] dX2_greatest_63 rfl (Nat.le_of_ble_eq_true rfl) rfl ?_
            refine z_iinc F [(4, .int (x4 + (1 : Int32))), (3, .int r_2), (2, .int (-1 : Int32)), (5, .int r_2), (0, zr G x0), (1, zr G x1)] dX2_greatest_64 5 rfl rfl (Nat.le_of_ble_eq_true rfl) rfl ?_
            refine z_goto F 7 dX2_greatest_67 rfl ?_
            refine z_ls [(0, zr G x0), (1, zr G x1), (2, .int (-1 : Int32)), (3, .int r_2), (4, .int (x4 + (1 : Int32)))] [4, 5, 2, 1, 0] rfl ?_
            exact ih x0 t0 x1 t1 (-1 : Int32) r_2 (x4 + (1 : Int32)) v_3 h
          · replace h := zif_f hc h
            refine z_iload F dX2_greatest_54 5 rfl ?_
            refine z_goto F 60 dX2_greatest_56 rfl ?_
            refine z_istore_n F [(2, .int x4), (5, .int r_2), (0, zr G x0), (1, zr G x1), (3, .int x3), (4, .int x4)] dX2_greatest_60 rfl (Nat.le_of_ble_eq_true rfl) rfl ?_
            refine z_iload F dX2_greatest_61 1 rfl ?_
            refine z_istore_n F [(3, .int r_2), (2, .int x4), (5, .int r_2), (0, zr G x0), (1, zr G x1), (4, .int x4)] dX2_greatest_63 rfl (Nat.le_of_ble_eq_true rfl) rfl ?_
            refine z_iinc F [(4, .int (x4 + (1 : Int32))), (3, .int r_2), (2, .int x4), (5, .int r_2), (0, zr G x0), (1, zr G x1)] dX2_greatest_64 5 rfl rfl (Nat.le_of_ble_eq_true rfl) rfl ?_
            refine z_goto F 7 dX2_greatest_67 rfl ?_
            refine z_ls [(0, zr G x0), (1, zr G x1), (2, .int x4), (3, .int r_2), (4, .int (x4 + (1 : Int32)))] [4, 5, 2, 1, 0] rfl ?_
            exact ih x0 t0 x1 t1 x4 r_2 (x4 + (1 : Int32)) v_3 h
        · replace h := zif_f hc h
          refine z_goto F 64 dX2_greatest_45 rfl ?_
          refine z_iinc F [(4, .int (x4 + (1 : Int32))), (5, .int r_2), (0, zr G x0), (1, zr G x1), (2, .int x2), (3, .int x3)] dX2_greatest_64 5 rfl rfl (Nat.le_of_ble_eq_true rfl) rfl ?_
          refine z_goto F 7 dX2_greatest_67 rfl ?_
          refine z_ls [(0, zr G x0), (1, zr G x1), (2, .int x2), (3, .int x3), (4, .int (x4 + (1 : Int32)))] [2, 3, 4, 5, 0] rfl ?_
          exact ih x0 t0 x1 t1 x2 x3 (x4 + (1 : Int32)) v_3 h

def fX2_greatest (x0 : Nat) (x1 : Nat) (v : zV) : Option (Int32 × zV) :=
  fX2_greatest_7  zFU x0 x1 (-1 : Int32) (0 : Int32) (0 : Int32) v
set_option maxRecDepth 4000 in
theorem kX2_greatest (l : Launch) (G : zG) (x0 : Nat) (t0 : zty G x0 1 2) (x1 : Nat) (t1 : zty G x1 1 7) (v : zV) (r : Int32) (w : zV) (h : fX2_greatest x0 x1 v = some (r, w)) : zMet l yX2_greatest cX2_greatest 6 (Option.some FieldType.int) 3 122 0 0 [zr G x0, zr G x1] G v (some (.int r)) w := by
  refine zM_of (own := RX2) (by decide) rfl (Nat.le_of_ble_eq_true rfl) (fun x hl F hr hk hcs => ?_)
  subst hl
  refine z_ls [(0, zr G x0), (1, zr G x1)] [0, 1] rfl ?_
  unfold fX2_greatest at h
  refine z_iconst (y := (-1 : Int32)) F dX2_greatest_0 rfl ?_
  refine z_istore_n F [(2, .int (-1 : Int32)), (0, zr G x0), (1, zr G x1)] dX2_greatest_1 rfl (Nat.le_of_ble_eq_true rfl) rfl ?_
  refine z_iconst (y := (0 : Int32)) F dX2_greatest_2 rfl ?_
  refine z_istore_n F [(3, .int (0 : Int32)), (2, .int (-1 : Int32)), (0, zr G x0), (1, zr G x1)] dX2_greatest_3 rfl (Nat.le_of_ble_eq_true rfl) rfl ?_
  refine z_iconst (y := (0 : Int32)) F dX2_greatest_4 rfl ?_
  refine z_istore (n := 0) F [(4, .int (0 : Int32)), (3, .int (0 : Int32)), (2, .int (-1 : Int32)), (0, zr G x0), (1, zr G x1)] dX2_greatest_5 (Nat.le_of_ble_eq_true rfl) rfl ?_
  refine z_ls [(0, zr G x0), (1, zr G x1), (2, .int (-1 : Int32)), (3, .int (0 : Int32)), (4, .int (0 : Int32))] [3, 4, 2, 1, 0] rfl ?_
  exact jX2_greatest_7 x G F hr hk r w   zFU x0 t0 x1 t1 (-1 : Int32) (0 : Int32) (0 : Int32) v h

theorem dX2_choose_0 : decode cX2_choose 0 = .ok (.aload_n 1, 1) := by decide +kernel
theorem dX2_choose_1 : decode cX2_choose 1 = .ok (.getfield 72, 3) := by decide +kernel
theorem dX2_choose_4 : decode cX2_choose 4 = .ok (.iconst 1, 1) := by decide +kernel
theorem dX2_choose_5 : decode cX2_choose 5 = .ok (.if_icmp .ge 11, 3) := by decide +kernel
theorem dX2_choose_8 : decode cX2_choose 8 = .ok (.aload_n 0, 1) := by decide +kernel
theorem dX2_choose_9 : decode cX2_choose 9 = .ok (.aload_n 1, 1) := by decide +kernel
theorem dX2_choose_10 : decode cX2_choose 10 = .ok (.invokevirtual 154, 3) := by decide +kernel
theorem dX2_choose_13 : decode cX2_choose 13 = .ok (.goto 8, 3) := by decide +kernel
theorem dX2_choose_16 : decode cX2_choose 16 = .ok (.aload_n 0, 1) := by decide +kernel
theorem dX2_choose_17 : decode cX2_choose 17 = .ok (.aload_n 1, 1) := by decide +kernel
theorem dX2_choose_18 : decode cX2_choose 18 = .ok (.invokevirtual 157, 3) := by decide +kernel
theorem dX2_choose_21 : decode cX2_choose 21 = .ok (.ireturn, 1) := by decide +kernel
def fX2_choose (x0 : Nat) (x1 : Nat) (v : zV) : Option (Int32 × zV) :=
  if (1 : Int32) ≤ (v x1 1) then
    zbind (fX2_greatest x0 x1 v) fun r_2 v_1 =>
    some (r_2, v_1)
  else
    zbind (fX2_eldest x0 x1 v) fun r_4 v_3 =>
    some (r_4, v_3)
set_option maxRecDepth 4000 in
theorem kX2_choose (l : Launch) (G : zG) (x0 : Nat) (t0 : zty G x0 1 2) (x1 : Nat) (t1 : zty G x1 1 7) (v : zV) (r : Int32) (w : zV) (h : fX2_choose x0 x1 v = some (r, w)) : zMet l yX2_choose cX2_choose 2 (Option.some FieldType.int) 4 147 0 0 [zr G x0, zr G x1] G v (some (.int r)) w := by
  refine zM_of (own := RX2) (by decide) rfl (Nat.le_of_ble_eq_true rfl) (fun x hl F hr hk hcs => ?_)
  subst hl
  refine z_ls [(0, zr G x0), (1, zr G x1)] [0, 1] rfl ?_
  unfold fX2_choose at h
  refine z_aload_n F dX2_choose_0 rfl 1 rfl ?_
  refine zg_7_1 F t1 wF_X2_72 dX2_choose_1 ?_
  refine z_iconst (y := (1 : Int32)) F dX2_choose_4 rfl ?_
  refine z_icmp_ge F 16 dX2_choose_5 rfl (fun hc => ?_) (fun hc => ?_)
  · replace h := zif_t hc h
    refine z_aload_n F dX2_choose_16 rfl 0 rfl ?_
    refine z_aload_n F dX2_choose_17 rfl 1 rfl ?_
    obtain ⟨r_2, v_1, hq18, h⟩ := zbind_ex h
    refine z_callVi F [zr G x1] [] (kX2_greatest x.2.1 G x0 t0 x1 t1 v r_2 v_1 hq18) mI_X2_greatest (c := 2) rfl t0 wM_X2_157 mi_X2_greatest sl_X2_greatest dX2_choose_18 rfl ⟨Nat.le_of_ble_eq_true rfl, Nat.le_of_ble_eq_true rfl⟩ rfl (Nat.le_of_ble_eq_true rfl) ⟨Nat.zero_le _, Nat.zero_le _⟩ ?_
    cases h
    exact z_reti F hr hk dX2_choose_21
  · replace h := zif_f hc h
    refine z_aload_n F dX2_choose_8 rfl 0 rfl ?_
    refine z_aload_n F dX2_choose_9 rfl 1 rfl ?_
    obtain ⟨r_4, v_3, hq10, h⟩ := zbind_ex h
    refine z_callVi F [zr G x1] [] (kX2_eldest x.2.1 G x0 t0 x1 t1 v r_4 v_3 hq10) mI_X2_eldest (c := 2) rfl t0 wM_X2_154 mi_X2_eldest sl_X2_eldest dX2_choose_10 rfl ⟨Nat.le_of_ble_eq_true rfl, Nat.le_of_ble_eq_true rfl⟩ rfl (Nat.le_of_ble_eq_true rfl) ⟨Nat.zero_le _, Nat.zero_le _⟩ ?_
    refine z_goto F 21 dX2_choose_13 rfl ?_
    cases h
    exact z_reti F hr hk dX2_choose_21

theorem dX2_settle_0 : decode cX2_settle 0 = .ok (.aload_n 0, 1) := by decide +kernel
theorem dX2_settle_1 : decode cX2_settle 1 = .ok (.aload_n 1, 1) := by decide +kernel
theorem dX2_settle_2 : decode cX2_settle 2 = .ok (.invokevirtual 56, 3) := by decide +kernel
theorem dX2_settle_5 : decode cX2_settle 5 = .ok (.aload_n 0, 1) := by decide +kernel
theorem dX2_settle_6 : decode cX2_settle 6 = .ok (.aload_n 1, 1) := by decide +kernel
theorem dX2_settle_7 : decode cX2_settle 7 = .ok (.invokevirtual 59, 3) := by decide +kernel
theorem dX2_settle_10 : decode cX2_settle 10 = .ok (.istore_n 2, 1) := by decide +kernel
theorem dX2_settle_11 : decode cX2_settle 11 = .ok (.iload_n 2, 1) := by decide +kernel
theorem dX2_settle_12 : decode cX2_settle 12 = .ok (.iconst (-1), 1) := by decide +kernel
theorem dX2_settle_13 : decode cX2_settle 13 = .ok (.if_icmp .ne 16, 3) := by decide +kernel
theorem dX2_settle_16 : decode cX2_settle 16 = .ok (.aload_n 1, 1) := by decide +kernel
theorem dX2_settle_17 : decode cX2_settle 17 = .ok (.dup, 1) := by decide +kernel
theorem dX2_settle_18 : decode cX2_settle 18 = .ok (.getfield 62, 3) := by decide +kernel
theorem dX2_settle_21 : decode cX2_settle 21 = .ok (.iconst 1, 1) := by decide +kernel
theorem dX2_settle_22 : decode cX2_settle 22 = .ok (.iadd, 1) := by decide +kernel
theorem dX2_settle_23 : decode cX2_settle 23 = .ok (.putfield 62, 3) := by decide +kernel
theorem dX2_settle_26 : decode cX2_settle 26 = .ok (.goto 22, 3) := by decide +kernel
theorem dX2_settle_29 : decode cX2_settle 29 = .ok (.aload_n 1, 1) := by decide +kernel
theorem dX2_settle_30 : decode cX2_settle 30 = .ok (.dup, 1) := by decide +kernel
theorem dX2_settle_31 : decode cX2_settle 31 = .ok (.getfield 65, 3) := by decide +kernel
theorem dX2_settle_34 : decode cX2_settle 34 = .ok (.iconst 1, 1) := by decide +kernel
theorem dX2_settle_35 : decode cX2_settle 35 = .ok (.iadd, 1) := by decide +kernel
theorem dX2_settle_36 : decode cX2_settle 36 = .ok (.putfield 65, 3) := by decide +kernel
theorem dX2_settle_39 : decode cX2_settle 39 = .ok (.aload_n 1, 1) := by decide +kernel
theorem dX2_settle_40 : decode cX2_settle 40 = .ok (.iload_n 2, 1) := by decide +kernel
theorem dX2_settle_41 : decode cX2_settle 41 = .ok (.aload_n 1, 1) := by decide +kernel
theorem dX2_settle_42 : decode cX2_settle 42 = .ok (.getfield 44, 3) := by decide +kernel
theorem dX2_settle_45 : decode cX2_settle 45 = .ok (.invokevirtual 68, 3) := by decide +kernel
theorem dX2_settle_48 : decode cX2_settle 48 = .ok (.aload_n 1, 1) := by decide +kernel
theorem dX2_settle_49 : decode cX2_settle 49 = .ok (.getfield 72, 3) := by decide +kernel
theorem dX2_settle_52 : decode cX2_settle 52 = .ok (.aload_n 0, 1) := by decide +kernel
theorem dX2_settle_53 : decode cX2_settle 53 = .ok (.getfield 15, 3) := by decide +kernel
theorem dX2_settle_56 : decode cX2_settle 56 = .ok (.getfield 75, 3) := by decide +kernel
theorem dX2_settle_59 : decode cX2_settle 59 = .ok (.if_icmp .le 8, 3) := by decide +kernel
theorem dX2_settle_62 : decode cX2_settle 62 = .ok (.aload_n 1, 1) := by decide +kernel
theorem dX2_settle_63 : decode cX2_settle 63 = .ok (.iconst 0, 1) := by decide +kernel
theorem dX2_settle_64 : decode cX2_settle 64 = .ok (.invokevirtual 78, 3) := by decide +kernel
theorem dX2_settle_67 : decode cX2_settle 67 = .ok (.iconst 0, 1) := by decide +kernel
theorem dX2_settle_68 : decode cX2_settle 68 = .ok (.istore_n 3, 1) := by decide +kernel
theorem dX2_settle_69 : decode cX2_settle 69 = .ok (.iload_n 3, 1) := by decide +kernel
theorem dX2_settle_70 : decode cX2_settle 70 = .ok (.aload_n 0, 1) := by decide +kernel
theorem dX2_settle_71 : decode cX2_settle 71 = .ok (.getfield 15, 3) := by decide +kernel
theorem dX2_settle_74 : decode cX2_settle 74 = .ok (.getfield 82, 3) := by decide +kernel
theorem dX2_settle_77 : decode cX2_settle 77 = .ok (.if_icmp .ge 35, 3) := by decide +kernel
theorem dX2_settle_80 : decode cX2_settle 80 = .ok (.aload_n 1, 1) := by decide +kernel
theorem dX2_settle_81 : decode cX2_settle 81 = .ok (.iload_n 3, 1) := by decide +kernel
theorem dX2_settle_82 : decode cX2_settle 82 = .ok (.invokevirtual 85, 3) := by decide +kernel
theorem dX2_settle_85 : decode cX2_settle 85 = .ok (.ifCond .eq 21, 3) := by decide +kernel
theorem dX2_settle_88 : decode cX2_settle 88 = .ok (.aload_n 1, 1) := by decide +kernel
theorem dX2_settle_89 : decode cX2_settle 89 = .ok (.getfield 89, 3) := by decide +kernel
theorem dX2_settle_92 : decode cX2_settle 92 = .ok (.iload_n 3, 1) := by decide +kernel
theorem dX2_settle_93 : decode cX2_settle 93 = .ok (.aload_n 1, 1) := by decide +kernel
theorem dX2_settle_94 : decode cX2_settle 94 = .ok (.getfield 89, 3) := by decide +kernel
theorem dX2_settle_97 : decode cX2_settle 97 = .ok (.iload_n 3, 1) := by decide +kernel
theorem dX2_settle_98 : decode cX2_settle 98 = .ok (.invokestatic 40, 3) := by decide +kernel
theorem dX2_settle_101 : decode cX2_settle 101 = .ok (.iconst 1, 1) := by decide +kernel
theorem dX2_settle_102 : decode cX2_settle 102 = .ok (.iadd, 1) := by decide +kernel
theorem dX2_settle_103 : decode cX2_settle 103 = .ok (.invokestatic 92, 3) := by decide +kernel
theorem dX2_settle_106 : decode cX2_settle 106 = .ok (.iinc 3 1, 3) := by decide +kernel
theorem dX2_settle_109 : decode cX2_settle 109 = .ok (.goto (-40), 3) := by decide +kernel
theorem dX2_settle_112 : decode cX2_settle 112 = .ok (.aload_n 1, 1) := by decide +kernel
theorem dX2_settle_113 : decode cX2_settle 113 = .ok (.dup, 1) := by decide +kernel
theorem dX2_settle_114 : decode cX2_settle 114 = .ok (.getfield 44, 3) := by decide +kernel
theorem dX2_settle_117 : decode cX2_settle 117 = .ok (.iconst 1, 1) := by decide +kernel
theorem dX2_settle_118 : decode cX2_settle 118 = .ok (.iadd, 1) := by decide +kernel
theorem dX2_settle_119 : decode cX2_settle 119 = .ok (.putfield 44, 3) := by decide +kernel
theorem dX2_settle_122 : decode cX2_settle 122 = .ok (.iload_n 2, 1) := by decide +kernel
theorem dX2_settle_123 : decode cX2_settle 123 = .ok (.ireturn, 1) := by decide +kernel
def fX2_settle_69  : Nat → Nat → Nat → Int32 → Int32 → zV → Option (Int32 × zV)
  | 0 => fun _ _ _ _ _ => none
  | n + 1 => fun x0 x1 x2 x3 v =>
    if (v (zrf x0 0) 1) ≤ x3 then
      zlet (zup v x1 0 ((v x1 0) + (1 : Int32))) fun v_1 =>
      some (x2, v_1)
    else
      zbind (fX7_isWaiting x1 x3 v) fun r_3 v_2 =>
      if r_3 = (0 : Int32) then
        (fX2_settle_69 n) x0 x1 x2 (x3 + (1 : Int32)) v_2
      else
        zbind (fX9_get (zrf x1 10) x3 v_2) fun r_5 v_4 =>
        zbindv (fX9_set (zrf x1 10) x3 (r_5 + (1 : Int32)) v_4) fun v_6 =>
        (fX2_settle_69 n) x0 x1 x2 (x3 + (1 : Int32)) v_6
set_option maxRecDepth 4000 in
theorem jX2_settle_69 (x : zCx) (G : zG) (F : zF x G cX2_settle 4 RX2 5 170) (hr : x.2.2.2.2.2.2.2.2.1.sig.returnType = (Option.some FieldType.int)) (hk : x.2.2.2.2.2.2.2.2.1.locks = false) (r : Int32) (w : zV)  : ∀ (n : Nat) (x0 : Nat) (t0 : zty G x0 1 2) (x1 : Nat) (t1 : zty G x1 1 7) (x2 : Int32) (x3 : Int32) (v : zV), fX2_settle_69 n x0 x1 x2 x3 v = some (r, w) → zJ x G 4 (zQ x G (some (.int r)) w 0 0) 0 0 69 [(0, zr G x0), (1, zr G x1), (2, .int x2), (3, .int x3)] [] v := by
  intro n
  induction n with
  | zero => intro x0 t0 x1 t1 x2 x3 v h; exact absurd h (by intro q; cases q)
  | succ n ih =>
    intro x0 t0 x1 t1 x2 x3 v h
    rw [fX2_settle_69] at h
    dsimp only at h
    refine z_iload_n F dX2_settle_69 rfl 3 rfl ?_
    refine z_aload_n F dX2_settle_70 rfl 0 rfl ?_
    refine zg_2_0 F t0 wF_X2_15 dX2_settle_71 ?_
    refine zg_0_1 F (zt_f tc_2_0 t0) wF_X2_82 dX2_settle_74 ?_
    refine z_icmp_ge F 112 dX2_settle_77 rfl (fun hc => ?_) (fun hc => ?_)
    · replace h := zif_t hc h
      refine z_aload_n F dX2_settle_112 rfl 1 rfl ?_
      refine z_dup F dX2_settle_113 rfl ?_
      refine zg_7_0 F t1 wF_X2_44 dX2_settle_114 ?_
      refine z_iconst (y := (1 : Int32)) F dX2_settle_117 rfl ?_
      refine z_iadd F dX2_settle_118 ?_
      refine zp_7_0 F t1 wF_X2_44 dX2_settle_119 ?_
      obtain ⟨v_1, ev_1, h⟩ := zlet_ex h
      refine z_heap ev_1 ?_
      refine z_iload_n F dX2_settle_122 rfl 2 rfl ?_
      cases h
      exact z_reti F hr hk dX2_settle_123
    · replace h := zif_f hc h
      refine z_aload_n F dX2_settle_80 rfl 1 rfl ?_
      refine z_iload_n F dX2_settle_81 rfl 3 rfl ?_
      obtain ⟨r_3, v_2, hq82, h⟩ := zbind_ex h
      refine z_callVi F [.int x3] [] (kX7_isWaiting x.2.1 G x1 t1 x3 v r_3 v_2 hq82) mI_X7_isWaiting (c := 7) rfl t1 wM_X2_85 mi_X7_isWaiting sl_X7_isWaiting dX2_settle_82 rfl ⟨Nat.le_of_ble_eq_true rfl, Nat.le_of_ble_eq_true rfl⟩ rfl (Nat.le_of_ble_eq_true rfl) ⟨Nat.zero_le _, Nat.zero_le _⟩ ?_
      refine z_if_eq F 106 dX2_settle_85 rfl (fun hc => ?_) (fun hc => ?_)
      · replace h := zif_t hc h
        refine z_iinc F [(3, .int (x3 + (1 : Int32))), (0, zr G x0), (1, zr G x1), (2, .int x2)] dX2_settle_106 3 rfl rfl (Nat.le_of_ble_eq_true rfl) rfl ?_
        refine z_goto F 69 dX2_settle_109 rfl ?_
        refine z_ls [(0, zr G x0), (1, zr G x1), (2, .int x2), (3, .int (x3 + (1 : Int32)))] [1, 2, 3, 0] rfl ?_
        exact ih x0 t0 x1 t1 x2 (x3 + (1 : Int32)) v_2 h
      · replace h := zif_f hc h
        refine z_aload_n F dX2_settle_88 rfl 1 rfl ?_
        refine zg_7_10 F t1 wF_X2_89 dX2_settle_89 ?_
        refine z_iload_n F dX2_settle_92 rfl 3 rfl ?_
        refine z_aload_n F dX2_settle_93 rfl 1 rfl ?_
        refine zg_7_10 F t1 wF_X2_89 dX2_settle_94 ?_
        refine z_iload_n F dX2_settle_97 rfl 3 rfl ?_
        obtain ⟨r_5, v_4, hq98, h⟩ := zbind_ex h
        refine z_callSNi F [zr G (zrf x1 10), .int x3] [.int x3, zr G (zrf x1 10)] (kX9_get x.2.1 G (zrf x1 10) (zt_f tc_7_10 t1) x3 v_2 r_5 v_4 hq98) mI_X9_get wN_X2_40 ms_X9_get dX2_settle_98 rfl ⟨Nat.le_of_ble_eq_true rfl, Nat.le_of_ble_eq_true rfl⟩ rfl (Nat.le_of_ble_eq_true rfl) ⟨Nat.zero_le _, Nat.zero_le _⟩ ?_
        refine z_iconst (y := (1 : Int32)) F dX2_settle_101 rfl ?_
        refine z_iadd F dX2_settle_102 ?_
        obtain ⟨v_6, hq103, h⟩ := zbindv_ex h
        refine z_callSNv F [zr G (zrf x1 10), .int x3, .int (r_5 + (1 : Int32))] [] (kX9_set x.2.1 G (zrf x1 10) (zt_f tc_7_10 t1) x3 (r_5 + (1 : Int32)) v_4 v_6 hq103) mI_X9_set wN_X2_92 ms_X9_set dX2_settle_103 rfl ⟨Nat.le_of_ble_eq_true rfl, Nat.le_of_ble_eq_true rfl⟩ rfl (Nat.le_of_ble_eq_true rfl) ⟨Nat.zero_le _, Nat.zero_le _⟩ ?_
        refine z_iinc F [(3, .int (x3 + (1 : Int32))), (0, zr G x0), (1, zr G x1), (2, .int x2)] dX2_settle_106 3 rfl rfl (Nat.le_of_ble_eq_true rfl) rfl ?_
        refine z_goto F 69 dX2_settle_109 rfl ?_
        refine z_ls [(0, zr G x0), (1, zr G x1), (2, .int x2), (3, .int (x3 + (1 : Int32)))] [1, 2, 3, 0] rfl ?_
        exact ih x0 t0 x1 t1 x2 (x3 + (1 : Int32)) v_6 h

def fX2_settle_48  (x0 : Nat) (x1 : Nat) (x2 : Int32) (v : zV) : Option (Int32 × zV) :=
  if (v x1 1) ≤ (v (zrf x0 0) 2) then
    fX2_settle_69  zFU x0 x1 x2 (0 : Int32) v
  else
    zbindv (fX7_leave x1 (0 : Int32) v) fun v_1 =>
    fX2_settle_69  zFU x0 x1 x2 (0 : Int32) v_1
set_option maxRecDepth 4000 in
theorem jX2_settle_48 (x : zCx) (G : zG) (F : zF x G cX2_settle 4 RX2 5 170) (hr : x.2.2.2.2.2.2.2.2.1.sig.returnType = (Option.some FieldType.int)) (hk : x.2.2.2.2.2.2.2.2.1.locks = false) (r : Int32) (w : zV)  : ∀ (x0 : Nat) (t0 : zty G x0 1 2) (x1 : Nat) (t1 : zty G x1 1 7) (x2 : Int32) (v : zV), fX2_settle_48 x0 x1 x2 v = some (r, w) → zJ x G 4 (zQ x G (some (.int r)) w 0 0) 0 0 48 [(0, zr G x0), (1, zr G x1), (2, .int x2)] [] v := by
  intro x0 t0 x1 t1 x2 v h
  unfold fX2_settle_48 at h
  refine z_aload_n F dX2_settle_48 rfl 1 rfl ?_
  refine zg_7_1 F t1 wF_X2_72 dX2_settle_49 ?_
  refine z_aload_n F dX2_settle_52 rfl 0 rfl ?_
  refine zg_2_0 F t0 wF_X2_15 dX2_settle_53 ?_
  refine zg_0_2 F (zt_f tc_2_0 t0) wF_X2_75 dX2_settle_56 ?_
  refine z_icmp_le F 67 dX2_settle_59 rfl (fun hc => ?_) (fun hc => ?_)
  · replace h := zif_t hc h
    refine z_iconst (y := (0 : Int32)) F dX2_settle_67 rfl ?_
    refine z_istore_n F [(3, .int (0 : Int32)), (0, zr G x0), (1, zr G x1), (2, .int x2)] dX2_settle_68 rfl (Nat.le_of_ble_eq_true rfl) rfl ?_
    refine z_ls [(0, zr G x0), (1, zr G x1), (2, .int x2), (3, .int (0 : Int32))] [1, 2, 3, 0] rfl ?_
    exact jX2_settle_69 x G F hr hk r w   zFU x0 t0 x1 t1 x2 (0 : Int32) v h
  · replace h := zif_f hc h
    refine z_aload_n F dX2_settle_62 rfl 1 rfl ?_
    refine z_iconst (y := (0 : Int32)) F dX2_settle_63 rfl ?_
    obtain ⟨v_1, hq64, h⟩ := zbindv_ex h
    refine z_callVv F [.int (0 : Int32)] [] (kX7_leave x.2.1 G x1 t1 (0 : Int32) v v_1 hq64) mI_X7_leave (c := 7) rfl t1 wM_X2_78 mi_X7_leave sl_X7_leave dX2_settle_64 rfl ⟨Nat.le_of_ble_eq_true rfl, Nat.le_of_ble_eq_true rfl⟩ rfl (Nat.le_of_ble_eq_true rfl) ⟨Nat.zero_le _, Nat.zero_le _⟩ ?_
    refine z_iconst (y := (0 : Int32)) F dX2_settle_67 rfl ?_
    refine z_istore_n F [(3, .int (0 : Int32)), (0, zr G x0), (1, zr G x1), (2, .int x2)] dX2_settle_68 rfl (Nat.le_of_ble_eq_true rfl) rfl ?_
    refine z_ls [(0, zr G x0), (1, zr G x1), (2, .int x2), (3, .int (0 : Int32))] [1, 2, 3, 0] rfl ?_
    exact jX2_settle_69 x G F hr hk r w   zFU x0 t0 x1 t1 x2 (0 : Int32) v_1 h

def fX2_settle (x0 : Nat) (x1 : Nat) (v : zV) : Option (Int32 × zV) :=
  zbindv (fX2_scoreAll x0 x1 v) fun v_1 =>
  zbind (fX2_choose x0 x1 v_1) fun r_3 v_2 =>
  if r_3 = (-1 : Int32) then
    zlet (zup v_2 x1 2 ((v_2 x1 2) + (1 : Int32))) fun v_6 =>
    fX2_settle_48  x0 x1 r_3 v_6
  else
    zlet (zup v_2 x1 3 ((v_2 x1 3) + (1 : Int32))) fun v_4 =>
    zbindv (fX7_sitDown x1 r_3 (v_4 x1 0) v_4) fun v_5 =>
    fX2_settle_48  x0 x1 r_3 v_5
set_option maxRecDepth 4000 in
theorem kX2_settle (l : Launch) (G : zG) (x0 : Nat) (t0 : zty G x0 1 2) (x1 : Nat) (t1 : zty G x1 1 7) (v : zV) (r : Int32) (w : zV) (h : fX2_settle x0 x1 v = some (r, w)) : zMet l yX2_settle cX2_settle 4 (Option.some FieldType.int) 5 170 0 0 [zr G x0, zr G x1] G v (some (.int r)) w := by
  refine zM_of (own := RX2) (by decide) rfl (Nat.le_of_ble_eq_true rfl) (fun x hl F hr hk hcs => ?_)
  subst hl
  refine z_ls [(0, zr G x0), (1, zr G x1)] [0, 1] rfl ?_
  unfold fX2_settle at h
  refine z_aload_n F dX2_settle_0 rfl 0 rfl ?_
  refine z_aload_n F dX2_settle_1 rfl 1 rfl ?_
  obtain ⟨v_1, hq2, h⟩ := zbindv_ex h
  refine z_callVv F [zr G x1] [] (kX2_scoreAll x.2.1 G x0 t0 x1 t1 v v_1 hq2) mI_X2_scoreAll (c := 2) rfl t0 wM_X2_56 mi_X2_scoreAll sl_X2_scoreAll dX2_settle_2 rfl ⟨Nat.le_of_ble_eq_true rfl, Nat.le_of_ble_eq_true rfl⟩ rfl (Nat.le_of_ble_eq_true rfl) ⟨Nat.zero_le _, Nat.zero_le _⟩ ?_
  refine z_aload_n F dX2_settle_5 rfl 0 rfl ?_
  refine z_aload_n F dX2_settle_6 rfl 1 rfl ?_
  obtain ⟨r_3, v_2, hq7, h⟩ := zbind_ex h
  refine z_callVi F [zr G x1] [] (kX2_choose x.2.1 G x0 t0 x1 t1 v_1 r_3 v_2 hq7) mI_X2_choose (c := 2) rfl t0 wM_X2_59 mi_X2_choose sl_X2_choose dX2_settle_7 rfl ⟨Nat.le_of_ble_eq_true rfl, Nat.le_of_ble_eq_true rfl⟩ rfl (Nat.le_of_ble_eq_true rfl) ⟨Nat.zero_le _, Nat.zero_le _⟩ ?_
  refine z_istore_n F [(2, .int r_3), (0, zr G x0), (1, zr G x1)] dX2_settle_10 rfl (Nat.le_of_ble_eq_true rfl) rfl ?_
  refine z_iload_n F dX2_settle_11 rfl 0 rfl ?_
  refine z_iconst (y := (-1 : Int32)) F dX2_settle_12 rfl ?_
  refine z_icmp_ne F 29 dX2_settle_13 rfl (fun hc => ?_) (fun hc => ?_)
  · replace h := zif_f hc h
    refine z_aload_n F dX2_settle_29 rfl 2 rfl ?_
    refine z_dup F dX2_settle_30 rfl ?_
    refine zg_7_3 F t1 wF_X2_65 dX2_settle_31 ?_
    refine z_iconst (y := (1 : Int32)) F dX2_settle_34 rfl ?_
    refine z_iadd F dX2_settle_35 ?_
    refine zp_7_3 F t1 wF_X2_65 dX2_settle_36 ?_
    obtain ⟨v_4, ev_4, h⟩ := zlet_ex h
    refine z_heap ev_4 ?_
    refine z_aload_n F dX2_settle_39 rfl 2 rfl ?_
    refine z_iload_n F dX2_settle_40 rfl 0 rfl ?_
    refine z_aload_n F dX2_settle_41 rfl 2 rfl ?_
    refine zg_7_0 F t1 wF_X2_44 dX2_settle_42 ?_
    obtain ⟨v_5, hq45, h⟩ := zbindv_ex h
    refine z_callVv F [.int r_3, .int (v_4 x1 0)] [] (kX7_sitDown x.2.1 G x1 t1 r_3 (v_4 x1 0) v_4 v_5 hq45) mI_X7_sitDown (c := 7) rfl t1 wM_X2_68 mi_X7_sitDown sl_X7_sitDown dX2_settle_45 rfl ⟨Nat.le_of_ble_eq_true rfl, Nat.le_of_ble_eq_true rfl⟩ rfl (Nat.le_of_ble_eq_true rfl) ⟨Nat.zero_le _, Nat.zero_le _⟩ ?_
    refine z_ls [(0, zr G x0), (1, zr G x1), (2, .int r_3)] [1, 2, 0] rfl ?_
    exact jX2_settle_48 x G F hr hk r w   x0 t0 x1 t1 r_3 v_5 h
  · replace h := zif_t hc h
    refine z_aload_n F dX2_settle_16 rfl 2 rfl ?_
    refine z_dup F dX2_settle_17 rfl ?_
    refine zg_7_2 F t1 wF_X2_62 dX2_settle_18 ?_
    refine z_iconst (y := (1 : Int32)) F dX2_settle_21 rfl ?_
    refine z_iadd F dX2_settle_22 ?_
    refine zp_7_2 F t1 wF_X2_62 dX2_settle_23 ?_
    obtain ⟨v_6, ev_6, h⟩ := zlet_ex h
    refine z_heap ev_6 ?_
    refine z_goto F 48 dX2_settle_26 rfl ?_
    refine z_ls [(0, zr G x0), (1, zr G x1), (2, .int r_3)] [1, 2, 0] rfl ?_
    exact jX2_settle_48 x G F hr hk r w   x0 t0 x1 t1 r_3 v_6 h

theorem dX2_pass_0 : decode cX2_pass 0 = .ok (.aload_n 0, 1) := by decide +kernel
theorem dX2_pass_1 : decode cX2_pass 1 = .ok (.aload_n 1, 1) := by decide +kernel
theorem dX2_pass_2 : decode cX2_pass 2 = .ok (.invokevirtual 23, 3) := by decide +kernel
theorem dX2_pass_5 : decode cX2_pass 5 = .ok (.aload_n 0, 1) := by decide +kernel
theorem dX2_pass_6 : decode cX2_pass 6 = .ok (.aload_n 1, 1) := by decide +kernel
theorem dX2_pass_7 : decode cX2_pass 7 = .ok (.invokevirtual 27, 3) := by decide +kernel
theorem dX2_pass_10 : decode cX2_pass 10 = .ok (.ireturn, 1) := by decide +kernel
def fX2_pass (x0 : Nat) (x1 : Nat) (v : zV) : Option (Int32 × zV) :=
  zbindv (fX2_tellDeaths x0 x1 v) fun v_1 =>
  zbind (fX2_settle x0 x1 v_1) fun r_3 v_2 =>
  some (r_3, v_2)
set_option maxRecDepth 4000 in
theorem kX2_pass (l : Launch) (G : zG) (x0 : Nat) (t0 : zty G x0 1 2) (x1 : Nat) (t1 : zty G x1 1 7) (v : zV) (r : Int32) (w : zV) (h : fX2_pass x0 x1 v = some (r, w)) : zMet l yX2_pass cX2_pass 2 (Option.some FieldType.int) 6 193 0 0 [zr G x0, zr G x1] G v (some (.int r)) w := by
  refine zM_of (own := RX2) (by decide) rfl (Nat.le_of_ble_eq_true rfl) (fun x hl F hr hk hcs => ?_)
  subst hl
  refine z_ls [(0, zr G x0), (1, zr G x1)] [0, 1] rfl ?_
  unfold fX2_pass at h
  refine z_aload_n F dX2_pass_0 rfl 0 rfl ?_
  refine z_aload_n F dX2_pass_1 rfl 1 rfl ?_
  obtain ⟨v_1, hq2, h⟩ := zbindv_ex h
  refine z_callVv F [zr G x1] [] (kX2_tellDeaths x.2.1 G x0 t0 x1 t1 v v_1 hq2) mI_X2_tellDeaths (c := 2) rfl t0 wM_X2_23 mi_X2_tellDeaths sl_X2_tellDeaths dX2_pass_2 rfl ⟨Nat.le_of_ble_eq_true rfl, Nat.le_of_ble_eq_true rfl⟩ rfl (Nat.le_of_ble_eq_true rfl) ⟨Nat.zero_le _, Nat.zero_le _⟩ ?_
  refine z_aload_n F dX2_pass_5 rfl 0 rfl ?_
  refine z_aload_n F dX2_pass_6 rfl 1 rfl ?_
  obtain ⟨r_3, v_2, hq7, h⟩ := zbind_ex h
  refine z_callVi F [zr G x1] [] (kX2_settle x.2.1 G x0 t0 x1 t1 v_1 r_3 v_2 hq7) mI_X2_settle (c := 2) rfl t0 wM_X2_27 mi_X2_settle sl_X2_settle dX2_pass_7 rfl ⟨Nat.le_of_ble_eq_true rfl, Nat.le_of_ble_eq_true rfl⟩ rfl (Nat.le_of_ble_eq_true rfl) ⟨Nat.zero_le _, Nat.zero_le _⟩ ?_
  cases h
  exact z_reti F hr hk dX2_pass_10

