theorem dJ6_bitCount_0f7a4_0 : decode cJ6_bitCount_0f7a4 0 = .ok (.iload_n 0, 1) := by decide +kernel
theorem dJ6_bitCount_0f7a4_1 : decode cJ6_bitCount_0f7a4 1 = .ok (.iload_n 0, 1) := by decide +kernel
theorem dJ6_bitCount_0f7a4_2 : decode cJ6_bitCount_0f7a4 2 = .ok (.iconst 1, 1) := by decide +kernel
theorem dJ6_bitCount_0f7a4_3 : decode cJ6_bitCount_0f7a4 3 = .ok (.iushr, 1) := by decide +kernel
theorem dJ6_bitCount_0f7a4_4 : decode cJ6_bitCount_0f7a4 4 = .ok (.ldc_w 265, 3) := by decide +kernel
theorem dJ6_bitCount_0f7a4_7 : decode cJ6_bitCount_0f7a4 7 = .ok (.iand, 1) := by decide +kernel
theorem dJ6_bitCount_0f7a4_8 : decode cJ6_bitCount_0f7a4 8 = .ok (.isub, 1) := by decide +kernel
theorem dJ6_bitCount_0f7a4_9 : decode cJ6_bitCount_0f7a4 9 = .ok (.istore_n 0, 1) := by decide +kernel
theorem dJ6_bitCount_0f7a4_10 : decode cJ6_bitCount_0f7a4 10 = .ok (.iload_n 0, 1) := by decide +kernel
theorem dJ6_bitCount_0f7a4_11 : decode cJ6_bitCount_0f7a4 11 = .ok (.ldc_w 266, 3) := by decide +kernel
theorem dJ6_bitCount_0f7a4_14 : decode cJ6_bitCount_0f7a4 14 = .ok (.iand, 1) := by decide +kernel
theorem dJ6_bitCount_0f7a4_15 : decode cJ6_bitCount_0f7a4 15 = .ok (.iload_n 0, 1) := by decide +kernel
theorem dJ6_bitCount_0f7a4_16 : decode cJ6_bitCount_0f7a4 16 = .ok (.iconst 2, 1) := by decide +kernel
theorem dJ6_bitCount_0f7a4_17 : decode cJ6_bitCount_0f7a4 17 = .ok (.iushr, 1) := by decide +kernel
theorem dJ6_bitCount_0f7a4_18 : decode cJ6_bitCount_0f7a4 18 = .ok (.ldc_w 266, 3) := by decide +kernel
theorem dJ6_bitCount_0f7a4_21 : decode cJ6_bitCount_0f7a4 21 = .ok (.iand, 1) := by decide +kernel
theorem dJ6_bitCount_0f7a4_22 : decode cJ6_bitCount_0f7a4 22 = .ok (.iadd, 1) := by decide +kernel
theorem dJ6_bitCount_0f7a4_23 : decode cJ6_bitCount_0f7a4 23 = .ok (.istore_n 0, 1) := by decide +kernel
theorem dJ6_bitCount_0f7a4_24 : decode cJ6_bitCount_0f7a4 24 = .ok (.iload_n 0, 1) := by decide +kernel
theorem dJ6_bitCount_0f7a4_25 : decode cJ6_bitCount_0f7a4 25 = .ok (.iload_n 0, 1) := by decide +kernel
theorem dJ6_bitCount_0f7a4_26 : decode cJ6_bitCount_0f7a4 26 = .ok (.iconst 4, 1) := by decide +kernel
theorem dJ6_bitCount_0f7a4_27 : decode cJ6_bitCount_0f7a4 27 = .ok (.iushr, 1) := by decide +kernel
theorem dJ6_bitCount_0f7a4_28 : decode cJ6_bitCount_0f7a4 28 = .ok (.iadd, 1) := by decide +kernel
theorem dJ6_bitCount_0f7a4_29 : decode cJ6_bitCount_0f7a4 29 = .ok (.ldc_w 267, 3) := by decide +kernel
theorem dJ6_bitCount_0f7a4_32 : decode cJ6_bitCount_0f7a4 32 = .ok (.iand, 1) := by decide +kernel
theorem dJ6_bitCount_0f7a4_33 : decode cJ6_bitCount_0f7a4 33 = .ok (.istore_n 0, 1) := by decide +kernel
theorem dJ6_bitCount_0f7a4_34 : decode cJ6_bitCount_0f7a4 34 = .ok (.iload_n 0, 1) := by decide +kernel
theorem dJ6_bitCount_0f7a4_35 : decode cJ6_bitCount_0f7a4 35 = .ok (.iload_n 0, 1) := by decide +kernel
theorem dJ6_bitCount_0f7a4_36 : decode cJ6_bitCount_0f7a4 36 = .ok (.bipush 8, 2) := by decide +kernel
theorem dJ6_bitCount_0f7a4_38 : decode cJ6_bitCount_0f7a4 38 = .ok (.iushr, 1) := by decide +kernel
theorem dJ6_bitCount_0f7a4_39 : decode cJ6_bitCount_0f7a4 39 = .ok (.iadd, 1) := by decide +kernel
theorem dJ6_bitCount_0f7a4_40 : decode cJ6_bitCount_0f7a4 40 = .ok (.istore_n 0, 1) := by decide +kernel
theorem dJ6_bitCount_0f7a4_41 : decode cJ6_bitCount_0f7a4 41 = .ok (.iload_n 0, 1) := by decide +kernel
theorem dJ6_bitCount_0f7a4_42 : decode cJ6_bitCount_0f7a4 42 = .ok (.iload_n 0, 1) := by decide +kernel
theorem dJ6_bitCount_0f7a4_43 : decode cJ6_bitCount_0f7a4 43 = .ok (.bipush 16, 2) := by decide +kernel
theorem dJ6_bitCount_0f7a4_45 : decode cJ6_bitCount_0f7a4 45 = .ok (.iushr, 1) := by decide +kernel
theorem dJ6_bitCount_0f7a4_46 : decode cJ6_bitCount_0f7a4 46 = .ok (.iadd, 1) := by decide +kernel
theorem dJ6_bitCount_0f7a4_47 : decode cJ6_bitCount_0f7a4 47 = .ok (.istore_n 0, 1) := by decide +kernel
theorem dJ6_bitCount_0f7a4_48 : decode cJ6_bitCount_0f7a4 48 = .ok (.iload_n 0, 1) := by decide +kernel
theorem dJ6_bitCount_0f7a4_49 : decode cJ6_bitCount_0f7a4 49 = .ok (.bipush 63, 2) := by decide +kernel
theorem dJ6_bitCount_0f7a4_51 : decode cJ6_bitCount_0f7a4 51 = .ok (.iand, 1) := by decide +kernel
theorem dJ6_bitCount_0f7a4_52 : decode cJ6_bitCount_0f7a4 52 = .ok (.ireturn, 1) := by decide +kernel
def fJ6_bitCount_0f7a4 (x0 : Int32) (v : zV) : Option (Int32 × zV) :=
  zlet (x0 - ((((x0).toUInt32 >>> (((1 : Int32)).toUInt32 &&& Int32.toUInt32 31)).toInt32) &&& (1431655765 : Int32))) fun y_1 =>
  zlet ((y_1 &&& (858993459 : Int32)) + ((((y_1).toUInt32 >>> (((2 : Int32)).toUInt32 &&& Int32.toUInt32 31)).toInt32) &&& (858993459 : Int32))) fun y_2 =>
  zlet ((y_2 + (((y_2).toUInt32 >>> (((4 : Int32)).toUInt32 &&& Int32.toUInt32 31)).toInt32)) &&& (252645135 : Int32)) fun y_3 =>
  zlet (y_3 + (((y_3).toUInt32 >>> (((8 : Int32)).toUInt32 &&& Int32.toUInt32 31)).toInt32)) fun y_4 =>
  zlet (y_4 + (((y_4).toUInt32 >>> (((16 : Int32)).toUInt32 &&& Int32.toUInt32 31)).toInt32)) fun y_5 =>
  some (y_5 &&& (63 : Int32), v)
set_option maxRecDepth 4000 in
theorem kJ6_bitCount_0f7a4 (l : Launch) (G : zG) (x0 : Int32) (v : zV) (r : Int32) (w : zV) (h : fJ6_bitCount_0f7a4 x0 v = some (r, w)) : zMet l yJ6_bitCount_0f7a4 cJ6_bitCount_0f7a4 1 (Option.some FieldType.int) 1 80 0 0 [.int x0] G v (some (.int r)) w := by
  refine zM_of (own := RJ6) (by decide) rfl (Nat.le_of_ble_eq_true rfl) (fun x hl F hr hk hcs => ?_)
  subst hl
  refine z_ls [(0, .int x0)] [0] rfl ?_
  unfold fJ6_bitCount_0f7a4 at h
  refine z_iload_n F dJ6_bitCount_0f7a4_0 rfl 0 rfl ?_
  refine z_iload_n F dJ6_bitCount_0f7a4_1 rfl 0 rfl ?_
  refine z_iconst (y := (1 : Int32)) F dJ6_bitCount_0f7a4_2 rfl ?_
  refine z_iushr F dJ6_bitCount_0f7a4_3 ?_
  refine z_ldcw (y := (1431655765 : Int32)) F kC_RJ6_265 dJ6_bitCount_0f7a4_4 ?_
  refine z_iand F dJ6_bitCount_0f7a4_7 ?_
  refine z_isub F dJ6_bitCount_0f7a4_8 ?_
  obtain ⟨y_1, ey_1, h⟩ := zlet_ex h
  refine z_topi ey_1 ?_
  refine z_istore_n F [(0, .int y_1)] dJ6_bitCount_0f7a4_9 rfl (Nat.le_of_ble_eq_true rfl) rfl ?_
  refine z_iload_n F dJ6_bitCount_0f7a4_10 rfl 0 rfl ?_
  refine z_ldcw (y := (858993459 : Int32)) F kC_RJ6_266 dJ6_bitCount_0f7a4_11 ?_
  refine z_iand F dJ6_bitCount_0f7a4_14 ?_
  refine z_iload_n F dJ6_bitCount_0f7a4_15 rfl 0 rfl ?_
  refine z_iconst (y := (2 : Int32)) F dJ6_bitCount_0f7a4_16 rfl ?_
  refine z_iushr F dJ6_bitCount_0f7a4_17 ?_
  refine z_ldcw (y := (858993459 : Int32)) F kC_RJ6_266 dJ6_bitCount_0f7a4_18 ?_
  refine z_iand F dJ6_bitCount_0f7a4_21 ?_
  refine z_iadd F dJ6_bitCount_0f7a4_22 ?_
  obtain ⟨y_2, ey_2, h⟩ := zlet_ex h
  refine z_topi ey_2 ?_
  refine z_istore_n F [(0, .int y_2)] dJ6_bitCount_0f7a4_23 rfl (Nat.le_of_ble_eq_true rfl) rfl ?_
  refine z_iload_n F dJ6_bitCount_0f7a4_24 rfl 0 rfl ?_
  refine z_iload_n F dJ6_bitCount_0f7a4_25 rfl 0 rfl ?_
  refine z_iconst (y := (4 : Int32)) F dJ6_bitCount_0f7a4_26 rfl ?_
  refine z_iushr F dJ6_bitCount_0f7a4_27 ?_
  refine z_iadd F dJ6_bitCount_0f7a4_28 ?_
  refine z_ldcw (y := (252645135 : Int32)) F kC_RJ6_267 dJ6_bitCount_0f7a4_29 ?_
  refine z_iand F dJ6_bitCount_0f7a4_32 ?_
  obtain ⟨y_3, ey_3, h⟩ := zlet_ex h
  refine z_topi ey_3 ?_
  refine z_istore_n F [(0, .int y_3)] dJ6_bitCount_0f7a4_33 rfl (Nat.le_of_ble_eq_true rfl) rfl ?_
  refine z_iload_n F dJ6_bitCount_0f7a4_34 rfl 0 rfl ?_
  refine z_iload_n F dJ6_bitCount_0f7a4_35 rfl 0 rfl ?_
  refine z_bipush (y := (8 : Int32)) F dJ6_bitCount_0f7a4_36 rfl ?_
  refine z_iushr F dJ6_bitCount_0f7a4_38 ?_
  refine z_iadd F dJ6_bitCount_0f7a4_39 ?_
  obtain ⟨y_4, ey_4, h⟩ := zlet_ex h
  refine z_topi ey_4 ?_
  refine z_istore_n F [(0, .int y_4)] dJ6_bitCount_0f7a4_40 rfl (Nat.le_of_ble_eq_true rfl) rfl ?_
  refine z_iload_n F dJ6_bitCount_0f7a4_41 rfl 0 rfl ?_
  refine z_iload_n F dJ6_bitCount_0f7a4_42 rfl 0 rfl ?_
  refine z_bipush (y := (16 : Int32)) F dJ6_bitCount_0f7a4_43 rfl ?_
  refine z_iushr F dJ6_bitCount_0f7a4_45 ?_
  refine z_iadd F dJ6_bitCount_0f7a4_46 ?_
  obtain ⟨y_5, ey_5, h⟩ := zlet_ex h
  refine z_topi ey_5 ?_
  refine z_istore_n F [(0, .int y_5)] dJ6_bitCount_0f7a4_47 rfl (Nat.le_of_ble_eq_true rfl) rfl ?_
  refine z_iload_n F dJ6_bitCount_0f7a4_48 rfl 0 rfl ?_
  refine z_bipush (y := (63 : Int32)) F dJ6_bitCount_0f7a4_49 rfl ?_
  refine z_iand F dJ6_bitCount_0f7a4_51 ?_
  cases h
  exact z_reti F hr hk dJ6_bitCount_0f7a4_52

theorem dX9_within_0 : decode cX9_within 0 = .ok (.iload_n 0, 1) := by decide +kernel
theorem dX9_within_1 : decode cX9_within 1 = .ok (.iload_n 1, 1) := by decide +kernel
theorem dX9_within_2 : decode cX9_within 2 = .ok (.if_icmp .lt 12, 3) := by decide +kernel
theorem dX9_within_5 : decode cX9_within 5 = .ok (.iload_n 0, 1) := by decide +kernel
theorem dX9_within_6 : decode cX9_within 6 = .ok (.iload_n 2, 1) := by decide +kernel
theorem dX9_within_7 : decode cX9_within 7 = .ok (.if_icmp .gt 7, 3) := by decide +kernel
theorem dX9_within_10 : decode cX9_within 10 = .ok (.iconst 1, 1) := by decide +kernel
theorem dX9_within_11 : decode cX9_within 11 = .ok (.goto 4, 3) := by decide +kernel
theorem dX9_within_14 : decode cX9_within 14 = .ok (.iconst 0, 1) := by decide +kernel
theorem dX9_within_15 : decode cX9_within 15 = .ok (.ireturn, 1) := by decide +kernel
def fX9_within (x0 : Int32) (x1 : Int32) (x2 : Int32) (v : zV) : Option (Int32 × zV) :=
  if x0 < x1 then
    some ((0 : Int32), v)
  else
    if x2 < x0 then
      some ((0 : Int32), v)
    else
      some ((1 : Int32), v)
set_option maxRecDepth 4000 in
theorem kX9_within (l : Launch) (G : zG) (x0 : Int32) (x1 : Int32) (x2 : Int32) (v : zV) (r : Int32) (w : zV) (h : fX9_within x0 x1 x2 v = some (r, w)) : zMet l yX9_within cX9_within 3 (Option.some FieldType.boolean) 1 80 0 0 [.int x0, .int x1, .int x2] G v (some (.int r)) w := by
  refine zM_of (own := RX9) (by decide) rfl (Nat.le_of_ble_eq_true rfl) (fun x hl F hr hk hcs => ?_)
  subst hl
  refine z_ls [(0, .int x0), (1, .int x1), (2, .int x2)] [0, 1, 2] rfl ?_
  unfold fX9_within at h
  refine z_iload_n F dX9_within_0 rfl 0 rfl ?_
  refine z_iload_n F dX9_within_1 rfl 1 rfl ?_
  refine z_icmp_lt F 14 dX9_within_2 rfl (fun hc => ?_) (fun hc => ?_)
  · replace h := zif_t hc h
    refine z_iconst (y := (0 : Int32)) F dX9_within_14 rfl ?_
    cases h
    exact z_retz F hr hk rfl dX9_within_15
  · replace h := zif_f hc h
    refine z_iload_n F dX9_within_5 rfl 0 rfl ?_
    refine z_iload_n F dX9_within_6 rfl 2 rfl ?_
    refine z_icmp_gt F 14 dX9_within_7 rfl (fun hc => ?_) (fun hc => ?_)
    · replace h := zif_t hc h
      refine z_iconst (y := (0 : Int32)) F dX9_within_14 rfl ?_
      cases h
      exact z_retz F hr hk rfl dX9_within_15
    · replace h := zif_f hc h
      refine z_iconst (y := (1 : Int32)) F dX9_within_10 rfl ?_
      refine z_goto F 15 dX9_within_11 rfl ?_
      cases h
      exact z_retz F hr hk rfl dX9_within_15

theorem dX9_get_0 : decode cX9_get 0 = .ok (.iload_n 1, 1) := by decide +kernel
theorem dX9_get_1 : decode cX9_get 1 = .ok (.ifCond .lt 15, 3) := by decide +kernel
theorem dX9_get_4 : decode cX9_get 4 = .ok (.iload_n 1, 1) := by decide +kernel
theorem dX9_get_5 : decode cX9_get 5 = .ok (.aload_n 0, 1) := by decide +kernel
theorem dX9_get_6 : decode cX9_get 6 = .ok (.arraylength, 1) := by decide +kernel
theorem dX9_get_7 : decode cX9_get 7 = .ok (.if_icmp .ge 9, 3) := by decide +kernel
theorem dX9_get_10 : decode cX9_get 10 = .ok (.aload_n 0, 1) := by decide +kernel
theorem dX9_get_11 : decode cX9_get 11 = .ok (.iload_n 1, 1) := by decide +kernel
theorem dX9_get_12 : decode cX9_get 12 = .ok (.iaload, 1) := by decide +kernel
theorem dX9_get_13 : decode cX9_get 13 = .ok (.goto 4, 3) := by decide +kernel
theorem dX9_get_16 : decode cX9_get 16 = .ok (.iconst 0, 1) := by decide +kernel
theorem dX9_get_17 : decode cX9_get 17 = .ok (.ireturn, 1) := by decide +kernel
def fX9_get (x0 : Nat) (x1 : Int32) (v : zV) : Option (Int32 × zV) :=
  if x1 < (0 : Int32) then
    some ((0 : Int32), v)
  else
    if (Int32.ofNat (zlen x0)) ≤ x1 then
      some ((0 : Int32), v)
    else
      zix x1 (zlen x0) <|
      some (v x0 (x1).toNatClampNeg, v)
set_option maxRecDepth 4000 in
theorem kX9_get (l : Launch) (G : zG) (x0 : Nat) (t0 : zty G x0 2 0) (x1 : Int32) (v : zV) (r : Int32) (w : zV) (h : fX9_get x0 x1 v = some (r, w)) : zMet l yX9_get cX9_get 2 (Option.some FieldType.int) 1 80 0 0 [zr G x0, .int x1] G v (some (.int r)) w := by
  refine zM_of (own := RX9) (by decide) rfl (Nat.le_of_ble_eq_true rfl) (fun x hl F hr hk hcs => ?_)
  subst hl
  refine z_ls [(0, zr G x0), (1, .int x1)] [0, 1] rfl ?_
  unfold fX9_get at h
  refine z_iload_n F dX9_get_0 rfl 1 rfl ?_
  refine z_if_lt F 16 dX9_get_1 rfl (fun hc => ?_) (fun hc => ?_)
  · replace h := zif_t hc h
    refine z_iconst (y := (0 : Int32)) F dX9_get_16 rfl ?_
    cases h
    exact z_reti F hr hk dX9_get_17
  · replace h := zif_f hc h
    refine z_iload_n F dX9_get_4 rfl 1 rfl ?_
    refine z_aload_n F dX9_get_5 rfl 0 rfl ?_
    refine z_alen0 F t0 dX9_get_6 rfl ?_
    refine z_icmp_ge F 16 dX9_get_7 rfl (fun hc => ?_) (fun hc => ?_)
    · replace h := zif_t hc h
      refine z_iconst (y := (0 : Int32)) F dX9_get_16 rfl ?_
      cases h
      exact z_reti F hr hk dX9_get_17
    · replace h := zif_f hc h
      refine z_aload_n F dX9_get_10 rfl 0 rfl ?_
      refine z_iload_n F dX9_get_11 rfl 1 rfl ?_
      obtain ⟨hi12, h⟩ := zix_ex h
      refine z_iald F t0 dX9_get_12 hi12 ?_
      refine z_goto F 17 dX9_get_13 rfl ?_
      cases h
      exact z_reti F hr hk dX9_get_17

theorem dX9_set_0 : decode cX9_set 0 = .ok (.iload_n 1, 1) := by decide +kernel
theorem dX9_set_1 : decode cX9_set 1 = .ok (.ifCond .lt 13, 3) := by decide +kernel
theorem dX9_set_4 : decode cX9_set 4 = .ok (.iload_n 1, 1) := by decide +kernel
theorem dX9_set_5 : decode cX9_set 5 = .ok (.aload_n 0, 1) := by decide +kernel
theorem dX9_set_6 : decode cX9_set 6 = .ok (.arraylength, 1) := by decide +kernel
theorem dX9_set_7 : decode cX9_set 7 = .ok (.if_icmp .ge 7, 3) := by decide +kernel
theorem dX9_set_10 : decode cX9_set 10 = .ok (.aload_n 0, 1) := by decide +kernel
theorem dX9_set_11 : decode cX9_set 11 = .ok (.iload_n 1, 1) := by decide +kernel
theorem dX9_set_12 : decode cX9_set 12 = .ok (.iload_n 2, 1) := by decide +kernel
theorem dX9_set_13 : decode cX9_set 13 = .ok (.iastore, 1) := by decide +kernel
theorem dX9_set_14 : decode cX9_set 14 = .ok (.return_, 1) := by decide +kernel
def fX9_set (x0 : Nat) (x1 : Int32) (x2 : Int32) (v : zV) : Option zV :=
  if x1 < (0 : Int32) then
    some v
  else
    if (Int32.ofNat (zlen x0)) ≤ x1 then
      some v
    else
      zix x1 (zlen x0) <|
      zlet (zup v x0 (x1).toNatClampNeg x2) fun v_1 =>
      some v_1
set_option maxRecDepth 4000 in
theorem kX9_set (l : Launch) (G : zG) (x0 : Nat) (t0 : zty G x0 2 0) (x1 : Int32) (x2 : Int32) (v : zV) (w : zV) (h : fX9_set x0 x1 x2 v = some w) : zMet l yX9_set cX9_set 3 (Option.none : Option FieldType) 1 80 0 0 [zr G x0, .int x1, .int x2] G v none w := by
  refine zM_of (own := RX9) (by decide) rfl (Nat.le_of_ble_eq_true rfl) (fun x hl F hr hk hcs => ?_)
  subst hl
  refine z_ls [(0, zr G x0), (1, .int x1), (2, .int x2)] [0, 1, 2] rfl ?_
  unfold fX9_set at h
  refine z_iload_n F dX9_set_0 rfl 1 rfl ?_
  refine z_if_lt F 14 dX9_set_1 rfl (fun hc => ?_) (fun hc => ?_)
  · replace h := zif_t hc h
    cases h
    exact z_retv F hr hk dX9_set_14
  · replace h := zif_f hc h
    refine z_iload_n F dX9_set_4 rfl 1 rfl ?_
    refine z_aload_n F dX9_set_5 rfl 0 rfl ?_
    refine z_alen0 F t0 dX9_set_6 rfl ?_
    refine z_icmp_ge F 14 dX9_set_7 rfl (fun hc => ?_) (fun hc => ?_)
    · replace h := zif_t hc h
      cases h
      exact z_retv F hr hk dX9_set_14
    · replace h := zif_f hc h
      refine z_aload_n F dX9_set_10 rfl 0 rfl ?_
      refine z_iload_n F dX9_set_11 rfl 1 rfl ?_
      refine z_iload_n F dX9_set_12 rfl 2 rfl ?_
      obtain ⟨hi13, h⟩ := zix_ex h
      refine z_iast F t0 dX9_set_13 hi13 ?_
      obtain ⟨v_1, ev_1, h⟩ := zlet_ex h
      refine z_heap ev_1 ?_
      cases h
      exact z_retv F hr hk dX9_set_14

