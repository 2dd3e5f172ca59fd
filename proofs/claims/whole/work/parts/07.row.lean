theorem dX7_sitDown_0 : decode cX7_sitDown 0 = .ok (.aload_n 0, 1) := by decide +kernel
theorem dX7_sitDown_1 : decode cX7_sitDown 1 = .ok (.getfield 31, 3) := by decide +kernel
theorem dX7_sitDown_4 : decode cX7_sitDown 4 = .ok (.aload_n 0, 1) := by decide +kernel
theorem dX7_sitDown_5 : decode cX7_sitDown 5 = .ok (.getfield 15, 3) := by decide +kernel
theorem dX7_sitDown_8 : decode cX7_sitDown 8 = .ok (.arraylength, 1) := by decide +kernel
theorem dX7_sitDown_9 : decode cX7_sitDown 9 = .ok (.if_icmp .ge 43, 3) := by decide +kernel
theorem dX7_sitDown_12 : decode cX7_sitDown 12 = .ok (.aload_n 0, 1) := by decide +kernel
theorem dX7_sitDown_13 : decode cX7_sitDown 13 = .ok (.getfield 15, 3) := by decide +kernel
theorem dX7_sitDown_16 : decode cX7_sitDown 16 = .ok (.aload_n 0, 1) := by decide +kernel
theorem dX7_sitDown_17 : decode cX7_sitDown 17 = .ok (.getfield 31, 3) := by decide +kernel
theorem dX7_sitDown_20 : decode cX7_sitDown 20 = .ok (.iload_n 1, 1) := by decide +kernel
theorem dX7_sitDown_21 : decode cX7_sitDown 21 = .ok (.invokestatic 74, 3) := by decide +kernel
theorem dX7_sitDown_24 : decode cX7_sitDown 24 = .ok (.aload_n 0, 1) := by decide +kernel
theorem dX7_sitDown_25 : decode cX7_sitDown 25 = .ok (.dup, 1) := by decide +kernel
theorem dX7_sitDown_26 : decode cX7_sitDown 26 = .ok (.getfield 31, 3) := by decide +kernel
theorem dX7_sitDown_29 : decode cX7_sitDown 29 = .ok (.iconst 1, 1) := by decide +kernel
theorem dX7_sitDown_30 : decode cX7_sitDown 30 = .ok (.iadd, 1) := by decide +kernel
theorem dX7_sitDown_31 : decode cX7_sitDown 31 = .ok (.putfield 31, 3) := by decide +kernel
theorem dX7_sitDown_34 : decode cX7_sitDown 34 = .ok (.aload_n 0, 1) := by decide +kernel
theorem dX7_sitDown_35 : decode cX7_sitDown 35 = .ok (.getfield 19, 3) := by decide +kernel
theorem dX7_sitDown_38 : decode cX7_sitDown 38 = .ok (.iload_n 1, 1) := by decide +kernel
theorem dX7_sitDown_39 : decode cX7_sitDown 39 = .ok (.iconst 1, 1) := by decide +kernel
theorem dX7_sitDown_40 : decode cX7_sitDown 40 = .ok (.invokestatic 74, 3) := by decide +kernel
theorem dX7_sitDown_43 : decode cX7_sitDown 43 = .ok (.aload_n 0, 1) := by decide +kernel
theorem dX7_sitDown_44 : decode cX7_sitDown 44 = .ok (.getfield 25, 3) := by decide +kernel
theorem dX7_sitDown_47 : decode cX7_sitDown 47 = .ok (.iload_n 1, 1) := by decide +kernel
theorem dX7_sitDown_48 : decode cX7_sitDown 48 = .ok (.iload_n 2, 1) := by decide +kernel
theorem dX7_sitDown_49 : decode cX7_sitDown 49 = .ok (.invokestatic 74, 3) := by decide +kernel
theorem dX7_sitDown_52 : decode cX7_sitDown 52 = .ok (.return_, 1) := by decide +kernel
def fX7_sitDown (x0 : Nat) (x1 : Int32) (x2 : Int32) (v : zV) : Option zV :=
  if (Int32.ofNat (zlen (zrf x0 8))) ≤ (v x0 1) then
    some v
  else
    zbindv (fX9_set (zrf x0 8) (v x0 1) x1 v) fun v_1 =>
    zlet (zup v_1 x0 1 ((v_1 x0 1) + (1 : Int32))) fun v_2 =>
    zbindv (fX9_set (zrf x0 9) x1 (1 : Int32) v_2) fun v_3 =>
    zbindv (fX9_set (zrf x0 11) x1 x2 v_3) fun v_4 =>
    some v_4
set_option maxRecDepth 4000 in
theorem kX7_sitDown (l : Launch) (G : zG) (x0 : Nat) (t0 : zty G x0 1 7) (x1 : Int32) (x2 : Int32) (v : zV) (w : zV) (h : fX7_sitDown x0 x1 x2 v = some w) : zMet l yX7_sitDown cX7_sitDown 3 (Option.none : Option FieldType) 2 102 0 0 [zr G x0, .int x1, .int x2] G v none w := by
  refine zM_of (own := RX7) (by decide) rfl (Nat.le_of_ble_eq_true rfl) (fun x hl F hr hk hcs => ?_)
  subst hl
  refine z_ls [(0, zr G x0), (1, .int x1), (2, .int x2)] [0, 1, 2] rfl ?_
  unfold fX7_sitDown at h
  refine z_aload_n F dX7_sitDown_0 rfl 0 rfl ?_
  refine zg_7_1 F t0 wF_X7_31 dX7_sitDown_1 ?_
  refine z_aload_n F dX7_sitDown_4 rfl 0 rfl ?_
  refine zg_7_8 F t0 wF_X7_15 dX7_sitDown_5 ?_
  refine z_alen0 F (zt_f tc_7_8 t0) dX7_sitDown_8 rfl ?_
  refine z_icmp_ge F 52 dX7_sitDown_9 rfl (fun hc => ?_) (fun hc => ?_)
  · replace h := zif_t hc h
    cases h
    exact z_retv F hr hk dX7_sitDown_52
  · replace h := zif_f hc h
    refine z_aload_n F dX7_sitDown_12 rfl 0 rfl ?_
    refine zg_7_8 F t0 wF_X7_15 dX7_sitDown_13 ?_
    refine z_aload_n F dX7_sitDown_16 rfl 0 rfl ?_
    refine zg_7_1 F t0 wF_X7_31 dX7_sitDown_17 ?_
    refine z_iload_n F dX7_sitDown_20 rfl 1 rfl ?_
    obtain ⟨v_1, hq21, h⟩ := zbindv_ex h
    refine z_callSNv F [zr G (zrf x0 8), .int (v x0 1), .int x1] [] (kX9_set x.2.1 G (zrf x0 8) (zt_f tc_7_8 t0) (v x0 1) x1 v v_1 hq21) mI_X9_set wN_X7_74 ms_X9_set dX7_sitDown_21 rfl ⟨Nat.le_of_ble_eq_true rfl, Nat.le_of_ble_eq_true rfl⟩ rfl (Nat.le_of_ble_eq_true rfl) ⟨Nat.zero_le _, Nat.zero_le _⟩ ?_
    refine z_aload_n F dX7_sitDown_24 rfl 0 rfl ?_
    refine z_dup F dX7_sitDown_25 rfl ?_
    refine zg_7_1 F t0 wF_X7_31 dX7_sitDown_26 ?_
    refine z_iconst (y := (1 : Int32)) F dX7_sitDown_29 rfl ?_
    refine z_iadd F dX7_sitDown_30 ?_
    refine zp_7_1 F t0 wF_X7_31 dX7_sitDown_31 ?_
    obtain ⟨v_2, ev_2, h⟩ := zlet_ex h
    refine z_heap ev_2 ?_
    refine z_aload_n F dX7_sitDown_34 rfl 0 rfl ?_
    refine zg_7_9 F t0 wF_X7_19 dX7_sitDown_35 ?_
    refine z_iload_n F dX7_sitDown_38 rfl 1 rfl ?_
    refine z_iconst (y := (1 : Int32)) F dX7_sitDown_39 rfl ?_
    obtain ⟨v_3, hq40, h⟩ := zbindv_ex h
    refine z_callSNv F [zr G (zrf x0 9), .int x1, .int (1 : Int32)] [] (kX9_set x.2.1 G (zrf x0 9) (zt_f tc_7_9 t0) x1 (1 : Int32) v_2 v_3 hq40) mI_X9_set wN_X7_74 ms_X9_set dX7_sitDown_40 rfl ⟨Nat.le_of_ble_eq_true rfl, Nat.le_of_ble_eq_true rfl⟩ rfl (Nat.le_of_ble_eq_true rfl) ⟨Nat.zero_le _, Nat.zero_le _⟩ ?_
    refine z_aload_n F dX7_sitDown_43 rfl 0 rfl ?_
    refine zg_7_11 F t0 wF_X7_25 dX7_sitDown_44 ?_
    refine z_iload_n F dX7_sitDown_47 rfl 1 rfl ?_
    refine z_iload_n F dX7_sitDown_48 rfl 2 rfl ?_
    obtain ⟨v_4, hq49, h⟩ := zbindv_ex h
    refine z_callSNv F [zr G (zrf x0 11), .int x1, .int x2] [] (kX9_set x.2.1 G (zrf x0 11) (zt_f tc_7_11 t0) x1 x2 v_3 v_4 hq49) mI_X9_set wN_X7_74 ms_X9_set dX7_sitDown_49 rfl ⟨Nat.le_of_ble_eq_true rfl, Nat.le_of_ble_eq_true rfl⟩ rfl (Nat.le_of_ble_eq_true rfl) ⟨Nat.zero_le _, Nat.zero_le _⟩ ?_
    cases h
    exact z_retv F hr hk dX7_sitDown_52

theorem dX7_open_0 : decode cX7_open 0 = .ok (.aload_n 0, 1) := by decide +kernel
theorem dX7_open_1 : decode cX7_open 1 = .ok (.iconst 1, 1) := by decide +kernel
theorem dX7_open_2 : decode cX7_open 2 = .ok (.putfield 9, 3) := by decide +kernel
theorem dX7_open_5 : decode cX7_open 5 = .ok (.aload_n 0, 1) := by decide +kernel
theorem dX7_open_6 : decode cX7_open 6 = .ok (.iconst 0, 1) := by decide +kernel
theorem dX7_open_7 : decode cX7_open 7 = .ok (.putfield 31, 3) := by decide +kernel
theorem dX7_open_10 : decode cX7_open 10 = .ok (.aload_n 0, 1) := by decide +kernel
theorem dX7_open_11 : decode cX7_open 11 = .ok (.iconst 0, 1) := by decide +kernel
theorem dX7_open_12 : decode cX7_open 12 = .ok (.putfield 34, 3) := by decide +kernel
theorem dX7_open_15 : decode cX7_open 15 = .ok (.aload_n 0, 1) := by decide +kernel
theorem dX7_open_16 : decode cX7_open 16 = .ok (.iconst 0, 1) := by decide +kernel
theorem dX7_open_17 : decode cX7_open 17 = .ok (.putfield 37, 3) := by decide +kernel
theorem dX7_open_20 : decode cX7_open 20 = .ok (.aload_n 0, 1) := by decide +kernel
theorem dX7_open_21 : decode cX7_open 21 = .ok (.iconst 0, 1) := by decide +kernel
theorem dX7_open_22 : decode cX7_open 22 = .ok (.putfield 40, 3) := by decide +kernel
theorem dX7_open_25 : decode cX7_open 25 = .ok (.aload_n 0, 1) := by decide +kernel
theorem dX7_open_26 : decode cX7_open 26 = .ok (.iconst 0, 1) := by decide +kernel
theorem dX7_open_27 : decode cX7_open 27 = .ok (.putfield 43, 3) := by decide +kernel
theorem dX7_open_30 : decode cX7_open 30 = .ok (.aload_n 0, 1) := by decide +kernel
theorem dX7_open_31 : decode cX7_open 31 = .ok (.iconst 0, 1) := by decide +kernel
theorem dX7_open_32 : decode cX7_open 32 = .ok (.putfield 46, 3) := by decide +kernel
theorem dX7_open_35 : decode cX7_open 35 = .ok (.aload_n 0, 1) := by decide +kernel
theorem dX7_open_36 : decode cX7_open 36 = .ok (.iconst 0, 1) := by decide +kernel
theorem dX7_open_37 : decode cX7_open 37 = .ok (.putfield 49, 3) := by decide +kernel
theorem dX7_open_40 : decode cX7_open 40 = .ok (.iconst 0, 1) := by decide +kernel
theorem dX7_open_41 : decode cX7_open 41 = .ok (.istore_n 2, 1) := by decide +kernel
theorem dX7_open_42 : decode cX7_open 42 = .ok (.iload_n 2, 1) := by decide +kernel
theorem dX7_open_43 : decode cX7_open 43 = .ok (.bipush 16, 2) := by decide +kernel
theorem dX7_open_45 : decode cX7_open 45 = .ok (.if_icmp .ge 30, 3) := by decide +kernel
theorem dX7_open_48 : decode cX7_open 48 = .ok (.aload_n 0, 1) := by decide +kernel
theorem dX7_open_49 : decode cX7_open 49 = .ok (.getfield 19, 3) := by decide +kernel
theorem dX7_open_52 : decode cX7_open 52 = .ok (.iload_n 2, 1) := by decide +kernel
theorem dX7_open_53 : decode cX7_open 53 = .ok (.iconst 0, 1) := by decide +kernel
theorem dX7_open_54 : decode cX7_open 54 = .ok (.iastore, 1) := by decide +kernel
theorem dX7_open_55 : decode cX7_open 55 = .ok (.aload_n 0, 1) := by decide +kernel
theorem dX7_open_56 : decode cX7_open 56 = .ok (.getfield 22, 3) := by decide +kernel
theorem dX7_open_59 : decode cX7_open 59 = .ok (.iload_n 2, 1) := by decide +kernel
theorem dX7_open_60 : decode cX7_open 60 = .ok (.iconst 0, 1) := by decide +kernel
theorem dX7_open_61 : decode cX7_open 61 = .ok (.iastore, 1) := by decide +kernel
theorem dX7_open_62 : decode cX7_open 62 = .ok (.aload_n 0, 1) := by decide +kernel
theorem dX7_open_63 : decode cX7_open 63 = .ok (.getfield 25, 3) := by decide +kernel
theorem dX7_open_66 : decode cX7_open 66 = .ok (.iload_n 2, 1) := by decide +kernel
theorem dX7_open_67 : decode cX7_open 67 = .ok (.iconst (-1), 1) := by decide +kernel
theorem dX7_open_68 : decode cX7_open 68 = .ok (.iastore, 1) := by decide +kernel
theorem dX7_open_69 : decode cX7_open 69 = .ok (.iinc 2 1, 3) := by decide +kernel
theorem dX7_open_72 : decode cX7_open 72 = .ok (.goto (-30), 3) := by decide +kernel
theorem dX7_open_75 : decode cX7_open 75 = .ok (.iconst 0, 1) := by decide +kernel
theorem dX7_open_76 : decode cX7_open 76 = .ok (.istore_n 2, 1) := by decide +kernel
theorem dX7_open_77 : decode cX7_open 77 = .ok (.iload_n 2, 1) := by decide +kernel
theorem dX7_open_78 : decode cX7_open 78 = .ok (.aload_n 1, 1) := by decide +kernel
theorem dX7_open_79 : decode cX7_open 79 = .ok (.getfield 52, 3) := by decide +kernel
theorem dX7_open_82 : decode cX7_open 82 = .ok (.if_icmp .ge 22, 3) := by decide +kernel
theorem dX7_open_85 : decode cX7_open 85 = .ok (.aload_n 0, 1) := by decide +kernel
theorem dX7_open_86 : decode cX7_open 86 = .ok (.aload_n 1, 1) := by decide +kernel
theorem dX7_open_87 : decode cX7_open 87 = .ok (.getfield 57, 3) := by decide +kernel
theorem dX7_open_90 : decode cX7_open 90 = .ok (.iload_n 2, 1) := by decide +kernel
theorem dX7_open_91 : decode cX7_open 91 = .ok (.invokestatic 60, 3) := by decide +kernel
theorem dX7_open_94 : decode cX7_open 94 = .ok (.iconst 0, 1) := by decide +kernel
theorem dX7_open_95 : decode cX7_open 95 = .ok (.invokevirtual 64, 3) := by decide +kernel
theorem dX7_open_98 : decode cX7_open 98 = .ok (.iinc 2 1, 3) := by decide +kernel
theorem dX7_open_101 : decode cX7_open 101 = .ok (.goto (-24), 3) := by decide +kernel
theorem dX7_open_104 : decode cX7_open 104 = .ok (.return_, 1) := by decide +kernel
def fX7_open_77  : Nat → Nat → Nat → Int32 → zV → Option zV
  | 0 => fun _ _ _ _ => none
  | n + 1 => fun x0 x1 x2 v =>
    if (v x1 3) ≤ x2 then
      some v
    else
      zbind (fX9_get (zrf x1 10) x2 v) fun r_2 v_1 =>
      zbindv (fX7_sitDown x0 r_2 (0 : Int32) v_1) fun v_3 =>
      (fX7_open_77 n) x0 x1 (x2 + (1 : Int32)) v_3
set_option maxRecDepth 4000 in
theorem jX7_open_77 (x : zCx) (G : zG) (F : zF x G cX7_open 3 RX7 3 124) (hr : x.2.2.2.2.2.2.2.2.1.sig.returnType = (Option.none : Option FieldType)) (hk : x.2.2.2.2.2.2.2.2.1.locks = false) (w : zV)  : ∀ (n : Nat) (x0 : Nat) (t0 : zty G x0 1 7) (x1 : Nat) (t1 : zty G x1 1 0) (x2 : Int32) (v : zV), fX7_open_77 n x0 x1 x2 v = some w → zJ x G 3 (zQ x G none w 0 0) 0 0 77 [(0, zr G x0), (1, zr G x1), (2, .int x2)] [] v := by
  intro n
  induction n with
  | zero => intro x0 t0 x1 t1 x2 v h; exact absurd h (by intro q; cases q)
  | succ n ih =>
    intro x0 t0 x1 t1 x2 v h
    rw [fX7_open_77] at h
    dsimp only at h
    refine z_iload_n F dX7_open_77 rfl 2 rfl ?_
    refine z_aload_n F dX7_open_78 rfl 1 rfl ?_
    refine zg_0_3 F t1 wF_X7_52 dX7_open_79 ?_
    refine z_icmp_ge F 104 dX7_open_82 rfl (fun hc => ?_) (fun hc => ?_)
    · replace h := zif_t hc h
      cases h
      exact z_retv F hr hk dX7_open_104
    · replace h := zif_f hc h
      refine z_aload_n F dX7_open_85 rfl 0 rfl ?_
      refine z_aload_n F dX7_open_86 rfl 1 rfl ?_
      refine zg_0_10 F t1 wF_X7_57 dX7_open_87 ?_
      refine z_iload_n F dX7_open_90 rfl 2 rfl ?_
      obtain ⟨r_2, v_1, hq91, h⟩ := zbind_ex h
      refine z_callSNi F [zr G (zrf x1 10), .int x2] [zr G x0] (kX9_get x.2.1 G (zrf x1 10) (zt_f tc_0_10 t1) x2 v r_2 v_1 hq91) mI_X9_get wN_X7_60 ms_X9_get dX7_open_91 rfl ⟨Nat.le_of_ble_eq_true rfl, Nat.le_of_ble_eq_true rfl⟩ rfl (Nat.le_of_ble_eq_true rfl) ⟨Nat.zero_le _, Nat.zero_le _⟩ ?_
      refine z_iconst (y := (0 : Int32)) F dX7_open_94 rfl ?_
      obtain ⟨v_3, hq95, h⟩ := zbindv_ex h
      refine z_callVv F [.int r_2, .int (0 : Int32)] [] (kX7_sitDown x.2.1 G x0 t0 r_2 (0 : Int32) v_1 v_3 hq95) mI_X7_sitDown (c := 7) rfl t0 wM_X7_64 mi_X7_sitDown sl_X7_sitDown dX7_open_95 rfl ⟨Nat.le_of_ble_eq_true rfl, Nat.le_of_ble_eq_true rfl⟩ rfl (Nat.le_of_ble_eq_true rfl) ⟨Nat.zero_le _, Nat.zero_le _⟩ ?_
      refine z_iinc F [(2, .int (x2 + (1 : Int32))), (0, zr G x0), (1, zr G x1)] dX7_open_98 2 rfl rfl (Nat.le_of_ble_eq_true rfl) rfl ?_
      refine z_goto F 77 dX7_open_101 rfl ?_
      refine z_ls [(0, zr G x0), (1, zr G x1), (2, .int (x2 + (1 : Int32)))] [1, 2, 0] rfl ?_
      exact ih x0 t0 x1 t1 (x2 + (1 : Int32)) v_3 h

def fX7_open_42  : Nat → Nat → Nat → Int32 → zV → Option zV
  | 0 => fun _ _ _ _ => none
  | n + 1 => fun x0 x1 x2 v =>
    if (16 : Int32) ≤ x2 then
      fX7_open_77  zFU x0 x1 (0 : Int32) v
    else
      zix x2 (zlen (zrf x0 9)) <|
      zlet (zup v (zrf x0 9) (x2).toNatClampNeg (0 : Int32)) fun v_1 =>
      zix x2 (zlen (zrf x0 10)) <|
      zlet (zup v_1 (zrf x0 10) (x2).toNatClampNeg (0 : Int32)) fun v_2 =>
      zix x2 (zlen (zrf x0 11)) <|
      zlet (zup v_2 (zrf x0 11) (x2).toNatClampNeg (-1 : Int32)) fun v_3 =>
      (fX7_open_42 n) x0 x1 (x2 + (1 : Int32)) v_3
set_option maxRecDepth 4000 in
theorem jX7_open_42 (x : zCx) (G : zG) (F : zF x G cX7_open 3 RX7 3 124) (hr : x.2.2.2.2.2.2.2.2.1.sig.returnType = (Option.none : Option FieldType)) (hk : x.2.2.2.2.2.2.2.2.1.locks = false) (w : zV)  : ∀ (n : Nat) (x0 : Nat) (t0 : zty G x0 1 7) (x1 : Nat) (t1 : zty G x1 1 0) (x2 : Int32) (v : zV), fX7_open_42 n x0 x1 x2 v = some w → zJ x G 3 (zQ x G none w 0 0) 0 0 42 [(0, zr G x0), (1, zr G x1), (2, .int x2)] [] v := by
  intro n
  induction n with
  | zero => intro x0 t0 x1 t1 x2 v h; exact absurd h (by intro q; cases q)
  | succ n ih =>
    intro x0 t0 x1 t1 x2 v h
    rw [fX7_open_42] at h
    dsimp only at h
    refine z_iload_n F dX7_open_42 rfl 2 rfl ?_
    refine z_bipush (y := (16 : Int32)) F dX7_open_43 rfl ?_
    refine z_icmp_ge F 75 dX7_open_45 rfl (fun hc => ?_) (fun hc => ?_)
    · replace h := zif_t hc h
      refine z_iconst (y := (0 : Int32)) F dX7_open_75 rfl ?_
      refine z_istore_n F [(2, .int (0 : Int32)), (0, zr G x0), (1, zr G x1)] dX7_open_76 rfl (Nat.le_of_ble_eq_true rfl) rfl ?_
      refine z_ls [(0, zr G x0), (1, zr G x1), (2, .int (0 : Int32))] [1, 2, 0] rfl ?_
      exact jX7_open_77 x G F hr hk w   zFU x0 t0 x1 t1 (0 : Int32) v h
    · replace h := zif_f hc h
      refine z_aload_n F dX7_open_48 rfl 0 rfl ?_
      refine zg_7_9 F t0 wF_X7_19 dX7_open_49 ?_
      refine z_iload_n F dX7_open_52 rfl 2 rfl ?_
      refine z_iconst (y := (0 : Int32)) F dX7_open_53 rfl ?_
      obtain ⟨hi54, h⟩ := zix_ex h
      refine z_iast F (zt_f tc_7_9 t0) dX7_open_54 hi54 ?_
      obtain ⟨v_1, ev_1, h⟩ := zlet_ex h
      refine z_heap ev_1 ?_
      refine z_aload_n F dX7_open_55 rfl 0 rfl ?_
      refine zg_7_10 F t0 wF_X7_22 dX7_open_56 ?_
      refine z_iload_n F dX7_open_59 rfl 2 rfl ?_
      refine z_iconst (y := (0 : Int32)) F dX7_open_60 rfl ?_
      obtain ⟨hi61, h⟩ := zix_ex h
      refine z_iast F (zt_f tc_7_10 t0) dX7_open_61 hi61 ?_
      obtain ⟨v_2, ev_2, h⟩ := zlet_ex h
      refine z_heap ev_2 ?_
      refine z_aload_n F dX7_open_62 rfl 0 rfl ?_
      refine zg_7_11 F t0 wF_X7_25 dX7_open_63 ?_
      refine z_iload_n F dX7_open_66 rfl 2 rfl ?_
      refine z_iconst (y := (-1 : Int32)) F dX7_open_67 rfl ?_
      obtain ⟨hi68, h⟩ := zix_ex h
      refine z_iast F (zt_f tc_7_11 t0) dX7_open_68 hi68 ?_
      obtain ⟨v_3, ev_3, h⟩ := zlet_ex h
      refine z_heap ev_3 ?_
      refine z_iinc F [(2, .int (x2 + (1 : Int32))), (0, zr G x0), (1, zr G x1)] dX7_open_69 2 rfl rfl (Nat.le_of_ble_eq_true rfl) rfl ?_
      refine z_goto F 42 dX7_open_72 rfl ?_
      refine z_ls [(0, zr G x0), (1, zr G x1), (2, .int (x2 + (1 : Int32)))] [1, 2, 0] rfl ?_
      exact ih x0 t0 x1 t1 (x2 + (1 : Int32)) v_3 h

def fX7_open (x0 : Nat) (x1 : Nat) (v : zV) : Option zV :=
  zlet (zup v x0 0 (1 : Int32)) fun v_1 =>
  zlet (zup v_1 x0 1 (0 : Int32)) fun v_2 =>
  zlet (zup v_2 x0 2 (0 : Int32)) fun v_3 =>
  zlet (zup v_3 x0 3 (0 : Int32)) fun v_4 =>
  zlet (zup v_4 x0 4 (0 : Int32)) fun v_5 =>
  zlet (zup v_5 x0 5 (0 : Int32)) fun v_6 =>
  zlet (zup v_6 x0 6 (0 : Int32)) fun v_7 =>
  zlet (zup v_7 x0 7 (0 : Int32)) fun v_8 =>
  fX7_open_42  zFU x0 x1 (0 : Int32) v_8
set_option maxRecDepth 4000 in
theorem kX7_open (l : Launch) (G : zG) (x0 : Nat) (t0 : zty G x0 1 7) (x1 : Nat) (t1 : zty G x1 1 0) (v : zV) (w : zV) (h : fX7_open x0 x1 v = some w) : zMet l yX7_open cX7_open 3 (Option.none : Option FieldType) 3 124 0 0 [zr G x0, zr G x1] G v none w := by
  refine zM_of (own := RX7) (by decide) rfl (Nat.le_of_ble_eq_true rfl) (fun x hl F hr hk hcs => ?_)
  subst hl
  refine z_ls [(0, zr G x0), (1, zr G x1)] [0, 1] rfl ?_
  unfold fX7_open at h
  refine z_aload_n F dX7_open_0 rfl 0 rfl ?_
  refine z_iconst (y := (1 : Int32)) F dX7_open_1 rfl ?_
  refine zp_7_0 F t0 wF_X7_9 dX7_open_2 ?_
  obtain ⟨v_1, ev_1, h⟩ := zlet_ex h
  refine z_heap ev_1 ?_
  refine z_aload_n F dX7_open_5 rfl 0 rfl ?_
  refine z_iconst (y := (0 : Int32)) F dX7_open_6 rfl ?_
  refine zp_7_1 F t0 wF_X7_31 dX7_open_7 ?_
  obtain ⟨v_2, ev_2, h⟩ := zlet_ex h
  refine z_heap ev_2 ?_
  refine z_aload_n F dX7_open_10 rfl 0 rfl ?_
  refine z_iconst (y := (0 : Int32)) F dX7_open_11 rfl ?_
  refine zp_7_2 F t0 wF_X7_34 dX7_open_12 ?_
  obtain ⟨v_3, ev_3, h⟩ := zlet_ex h
  refine z_heap ev_3 ?_
  refine z_aload_n F dX7_open_15 rfl 0 rfl ?_
  refine z_iconst (y := (0 : Int32)) F dX7_open_16 rfl ?_
  refine zp_7_3 F t0 wF_X7_37 dX7_open_17 ?_
  obtain ⟨v_4, ev_4, h⟩ := zlet_ex h
  refine z_heap ev_4 ?_
  refine z_aload_n F dX7_open_20 rfl 0 rfl ?_
  refine z_iconst (y := (0 : Int32)) F dX7_open_21 rfl ?_
  refine zp_7_4 F t0 wF_X7_40 dX7_open_22 ?_
  obtain ⟨v_5, ev_5, h⟩ := zlet_ex h
  refine z_heap ev_5 ?_
  refine z_aload_n F dX7_open_25 rfl 0 rfl ?_
  refine z_iconst (y := (0 : Int32)) F dX7_open_26 rfl ?_
  refine zp_7_5 F t0 wF_X7_43 dX7_open_27 ?_
  obtain ⟨v_6, ev_6, h⟩ := zlet_ex h
  refine z_heap ev_6 ?_
  refine z_aload_n F dX7_open_30 rfl 0 rfl ?_
  refine z_iconst (y := (0 : Int32)) F dX7_open_31 rfl ?_
  refine zp_7_6 F t0 wF_X7_46 dX7_open_32 ?_
  obtain ⟨v_7, ev_7, h⟩ := zlet_ex h
  refine z_heap ev_7 ?_
  refine z_aload_n F dX7_open_35 rfl 0 rfl ?_
  refine z_iconst (y := (0 : Int32)) F dX7_open_36 rfl ?_
  refine zp_7_7 F t0 wF_X7_49 dX7_open_37 ?_
  obtain ⟨v_8, ev_8, h⟩ := zlet_ex h
  refine z_heap ev_8 ?_
  refine z_iconst (y := (0 : Int32)) F dX7_open_40 rfl ?_
  refine z_istore_n F [(2, .int (0 : Int32)), (0, zr G x0), (1, zr G x1)] dX7_open_41 rfl (Nat.le_of_ble_eq_true rfl) rfl ?_
  refine z_ls [(0, zr G x0), (1, zr G x1), (2, .int (0 : Int32))] [1, 2, 0] rfl ?_
  exact jX7_open_42 x G F hr hk w   zFU x0 t0 x1 t1 (0 : Int32) v_8 h

theorem dX7_copy_0 : decode cX7_copy 0 = .ok (.aload_n 0, 1) := by decide +kernel
theorem dX7_copy_1 : decode cX7_copy 1 = .ok (.aload_n 1, 1) := by decide +kernel
theorem dX7_copy_2 : decode cX7_copy 2 = .ok (.getfield 9, 3) := by decide +kernel
theorem dX7_copy_5 : decode cX7_copy 5 = .ok (.putfield 9, 3) := by decide +kernel
theorem dX7_copy_8 : decode cX7_copy 8 = .ok (.aload_n 0, 1) := by decide +kernel
theorem dX7_copy_9 : decode cX7_copy 9 = .ok (.aload_n 1, 1) := by decide +kernel
theorem dX7_copy_10 : decode cX7_copy 10 = .ok (.getfield 31, 3) := by decide +kernel
theorem dX7_copy_13 : decode cX7_copy 13 = .ok (.putfield 31, 3) := by decide +kernel
theorem dX7_copy_16 : decode cX7_copy 16 = .ok (.aload_n 0, 1) := by decide +kernel
theorem dX7_copy_17 : decode cX7_copy 17 = .ok (.aload_n 1, 1) := by decide +kernel
theorem dX7_copy_18 : decode cX7_copy 18 = .ok (.getfield 34, 3) := by decide +kernel
theorem dX7_copy_21 : decode cX7_copy 21 = .ok (.putfield 34, 3) := by decide +kernel
theorem dX7_copy_24 : decode cX7_copy 24 = .ok (.aload_n 0, 1) := by decide +kernel
theorem dX7_copy_25 : decode cX7_copy 25 = .ok (.aload_n 1, 1) := by decide +kernel
theorem dX7_copy_26 : decode cX7_copy 26 = .ok (.getfield 37, 3) := by decide +kernel
theorem dX7_copy_29 : decode cX7_copy 29 = .ok (.putfield 37, 3) := by decide +kernel
theorem dX7_copy_32 : decode cX7_copy 32 = .ok (.aload_n 0, 1) := by decide +kernel
theorem dX7_copy_33 : decode cX7_copy 33 = .ok (.aload_n 1, 1) := by decide +kernel
theorem dX7_copy_34 : decode cX7_copy 34 = .ok (.getfield 40, 3) := by decide +kernel
theorem dX7_copy_37 : decode cX7_copy 37 = .ok (.putfield 40, 3) := by decide +kernel
theorem dX7_copy_40 : decode cX7_copy 40 = .ok (.aload_n 0, 1) := by decide +kernel
theorem dX7_copy_41 : decode cX7_copy 41 = .ok (.aload_n 1, 1) := by decide +kernel
theorem dX7_copy_42 : decode cX7_copy 42 = .ok (.getfield 43, 3) := by decide +kernel
theorem dX7_copy_45 : decode cX7_copy 45 = .ok (.putfield 43, 3) := by decide +kernel
theorem dX7_copy_48 : decode cX7_copy 48 = .ok (.aload_n 0, 1) := by decide +kernel
theorem dX7_copy_49 : decode cX7_copy 49 = .ok (.aload_n 1, 1) := by decide +kernel
theorem dX7_copy_50 : decode cX7_copy 50 = .ok (.getfield 46, 3) := by decide +kernel
theorem dX7_copy_53 : decode cX7_copy 53 = .ok (.putfield 46, 3) := by decide +kernel
theorem dX7_copy_56 : decode cX7_copy 56 = .ok (.aload_n 0, 1) := by decide +kernel
theorem dX7_copy_57 : decode cX7_copy 57 = .ok (.aload_n 1, 1) := by decide +kernel
theorem dX7_copy_58 : decode cX7_copy 58 = .ok (.getfield 49, 3) := by decide +kernel
theorem dX7_copy_61 : decode cX7_copy 61 = .ok (.putfield 49, 3) := by decide +kernel
theorem dX7_copy_64 : decode cX7_copy 64 = .ok (.aload_n 1, 1) := by decide +kernel
theorem dX7_copy_65 : decode cX7_copy 65 = .ok (.getfield 15, 3) := by decide +kernel
theorem dX7_copy_68 : decode cX7_copy 68 = .ok (.iconst 0, 1) := by decide +kernel
theorem dX7_copy_69 : decode cX7_copy 69 = .ok (.aload_n 0, 1) := by decide +kernel
theorem dX7_copy_70 : decode cX7_copy 70 = .ok (.getfield 15, 3) := by decide +kernel
theorem dX7_copy_73 : decode cX7_copy 73 = .ok (.iconst 0, 1) := by decide +kernel
theorem dX7_copy_74 : decode cX7_copy 74 = .ok (.bipush 13, 2) := by decide +kernel
theorem dX7_copy_76 : decode cX7_copy 76 = .ok (.invokestatic 68, 3) := by decide +kernel
theorem dX7_copy_79 : decode cX7_copy 79 = .ok (.aload_n 1, 1) := by decide +kernel
theorem dX7_copy_80 : decode cX7_copy 80 = .ok (.getfield 19, 3) := by decide +kernel
theorem dX7_copy_83 : decode cX7_copy 83 = .ok (.iconst 0, 1) := by decide +kernel
theorem dX7_copy_84 : decode cX7_copy 84 = .ok (.aload_n 0, 1) := by decide +kernel
theorem dX7_copy_85 : decode cX7_copy 85 = .ok (.getfield 19, 3) := by decide +kernel
theorem dX7_copy_88 : decode cX7_copy 88 = .ok (.iconst 0, 1) := by decide +kernel
theorem dX7_copy_89 : decode cX7_copy 89 = .ok (.bipush 16, 2) := by decide +kernel
theorem dX7_copy_91 : decode cX7_copy 91 = .ok (.invokestatic 68, 3) := by decide +kernel
theorem dX7_copy_94 : decode cX7_copy 94 = .ok (.aload_n 1, 1) := by decide +kernel
theorem dX7_copy_95 : decode cX7_copy 95 = .ok (.getfield 22, 3) := by decide +kernel
theorem dX7_copy_98 : decode cX7_copy 98 = .ok (.iconst 0, 1) := by decide +kernel
theorem dX7_copy_99 : decode cX7_copy 99 = .ok (.aload_n 0, 1) := by decide +kernel
theorem dX7_copy_100 : decode cX7_copy 100 = .ok (.getfield 22, 3) := by decide +kernel
theorem dX7_copy_103 : decode cX7_copy 103 = .ok (.iconst 0, 1) := by decide +kernel
theorem dX7_copy_104 : decode cX7_copy 104 = .ok (.bipush 16, 2) := by decide +kernel
theorem dX7_copy_106 : decode cX7_copy 106 = .ok (.invokestatic 68, 3) := by decide +kernel
theorem dX7_copy_109 : decode cX7_copy 109 = .ok (.aload_n 1, 1) := by decide +kernel
theorem dX7_copy_110 : decode cX7_copy 110 = .ok (.getfield 25, 3) := by decide +kernel
theorem dX7_copy_113 : decode cX7_copy 113 = .ok (.iconst 0, 1) := by decide +kernel
theorem dX7_copy_114 : decode cX7_copy 114 = .ok (.aload_n 0, 1) := by decide +kernel
theorem dX7_copy_115 : decode cX7_copy 115 = .ok (.getfield 25, 3) := by decide +kernel
theorem dX7_copy_118 : decode cX7_copy 118 = .ok (.iconst 0, 1) := by decide +kernel
theorem dX7_copy_119 : decode cX7_copy 119 = .ok (.bipush 16, 2) := by decide +kernel
theorem dX7_copy_121 : decode cX7_copy 121 = .ok (.invokestatic 68, 3) := by decide +kernel
theorem dX7_copy_124 : decode cX7_copy 124 = .ok (.aload_n 1, 1) := by decide +kernel
theorem dX7_copy_125 : decode cX7_copy 125 = .ok (.getfield 28, 3) := by decide +kernel
theorem dX7_copy_128 : decode cX7_copy 128 = .ok (.iconst 0, 1) := by decide +kernel
theorem dX7_copy_129 : decode cX7_copy 129 = .ok (.aload_n 0, 1) := by decide +kernel
theorem dX7_copy_130 : decode cX7_copy 130 = .ok (.getfield 28, 3) := by decide +kernel
theorem dX7_copy_133 : decode cX7_copy 133 = .ok (.iconst 0, 1) := by decide +kernel
theorem dX7_copy_134 : decode cX7_copy 134 = .ok (.bipush 16, 2) := by decide +kernel
theorem dX7_copy_136 : decode cX7_copy 136 = .ok (.invokestatic 68, 3) := by decide +kernel
theorem dX7_copy_139 : decode cX7_copy 139 = .ok (.return_, 1) := by decide +kernel
def fX7_copy (x0 : Nat) (x1 : Nat) (v : zV) : Option zV :=
  zlet (zup v x0 0 (v x1 0)) fun v_1 =>
  zlet (zup v_1 x0 1 (v_1 x1 1)) fun v_2 =>
  zlet (zup v_2 x0 2 (v_2 x1 2)) fun v_3 =>
  zlet (zup v_3 x0 3 (v_3 x1 3)) fun v_4 =>
  zlet (zup v_4 x0 4 (v_4 x1 4)) fun v_5 =>
  zlet (zup v_5 x0 5 (v_5 x1 5)) fun v_6 =>
  zlet (zup v_6 x0 6 (v_6 x1 6)) fun v_7 =>
  zlet (zup v_7 x0 7 (v_7 x1 7)) fun v_8 =>
  zcpk (zrf x1 8) (zrf x0 8) (0 : Int32) (0 : Int32) (13 : Int32) <|
  zlet (zcp v_8 (zrf x1 8) (zrf x0 8) ((0 : Int32)).toNatClampNeg ((0 : Int32)).toNatClampNeg ((13 : Int32)).toNatClampNeg) fun v_9 =>
  zcpk (zrf x1 9) (zrf x0 9) (0 : Int32) (0 : Int32) (16 : Int32) <|
  zlet (zcp v_9 (zrf x1 9) (zrf x0 9) ((0 : Int32)).toNatClampNeg ((0 : Int32)).toNatClampNeg ((16 : Int32)).toNatClampNeg) fun v_10 =>
  zcpk (zrf x1 10) (zrf x0 10) (0 : Int32) (0 : Int32) (16 : Int32) <|
  zlet (zcp v_10 (zrf x1 10) (zrf x0 10) ((0 : Int32)).toNatClampNeg ((0 : Int32)).toNatClampNeg ((16 : Int32)).toNatClampNeg) fun v_11 =>
  zcpk (zrf x1 11) (zrf x0 11) (0 : Int32) (0 : Int32) (16 : Int32) <|
  zlet (zcp v_11 (zrf x1 11) (zrf x0 11) ((0 : Int32)).toNatClampNeg ((0 : Int32)).toNatClampNeg ((16 : Int32)).toNatClampNeg) fun v_12 =>
  zcpk (zrf x1 12) (zrf x0 12) (0 : Int32) (0 : Int32) (16 : Int32) <|
  zlet (zcp v_12 (zrf x1 12) (zrf x0 12) ((0 : Int32)).toNatClampNeg ((0 : Int32)).toNatClampNeg ((16 : Int32)).toNatClampNeg) fun v_13 =>
  some v_13
set_option maxRecDepth 4000 in
theorem kX7_copy (l : Launch) (G : zG) (x0 : Nat) (t0 : zty G x0 1 7) (x1 : Nat) (t1 : zty G x1 1 7) (v : zV) (w : zV) (h : fX7_copy x0 x1 v = some w) : zMet l yX7_copy cX7_copy 2 (Option.none : Option FieldType) 1 80 0 0 [zr G x0, zr G x1] G v none w := by
  refine zM_of (own := RX7) (by decide) rfl (Nat.le_of_ble_eq_true rfl) (fun x hl F hr hk hcs => ?_)
  subst hl
  refine z_ls [(0, zr G x0), (1, zr G x1)] [0, 1] rfl ?_
  unfold fX7_copy at h
  refine z_aload_n F dX7_copy_0 rfl 0 rfl ?_
  refine z_aload_n F dX7_copy_1 rfl 1 rfl ?_
  refine zg_7_0 F t1 wF_X7_9 dX7_copy_2 ?_
  refine zp_7_0 F t0 wF_X7_9 dX7_copy_5 ?_
  obtain ⟨v_1, ev_1, h⟩ := zlet_ex h
  refine z_heap ev_1 ?_
  refine z_aload_n F dX7_copy_8 rfl 0 rfl ?_
  refine z_aload_n F dX7_copy_9 rfl 1 rfl ?_
  refine zg_7_1 F t1 wF_X7_31 dX7_copy_10 ?_
  refine zp_7_1 F t0 wF_X7_31 dX7_copy_13 ?_
  obtain ⟨v_2, ev_2, h⟩ := zlet_ex h
  refine z_heap ev_2 ?_
  refine z_aload_n F dX7_copy_16 rfl 0 rfl ?_
  refine z_aload_n F dX7_copy_17 rfl 1 rfl ?_
  refine zg_7_2 F t1 wF_X7_34 dX7_copy_18 ?_
  refine zp_7_2 F t0 wF_X7_34 dX7_copy_21 ?_
  obtain ⟨v_3, ev_3, h⟩ := zlet_ex h
  refine z_heap ev_3 ?_
  refine z_aload_n F dX7_copy_24 rfl 0 rfl ?_
  refine z_aload_n F dX7_copy_25 rfl 1 rfl ?_
  refine zg_7_3 F t1 wF_X7_37 dX7_copy_26 ?_
  refine zp_7_3 F t0 wF_X7_37 dX7_copy_29 ?_
  obtain ⟨v_4, ev_4, h⟩ := zlet_ex h
  refine z_heap ev_4 ?_
  refine z_aload_n F dX7_copy_32 rfl 0 rfl ?_
  refine z_aload_n F dX7_copy_33 rfl 1 rfl ?_
  refine zg_7_4 F t1 wF_X7_40 dX7_copy_34 ?_
  refine zp_7_4 F t0 wF_X7_40 dX7_copy_37 ?_
  obtain ⟨v_5, ev_5, h⟩ := zlet_ex h
  refine z_heap ev_5 ?_
  refine z_aload_n F dX7_copy_40 rfl 0 rfl ?_
  refine z_aload_n F dX7_copy_41 rfl 1 rfl ?_
  refine zg_7_5 F t1 wF_X7_43 dX7_copy_42 ?_
  refine zp_7_5 F t0 wF_X7_43 dX7_copy_45 ?_
  obtain ⟨v_6, ev_6, h⟩ := zlet_ex h
  refine z_heap ev_6 ?_
  refine z_aload_n F dX7_copy_48 rfl 0 rfl ?_
  refine z_aload_n F dX7_copy_49 rfl 1 rfl ?_
  refine zg_7_6 F t1 wF_X7_46 dX7_copy_50 ?_
  refine zp_7_6 F t0 wF_X7_46 dX7_copy_53 ?_
  obtain ⟨v_7, ev_7, h⟩ := zlet_ex h
  refine z_heap ev_7 ?_
  refine z_aload_n F dX7_copy_56 rfl 0 rfl ?_
  refine z_aload_n F dX7_copy_57 rfl 1 rfl ?_
  refine zg_7_7 F t1 wF_X7_49 dX7_copy_58 ?_
  refine zp_7_7 F t0 wF_X7_49 dX7_copy_61 ?_
  obtain ⟨v_8, ev_8, h⟩ := zlet_ex h
  refine z_heap ev_8 ?_
  refine z_aload_n F dX7_copy_64 rfl 1 rfl ?_
  refine zg_7_8 F t1 wF_X7_15 dX7_copy_65 ?_
  refine z_iconst (y := (0 : Int32)) F dX7_copy_68 rfl ?_
  refine z_aload_n F dX7_copy_69 rfl 0 rfl ?_
  refine zg_7_8 F t0 wF_X7_15 dX7_copy_70 ?_
  refine z_iconst (y := (0 : Int32)) F dX7_copy_73 rfl ?_
  refine z_bipush (y := (13 : Int32)) F dX7_copy_74 rfl ?_
  obtain ⟨hc76, h⟩ := zcpk_ex h
  refine z_copy F (zt_f tc_7_8 t1) (zt_f tc_7_8 t0) wM_X7_68 dX7_copy_76 hc76 (Nat.le_of_ble_eq_true rfl) (Nat.le_of_ble_eq_true rfl) (Nat.le_of_ble_eq_true rfl) ?_
  obtain ⟨v_9, ev_9, h⟩ := zlet_ex h
  refine z_heap ev_9 ?_
  refine z_aload_n F dX7_copy_79 rfl 1 rfl ?_
  refine zg_7_9 F t1 wF_X7_19 dX7_copy_80 ?_
  refine z_iconst (y := (0 : Int32)) F dX7_copy_83 rfl ?_
  refine z_aload_n F dX7_copy_84 rfl 0 rfl ?_
  refine zg_7_9 F t0 wF_X7_19 dX7_copy_85 ?_
  refine z_iconst (y := (0 : Int32)) F dX7_copy_88 rfl ?_
  refine z_bipush (y := (16 : Int32)) F dX7_copy_89 rfl ?_
  obtain ⟨hc91, h⟩ := zcpk_ex h
  refine z_copy F (zt_f tc_7_9 t1) (zt_f tc_7_9 t0) wM_X7_68 dX7_copy_91 hc91 (Nat.le_of_ble_eq_true rfl) (Nat.le_of_ble_eq_true rfl) (Nat.le_of_ble_eq_true rfl) ?_
  obtain ⟨v_10, ev_10, h⟩ := zlet_ex h
  refine z_heap ev_10 ?_
  refine z_aload_n F dX7_copy_94 rfl 1 rfl ?_
  refine zg_7_10 F t1 wF_X7_22 dX7_copy_95 ?_
  refine z_iconst (y := (0 : Int32)) F dX7_copy_98 rfl ?_
  refine z_aload_n F dX7_copy_99 rfl 0 rfl ?_
  refine zg_7_10 F t0 wF_X7_22 dX7_copy_100 ?_
  refine z_iconst (y := (0 : Int32)) F dX7_copy_103 rfl ?_
  refine z_bipush (y := (16 : Int32)) F dX7_copy_104 rfl ?_
  obtain ⟨hc106, h⟩ := zcpk_ex h
  refine z_copy F (zt_f tc_7_10 t1) (zt_f tc_7_10 t0) wM_X7_68 dX7_copy_106 hc106 (Nat.le_of_ble_eq_true rfl) (Nat.le_of_ble_eq_true rfl) (Nat.le_of_ble_eq_true rfl) ?_
  obtain ⟨v_11, ev_11, h⟩ := zlet_ex h
  refine z_heap ev_11 ?_
  refine z_aload_n F dX7_copy_109 rfl 1 rfl ?_
  refine zg_7_11 F t1 wF_X7_25 dX7_copy_110 ?_
  refine z_iconst (y := (0 : Int32)) F dX7_copy_113 rfl ?_
  refine z_aload_n F dX7_copy_114 rfl 0 rfl ?_
  refine zg_7_11 F t0 wF_X7_25 dX7_copy_115 ?_
  refine z_iconst (y := (0 : Int32)) F dX7_copy_118 rfl ?_
  refine z_bipush (y := (16 : Int32)) F dX7_copy_119 rfl ?_
  obtain ⟨hc121, h⟩ := zcpk_ex h
  refine z_copy F (zt_f tc_7_11 t1) (zt_f tc_7_11 t0) wM_X7_68 dX7_copy_121 hc121 (Nat.le_of_ble_eq_true rfl) (Nat.le_of_ble_eq_true rfl) (Nat.le_of_ble_eq_true rfl) ?_
  obtain ⟨v_12, ev_12, h⟩ := zlet_ex h
  refine z_heap ev_12 ?_
  refine z_aload_n F dX7_copy_124 rfl 1 rfl ?_
  refine zg_7_12 F t1 wF_X7_28 dX7_copy_125 ?_
  refine z_iconst (y := (0 : Int32)) F dX7_copy_128 rfl ?_
  refine z_aload_n F dX7_copy_129 rfl 0 rfl ?_
  refine zg_7_12 F t0 wF_X7_28 dX7_copy_130 ?_
  refine z_iconst (y := (0 : Int32)) F dX7_copy_133 rfl ?_
  refine z_bipush (y := (16 : Int32)) F dX7_copy_134 rfl ?_
  obtain ⟨hc136, h⟩ := zcpk_ex h
  refine z_copy F (zt_f tc_7_12 t1) (zt_f tc_7_12 t0) wM_X7_68 dX7_copy_136 hc136 (Nat.le_of_ble_eq_true rfl) (Nat.le_of_ble_eq_true rfl) (Nat.le_of_ble_eq_true rfl) ?_
  obtain ⟨v_13, ev_13, h⟩ := zlet_ex h
  refine z_heap ev_13 ?_
  cases h
  exact z_retv F hr hk dX7_copy_139

theorem dX7_isWaiting_0 : decode cX7_isWaiting 0 = .ok (.aload_n 0, 1) := by decide +kernel
theorem dX7_isWaiting_1 : decode cX7_isWaiting 1 = .ok (.getfield 19, 3) := by decide +kernel
theorem dX7_isWaiting_4 : decode cX7_isWaiting 4 = .ok (.iload_n 1, 1) := by decide +kernel
theorem dX7_isWaiting_5 : decode cX7_isWaiting 5 = .ok (.invokestatic 60, 3) := by decide +kernel
theorem dX7_isWaiting_8 : decode cX7_isWaiting 8 = .ok (.ifCond .ne 7, 3) := by decide +kernel
theorem dX7_isWaiting_11 : decode cX7_isWaiting 11 = .ok (.iconst 1, 1) := by decide +kernel
theorem dX7_isWaiting_12 : decode cX7_isWaiting 12 = .ok (.goto 4, 3) := by decide +kernel
theorem dX7_isWaiting_15 : decode cX7_isWaiting 15 = .ok (.iconst 0, 1) := by decide +kernel
theorem dX7_isWaiting_16 : decode cX7_isWaiting 16 = .ok (.ireturn, 1) := by decide +kernel
def fX7_isWaiting (x0 : Nat) (x1 : Int32) (v : zV) : Option (Int32 × zV) :=
  zbind (fX9_get (zrf x0 9) x1 v) fun r_2 v_1 =>
  if r_2 = (0 : Int32) then
    some ((1 : Int32), v_1)
  else
    some ((0 : Int32), v_1)
set_option maxRecDepth 4000 in
theorem kX7_isWaiting (l : Launch) (G : zG) (x0 : Nat) (t0 : zty G x0 1 7) (x1 : Int32) (v : zV) (r : Int32) (w : zV) (h : fX7_isWaiting x0 x1 v = some (r, w)) : zMet l yX7_isWaiting cX7_isWaiting 2 (Option.some FieldType.boolean) 2 101 0 0 [zr G x0, .int x1] G v (some (.int r)) w := by
  refine zM_of (own := RX7) (by decide) rfl (Nat.le_of_ble_eq_true rfl) (fun x hl F hr hk hcs => ?_)
  subst hl
  refine z_ls [(0, zr G x0), (1, .int x1)] [0, 1] rfl ?_
  unfold fX7_isWaiting at h
  refine z_aload_n F dX7_isWaiting_0 rfl 0 rfl ?_
  refine zg_7_9 F t0 wF_X7_19 dX7_isWaiting_1 ?_
  refine z_iload_n F dX7_isWaiting_4 rfl 1 rfl ?_
  obtain ⟨r_2, v_1, hq5, h⟩ := zbind_ex h
  refine z_callSNi F [zr G (zrf x0 9), .int x1] [] (kX9_get x.2.1 G (zrf x0 9) (zt_f tc_7_9 t0) x1 v r_2 v_1 hq5) mI_X9_get wN_X7_60 ms_X9_get dX7_isWaiting_5 rfl ⟨Nat.le_of_ble_eq_true rfl, Nat.le_of_ble_eq_true rfl⟩ rfl (Nat.le_of_ble_eq_true rfl) ⟨Nat.zero_le _, Nat.zero_le _⟩ ?_
  refine z_if_ne F 15 dX7_isWaiting_8 rfl (fun hc => ?_) (fun hc => ?_)
  · replace h := zif_f hc h
    refine z_iconst (y := (0 : Int32)) F dX7_isWaiting_15 rfl ?_
    cases h
    exact z_retz F hr hk rfl dX7_isWaiting_16
  · replace h := zif_t hc h
    refine z_iconst (y := (1 : Int32)) F dX7_isWaiting_11 rfl ?_
    refine z_goto F 16 dX7_isWaiting_12 rfl ?_
    cases h
    exact z_retz F hr hk rfl dX7_isWaiting_16

theorem dX7_isAlive_0 : decode cX7_isAlive 0 = .ok (.aload_n 0, 1) := by decide +kernel
theorem dX7_isAlive_1 : decode cX7_isAlive 1 = .ok (.getfield 19, 3) := by decide +kernel
theorem dX7_isAlive_4 : decode cX7_isAlive 4 = .ok (.iload_n 1, 1) := by decide +kernel
theorem dX7_isAlive_5 : decode cX7_isAlive 5 = .ok (.invokestatic 60, 3) := by decide +kernel
theorem dX7_isAlive_8 : decode cX7_isAlive 8 = .ok (.iconst 3, 1) := by decide +kernel
theorem dX7_isAlive_9 : decode cX7_isAlive 9 = .ok (.if_icmp .eq 7, 3) := by decide +kernel
theorem dX7_isAlive_12 : decode cX7_isAlive 12 = .ok (.iconst 1, 1) := by decide +kernel
theorem dX7_isAlive_13 : decode cX7_isAlive 13 = .ok (.goto 4, 3) := by decide +kernel
theorem dX7_isAlive_16 : decode cX7_isAlive 16 = .ok (.iconst 0, 1) := by decide +kernel
theorem dX7_isAlive_17 : decode cX7_isAlive 17 = .ok (.ireturn, 1) := by decide +kernel
def fX7_isAlive (x0 : Nat) (x1 : Int32) (v : zV) : Option (Int32 × zV) :=
  zbind (fX9_get (zrf x0 9) x1 v) fun r_2 v_1 =>
  if r_2 = (3 : Int32) then
    some ((0 : Int32), v_1)
  else
    some ((1 : Int32), v_1)
set_option maxRecDepth 4000 in
theorem kX7_isAlive (l : Launch) (G : zG) (x0 : Nat) (t0 : zty G x0 1 7) (x1 : Int32) (v : zV) (r : Int32) (w : zV) (h : fX7_isAlive x0 x1 v = some (r, w)) : zMet l yX7_isAlive cX7_isAlive 2 (Option.some FieldType.boolean) 2 101 0 0 [zr G x0, .int x1] G v (some (.int r)) w := by
  refine zM_of (own := RX7) (by decide) rfl (Nat.le_of_ble_eq_true rfl) (fun x hl F hr hk hcs => ?_)
  subst hl
  refine z_ls [(0, zr G x0), (1, .int x1)] [0, 1] rfl ?_
  unfold fX7_isAlive at h
  refine z_aload_n F dX7_isAlive_0 rfl 0 rfl ?_
  refine zg_7_9 F t0 wF_X7_19 dX7_isAlive_1 ?_
  refine z_iload_n F dX7_isAlive_4 rfl 1 rfl ?_
  obtain ⟨r_2, v_1, hq5, h⟩ := zbind_ex h
  refine z_callSNi F [zr G (zrf x0 9), .int x1] [] (kX9_get x.2.1 G (zrf x0 9) (zt_f tc_7_9 t0) x1 v r_2 v_1 hq5) mI_X9_get wN_X7_60 ms_X9_get dX7_isAlive_5 rfl ⟨Nat.le_of_ble_eq_true rfl, Nat.le_of_ble_eq_true rfl⟩ rfl (Nat.le_of_ble_eq_true rfl) ⟨Nat.zero_le _, Nat.zero_le _⟩ ?_
  refine z_iconst (y := (3 : Int32)) F dX7_isAlive_8 rfl ?_
  refine z_icmp_eq F 16 dX7_isAlive_9 rfl (fun hc => ?_) (fun hc => ?_)
  · replace h := zif_t hc h
    refine z_iconst (y := (0 : Int32)) F dX7_isAlive_16 rfl ?_
    cases h
    exact z_retz F hr hk rfl dX7_isAlive_17
  · replace h := zif_f hc h
    refine z_iconst (y := (1 : Int32)) F dX7_isAlive_12 rfl ?_
    refine z_goto F 17 dX7_isAlive_13 rfl ?_
    cases h
    exact z_retz F hr hk rfl dX7_isAlive_17

theorem dX7_onChair_0 : decode cX7_onChair 0 = .ok (.iload_n 1, 1) := by decide +kernel
theorem dX7_onChair_1 : decode cX7_onChair 1 = .ok (.ifCond .lt 22, 3) := by decide +kernel
theorem dX7_onChair_4 : decode cX7_onChair 4 = .ok (.iload_n 1, 1) := by decide +kernel
theorem dX7_onChair_5 : decode cX7_onChair 5 = .ok (.aload_n 0, 1) := by decide +kernel
theorem dX7_onChair_6 : decode cX7_onChair 6 = .ok (.getfield 31, 3) := by decide +kernel
theorem dX7_onChair_9 : decode cX7_onChair 9 = .ok (.if_icmp .ge 14, 3) := by decide +kernel
theorem dX7_onChair_12 : decode cX7_onChair 12 = .ok (.aload_n 0, 1) := by decide +kernel
theorem dX7_onChair_13 : decode cX7_onChair 13 = .ok (.getfield 15, 3) := by decide +kernel
theorem dX7_onChair_16 : decode cX7_onChair 16 = .ok (.iload_n 1, 1) := by decide +kernel
theorem dX7_onChair_17 : decode cX7_onChair 17 = .ok (.invokestatic 60, 3) := by decide +kernel
theorem dX7_onChair_20 : decode cX7_onChair 20 = .ok (.goto 4, 3) := by decide +kernel
theorem dX7_onChair_23 : decode cX7_onChair 23 = .ok (.iconst (-1), 1) := by decide +kernel
theorem dX7_onChair_24 : decode cX7_onChair 24 = .ok (.ireturn, 1) := by decide +kernel
def fX7_onChair (x0 : Nat) (x1 : Int32) (v : zV) : Option (Int32 × zV) :=
  if x1 < (0 : Int32) then
    some ((-1 : Int32), v)
  else
    if (v x0 1) ≤ x1 then
      some ((-1 : Int32), v)
    else
      zbind (fX9_get (zrf x0 8) x1 v) fun r_2 v_1 =>
      some (r_2, v_1)
set_option maxRecDepth 4000 in
theorem kX7_onChair (l : Launch) (G : zG) (x0 : Nat) (t0 : zty G x0 1 7) (x1 : Int32) (v : zV) (r : Int32) (w : zV) (h : fX7_onChair x0 x1 v = some (r, w)) : zMet l yX7_onChair cX7_onChair 2 (Option.some FieldType.int) 2 101 0 0 [zr G x0, .int x1] G v (some (.int r)) w := by
  refine zM_of (own := RX7) (by decide) rfl (Nat.le_of_ble_eq_true rfl) (fun x hl F hr hk hcs => ?_)
  subst hl
  refine z_ls [(0, zr G x0), (1, .int x1)] [0, 1] rfl ?_
  unfold fX7_onChair at h
  refine z_iload_n F dX7_onChair_0 rfl 1 rfl ?_
  refine z_if_lt F 23 dX7_onChair_1 rfl (fun hc => ?_) (fun hc => ?_)
  · replace h := zif_t hc h
    refine z_iconst (y := (-1 : Int32)) F dX7_onChair_23 rfl ?_
    cases h
    exact z_reti F hr hk dX7_onChair_24
  · replace h := zif_f hc h
    refine z_iload_n F dX7_onChair_4 rfl 1 rfl ?_
    refine z_aload_n F dX7_onChair_5 rfl 0 rfl ?_
    refine zg_7_1 F t0 wF_X7_31 dX7_onChair_6 ?_
    refine z_icmp_ge F 23 dX7_onChair_9 rfl (fun hc => ?_) (fun hc => ?_)
    · replace h := zif_t hc h
      refine z_iconst (y := (-1 : Int32)) F dX7_onChair_23 rfl ?_
      cases h
      exact z_reti F hr hk dX7_onChair_24
    · replace h := zif_f hc h
      refine z_aload_n F dX7_onChair_12 rfl 0 rfl ?_
      refine zg_7_8 F t0 wF_X7_15 dX7_onChair_13 ?_
      refine z_iload_n F dX7_onChair_16 rfl 1 rfl ?_
      obtain ⟨r_2, v_1, hq17, h⟩ := zbind_ex h
      refine z_callSNi F [zr G (zrf x0 8), .int x1] [] (kX9_get x.2.1 G (zrf x0 8) (zt_f tc_7_8 t0) x1 v r_2 v_1 hq17) mI_X9_get wN_X7_60 ms_X9_get dX7_onChair_17 rfl ⟨Nat.le_of_ble_eq_true rfl, Nat.le_of_ble_eq_true rfl⟩ rfl (Nat.le_of_ble_eq_true rfl) ⟨Nat.zero_le _, Nat.zero_le _⟩ ?_
      refine z_goto F 24 dX7_onChair_20 rfl ?_
      cases h
      exact z_reti F hr hk dX7_onChair_24

theorem dX7_last_0 : decode cX7_last 0 = .ok (.aload_n 0, 1) := by decide +kernel
theorem dX7_last_1 : decode cX7_last 1 = .ok (.getfield 31, 3) := by decide +kernel
theorem dX7_last_4 : decode cX7_last 4 = .ok (.ifCond .le 19, 3) := by decide +kernel
theorem dX7_last_7 : decode cX7_last 7 = .ok (.aload_n 0, 1) := by decide +kernel
theorem dX7_last_8 : decode cX7_last 8 = .ok (.getfield 15, 3) := by decide +kernel
theorem dX7_last_11 : decode cX7_last 11 = .ok (.aload_n 0, 1) := by decide +kernel
theorem dX7_last_12 : decode cX7_last 12 = .ok (.getfield 31, 3) := by decide +kernel
theorem dX7_last_15 : decode cX7_last 15 = .ok (.iconst 1, 1) := by decide +kernel
theorem dX7_last_16 : decode cX7_last 16 = .ok (.isub, 1) := by decide +kernel
theorem dX7_last_17 : decode cX7_last 17 = .ok (.invokestatic 60, 3) := by decide +kernel
theorem dX7_last_20 : decode cX7_last 20 = .ok (.goto 4, 3) := by decide +kernel
theorem dX7_last_23 : decode cX7_last 23 = .ok (.iconst (-1), 1) := by decide +kernel
theorem dX7_last_24 : decode cX7_last 24 = .ok (.ireturn, 1) := by decide +kernel
def fX7_last (x0 : Nat) (v : zV) : Option (Int32 × zV) :=
  if (v x0 1) ≤ (0 : Int32) then
    some ((-1 : Int32), v)
  else
    zbind (fX9_get (zrf x0 8) ((v x0 1) - (1 : Int32)) v) fun r_2 v_1 =>
    some (r_2, v_1)
set_option maxRecDepth 4000 in
theorem kX7_last (l : Launch) (G : zG) (x0 : Nat) (t0 : zty G x0 1 7) (v : zV) (r : Int32) (w : zV) (h : fX7_last x0 v = some (r, w)) : zMet l yX7_last cX7_last 1 (Option.some FieldType.int) 2 101 0 0 [zr G x0] G v (some (.int r)) w := by
  refine zM_of (own := RX7) (by decide) rfl (Nat.le_of_ble_eq_true rfl) (fun x hl F hr hk hcs => ?_)
  subst hl
  refine z_ls [(0, zr G x0)] [0] rfl ?_
  unfold fX7_last at h
  refine z_aload_n F dX7_last_0 rfl 0 rfl ?_
  refine zg_7_1 F t0 wF_X7_31 dX7_last_1 ?_
  refine z_if_le F 23 dX7_last_4 rfl (fun hc => ?_) (fun hc => ?_)
  · replace h := zif_t hc h
    refine z_iconst (y := (-1 : Int32)) F dX7_last_23 rfl ?_
    cases h
    exact z_reti F hr hk dX7_last_24
  · replace h := zif_f hc h
    refine z_aload_n F dX7_last_7 rfl 0 rfl ?_
    refine zg_7_8 F t0 wF_X7_15 dX7_last_8 ?_
    refine z_aload_n F dX7_last_11 rfl 0 rfl ?_
    refine zg_7_1 F t0 wF_X7_31 dX7_last_12 ?_
    refine z_iconst (y := (1 : Int32)) F dX7_last_15 rfl ?_
    refine z_isub F dX7_last_16 ?_
    obtain ⟨r_2, v_1, hq17, h⟩ := zbind_ex h
    refine z_callSNi F [zr G (zrf x0 8), .int ((v x0 1) - (1 : Int32))] [] (kX9_get x.2.1 G (zrf x0 8) (zt_f tc_7_8 t0) ((v x0 1) - (1 : Int32)) v r_2 v_1 hq17) mI_X9_get wN_X7_60 ms_X9_get dX7_last_17 rfl ⟨Nat.le_of_ble_eq_true rfl, Nat.le_of_ble_eq_true rfl⟩ rfl (Nat.le_of_ble_eq_true rfl) ⟨Nat.zero_le _, Nat.zero_le _⟩ ?_
    refine z_goto F 24 dX7_last_20 rfl ?_
    cases h
    exact z_reti F hr hk dX7_last_24

theorem dX7_chairOf_0 : decode cX7_chairOf 0 = .ok (.iconst 0, 1) := by decide +kernel
theorem dX7_chairOf_1 : decode cX7_chairOf 1 = .ok (.istore_n 2, 1) := by decide +kernel
theorem dX7_chairOf_2 : decode cX7_chairOf 2 = .ok (.iload_n 2, 1) := by decide +kernel
theorem dX7_chairOf_3 : decode cX7_chairOf 3 = .ok (.aload_n 0, 1) := by decide +kernel
theorem dX7_chairOf_4 : decode cX7_chairOf 4 = .ok (.getfield 31, 3) := by decide +kernel
theorem dX7_chairOf_7 : decode cX7_chairOf 7 = .ok (.if_icmp .ge 23, 3) := by decide +kernel
theorem dX7_chairOf_10 : decode cX7_chairOf 10 = .ok (.aload_n 0, 1) := by decide +kernel
theorem dX7_chairOf_11 : decode cX7_chairOf 11 = .ok (.getfield 15, 3) := by decide +kernel
theorem dX7_chairOf_14 : decode cX7_chairOf 14 = .ok (.iload_n 2, 1) := by decide +kernel
theorem dX7_chairOf_15 : decode cX7_chairOf 15 = .ok (.invokestatic 60, 3) := by decide +kernel
theorem dX7_chairOf_18 : decode cX7_chairOf 18 = .ok (.iload_n 1, 1) := by decide +kernel
theorem dX7_chairOf_19 : decode cX7_chairOf 19 = .ok (.if_icmp .ne 5, 3) := by decide +kernel
theorem dX7_chairOf_22 : decode cX7_chairOf 22 = .ok (.iload_n 2, 1) := by decide +kernel
theorem dX7_chairOf_23 : decode cX7_chairOf 23 = .ok (.ireturn, 1) := by decide +kernel
theorem dX7_chairOf_24 : decode cX7_chairOf 24 = .ok (.iinc 2 1, 3) := by decide +kernel
theorem dX7_chairOf_27 : decode cX7_chairOf 27 = .ok (.goto (-25), 3) := by decide +kernel
theorem dX7_chairOf_30 : decode cX7_chairOf 30 = .ok (.iconst (-1), 1) := by decide +kernel
theorem dX7_chairOf_31 : decode cX7_chairOf 31 = .ok (.ireturn, 1) := by decide +kernel
def fX7_chairOf_2  : Nat → Nat → Int32 → Int32 → zV → Option (Int32 × zV)
  | 0 => fun _ _ _ _ => none
  | n + 1 => fun x0 x1 x2 v =>
    if (v x0 1) ≤ x2 then
      some ((-1 : Int32), v)
    else
      zbind (fX9_get (zrf x0 8) x2 v) fun r_2 v_1 =>
      if r_2 = x1 then
        some (x2, v_1)
      else
        (fX7_chairOf_2 n) x0 x1 (x2 + (1 : Int32)) v_1
set_option maxRecDepth 4000 in
theorem jX7_chairOf_2 (x : zCx) (G : zG) (F : zF x G cX7_chairOf 3 RX7 2 101) (hr : x.2.2.2.2.2.2.2.2.1.sig.returnType = (Option.some FieldType.int)) (hk : x.2.2.2.2.2.2.2.2.1.locks = false) (r : Int32) (w : zV)  : ∀ (n : Nat) (x0 : Nat) (t0 : zty G x0 1 7) (x1 : Int32) (x2 : Int32) (v : zV), fX7_chairOf_2 n x0 x1 x2 v = some (r, w) → zJ x G 3 (zQ x G (some (.int r)) w 0 0) 0 0 2 [(0, zr G x0), (1, .int x1), (2, .int x2)] [] v := by
  intro n
  induction n with
  | zero => intro x0 t0 x1 x2 v h; exact absurd h (by intro q; cases q)
  | succ n ih =>
    intro x0 t0 x1 x2 v h
    rw [fX7_chairOf_2] at h
    dsimp only at h
    refine z_iload_n F dX7_chairOf_2 rfl 2 rfl ?_
    refine z_aload_n F dX7_chairOf_3 rfl 0 rfl ?_
    refine zg_7_1 F t0 wF_X7_31 dX7_chairOf_4 ?_
    refine z_icmp_ge F 30 dX7_chairOf_7 rfl (fun hc => ?_) (fun hc => ?_)
    · replace h := zif_t hc h
      refine z_iconst (y := (-1 : Int32)) F dX7_chairOf_30 rfl ?_
      cases h
      exact z_reti F hr hk dX7_chairOf_31
    · replace h := zif_f hc h
      refine z_aload_n F dX7_chairOf_10 rfl 0 rfl ?_
      refine zg_7_8 F t0 wF_X7_15 dX7_chairOf_11 ?_
      refine z_iload_n F dX7_chairOf_14 rfl 2 rfl ?_
      obtain ⟨r_2, v_1, hq15, h⟩ := zbind_ex h
      refine z_callSNi F [zr G (zrf x0 8), .int x2] [] (kX9_get x.2.1 G (zrf x0 8) (zt_f tc_7_8 t0) x2 v r_2 v_1 hq15) mI_X9_get wN_X7_60 ms_X9_get dX7_chairOf_15 rfl ⟨Nat.le_of_ble_eq_true rfl, Nat.le_of_ble_eq_true rfl⟩ rfl (Nat.le_of_ble_eq_true rfl) ⟨Nat.zero_le _, Nat.zero_le _⟩ ?_
      refine z_iload_n F dX7_chairOf_18 rfl 1 rfl ?_
      refine z_icmp_ne F 24 dX7_chairOf_19 rfl (fun hc => ?_) (fun hc => ?_)
      · replace h := zif_f hc h
        refine z_iinc F [(2, .int (x2 + (1 : Int32))), (0, zr G x0), (1, .int x1)] dX7_chairOf_24 2 rfl rfl (Nat.le_of_ble_eq_true rfl) rfl ?_
        refine z_goto F 2 dX7_chairOf_27 rfl ?_
        refine z_ls [(0, zr G x0), (1, .int x1), (2, .int (x2 + (1 : Int32)))] [1, 2, 0] rfl ?_
        exact ih x0 t0 x1 (x2 + (1 : Int32)) v_1 h
      · replace h := zif_t hc h
        refine z_iload_n F dX7_chairOf_22 rfl 2 rfl ?_
        cases h
        exact z_reti F hr hk dX7_chairOf_23

def fX7_chairOf (x0 : Nat) (x1 : Int32) (v : zV) : Option (Int32 × zV) :=
  fX7_chairOf_2  zFU x0 x1 (0 : Int32) v
set_option maxRecDepth 4000 in
theorem kX7_chairOf (l : Launch) (G : zG) (x0 : Nat) (t0 : zty G x0 1 7) (x1 : Int32) (v : zV) (r : Int32) (w : zV) (h : fX7_chairOf x0 x1 v = some (r, w)) : zMet l yX7_chairOf cX7_chairOf 3 (Option.some FieldType.int) 2 101 0 0 [zr G x0, .int x1] G v (some (.int r)) w := by
  refine zM_of (own := RX7) (by decide) rfl (Nat.le_of_ble_eq_true rfl) (fun x hl F hr hk hcs => ?_)
  subst hl
  refine z_ls [(0, zr G x0), (1, .int x1)] [0, 1] rfl ?_
  unfold fX7_chairOf at h
  refine z_iconst (y := (0 : Int32)) F dX7_chairOf_0 rfl ?_
  refine z_istore_n F [(2, .int (0 : Int32)), (0, zr G x0), (1, .int x1)] dX7_chairOf_1 rfl (Nat.le_of_ble_eq_true rfl) rfl ?_
  refine z_ls [(0, zr G x0), (1, .int x1), (2, .int (0 : Int32))] [1, 2, 0] rfl ?_
  exact jX7_chairOf_2 x G F hr hk r w   zFU x0 t0 x1 (0 : Int32) v h

theorem dX7_vacate_0 : decode cX7_vacate 0 = .ok (.iload_n 1, 1) := by decide +kernel
theorem dX7_vacate_1 : decode cX7_vacate 1 = .ok (.ifCond .lt 11, 3) := by decide +kernel
theorem dX7_vacate_4 : decode cX7_vacate 4 = .ok (.iload_n 1, 1) := by decide +kernel
theorem dX7_vacate_5 : decode cX7_vacate 5 = .ok (.aload_n 0, 1) := by decide +kernel
theorem dX7_vacate_6 : decode cX7_vacate 6 = .ok (.getfield 31, 3) := by decide +kernel
theorem dX7_vacate_9 : decode cX7_vacate 9 = .ok (.if_icmp .lt 4, 3) := by decide +kernel
theorem dX7_vacate_12 : decode cX7_vacate 12 = .ok (.return_, 1) := by decide +kernel
theorem dX7_vacate_13 : decode cX7_vacate 13 = .ok (.iload_n 1, 1) := by decide +kernel
theorem dX7_vacate_14 : decode cX7_vacate 14 = .ok (.iconst 1, 1) := by decide +kernel
theorem dX7_vacate_15 : decode cX7_vacate 15 = .ok (.iadd, 1) := by decide +kernel
theorem dX7_vacate_16 : decode cX7_vacate 16 = .ok (.istore_n 2, 1) := by decide +kernel
theorem dX7_vacate_17 : decode cX7_vacate 17 = .ok (.iload_n 2, 1) := by decide +kernel
theorem dX7_vacate_18 : decode cX7_vacate 18 = .ok (.aload_n 0, 1) := by decide +kernel
theorem dX7_vacate_19 : decode cX7_vacate 19 = .ok (.getfield 31, 3) := by decide +kernel
theorem dX7_vacate_22 : decode cX7_vacate 22 = .ok (.if_icmp .ge 27, 3) := by decide +kernel
theorem dX7_vacate_25 : decode cX7_vacate 25 = .ok (.aload_n 0, 1) := by decide +kernel
theorem dX7_vacate_26 : decode cX7_vacate 26 = .ok (.getfield 15, 3) := by decide +kernel
theorem dX7_vacate_29 : decode cX7_vacate 29 = .ok (.iload_n 2, 1) := by decide +kernel
theorem dX7_vacate_30 : decode cX7_vacate 30 = .ok (.iconst 1, 1) := by decide +kernel
theorem dX7_vacate_31 : decode cX7_vacate 31 = .ok (.isub, 1) := by decide +kernel
theorem dX7_vacate_32 : decode cX7_vacate 32 = .ok (.aload_n 0, 1) := by decide +kernel
theorem dX7_vacate_33 : decode cX7_vacate 33 = .ok (.getfield 15, 3) := by decide +kernel
theorem dX7_vacate_36 : decode cX7_vacate 36 = .ok (.iload_n 2, 1) := by decide +kernel
theorem dX7_vacate_37 : decode cX7_vacate 37 = .ok (.invokestatic 60, 3) := by decide +kernel
theorem dX7_vacate_40 : decode cX7_vacate 40 = .ok (.invokestatic 74, 3) := by decide +kernel
theorem dX7_vacate_43 : decode cX7_vacate 43 = .ok (.iinc 2 1, 3) := by decide +kernel
theorem dX7_vacate_46 : decode cX7_vacate 46 = .ok (.goto (-29), 3) := by decide +kernel
theorem dX7_vacate_49 : decode cX7_vacate 49 = .ok (.aload_n 0, 1) := by decide +kernel
theorem dX7_vacate_50 : decode cX7_vacate 50 = .ok (.dup, 1) := by decide +kernel
theorem dX7_vacate_51 : decode cX7_vacate 51 = .ok (.getfield 31, 3) := by decide +kernel
theorem dX7_vacate_54 : decode cX7_vacate 54 = .ok (.iconst 1, 1) := by decide +kernel
theorem dX7_vacate_55 : decode cX7_vacate 55 = .ok (.isub, 1) := by decide +kernel
theorem dX7_vacate_56 : decode cX7_vacate 56 = .ok (.putfield 31, 3) := by decide +kernel
theorem dX7_vacate_59 : decode cX7_vacate 59 = .ok (.return_, 1) := by decide +kernel
def fX7_vacate_17  : Nat → Nat → Int32 → zV → Option zV
  | 0 => fun _ _ _ => none
  | n + 1 => fun x0 x2 v =>
    if (v x0 1) ≤ x2 then
      zlet (zup v x0 1 ((v x0 1) - (1 : Int32))) fun v_1 =>
      some v_1
    else
      zbind (fX9_get (zrf x0 8) x2 v) fun r_3 v_2 =>
      zbindv (fX9_set (zrf x0 8) (x2 - (1 : Int32)) r_3 v_2) fun v_4 =>
      (fX7_vacate_17 n) x0 (x2 + (1 : Int32)) v_4
set_option maxRecDepth 4000 in
theorem jX7_vacate_17 (x : zCx) (G : zG) (F : zF x G cX7_vacate 3 RX7 2 102) (hr : x.2.2.2.2.2.2.2.2.1.sig.returnType = (Option.none : Option FieldType)) (hk : x.2.2.2.2.2.2.2.2.1.locks = false) (w : zV)  : ∀ (n : Nat) (x0 : Nat) (t0 : zty G x0 1 7) (x2 : Int32) (v : zV), fX7_vacate_17 n x0 x2 v = some w → zJ x G 3 (zQ x G none w 0 0) 0 0 17 [(0, zr G x0), (2, .int x2)] [] v := by
  intro n
  induction n with
  | zero => intro x0 t0 x2 v h; exact absurd h (by intro q; cases q)
  | succ n ih =>
    intro x0 t0 x2 v h
    rw [fX7_vacate_17] at h
    dsimp only at h
    refine z_iload_n F dX7_vacate_17 rfl 1 rfl ?_
    refine z_aload_n F dX7_vacate_18 rfl 0 rfl ?_
    refine zg_7_1 F t0 wF_X7_31 dX7_vacate_19 ?_
    refine z_icmp_ge F 49 dX7_vacate_22 rfl (fun hc => ?_) (fun hc => ?_)
    · replace h := zif_t hc h
      refine z_aload_n F dX7_vacate_49 rfl 0 rfl ?_
      refine z_dup F dX7_vacate_50 rfl ?_
      refine zg_7_1 F t0 wF_X7_31 dX7_vacate_51 ?_
      refine z_iconst (y := (1 : Int32)) F dX7_vacate_54 rfl ?_
      refine z_isub F dX7_vacate_55 ?_
      refine zp_7_1 F t0 wF_X7_31 dX7_vacate_56 ?_
      obtain ⟨v_1, ev_1, h⟩ := zlet_ex h
      refine z_heap ev_1 ?_
      cases h
      exact z_retv F hr hk dX7_vacate_59
    · replace h := zif_f hc h
      refine z_aload_n F dX7_vacate_25 rfl 0 rfl ?_
      refine zg_7_8 F t0 wF_X7_15 dX7_vacate_26 ?_
      refine z_iload_n F dX7_vacate_29 rfl 1 rfl ?_
      refine z_iconst (y := (1 : Int32)) F dX7_vacate_30 rfl ?_
      refine z_isub F dX7_vacate_31 ?_
      refine z_aload_n F dX7_vacate_32 rfl 0 rfl ?_
      refine zg_7_8 F t0 wF_X7_15 dX7_vacate_33 ?_
      refine z_iload_n F dX7_vacate_36 rfl 1 rfl ?_
      obtain ⟨r_3, v_2, hq37, h⟩ := zbind_ex h
      refine z_callSNi F [zr G (zrf x0 8), .int x2] [.int (x2 - (1 : Int32)), zr G (zrf x0 8)] (kX9_get x.2.1 G (zrf x0 8) (zt_f tc_7_8 t0) x2 v r_3 v_2 hq37) mI_X9_get wN_X7_60 ms_X9_get dX7_vacate_37 rfl ⟨Nat.le_of_ble_eq_true rfl, Nat.le_of_ble_eq_true rfl⟩ rfl (Nat.le_of_ble_eq_true rfl) ⟨Nat.zero_le _, Nat.zero_le _⟩ ?_
      obtain ⟨v_4, hq40, h⟩ := zbindv_ex h
      refine z_callSNv F [zr G (zrf x0 8), .int (x2 - (1 : Int32)), .int r_3] [] (kX9_set x.2.1 G (zrf x0 8) (zt_f tc_7_8 t0) (x2 - (1 : Int32)) r_3 v_2 v_4 hq40) mI_X9_set wN_X7_74 ms_X9_set dX7_vacate_40 rfl ⟨Nat.le_of_ble_eq_true rfl, Nat.le_of_ble_eq_true rfl⟩ rfl (Nat.le_of_ble_eq_true rfl) ⟨Nat.zero_le _, Nat.zero_le _⟩ ?_
      refine z_iinc F [(2, .int (x2 + (1 : Int32))), (0, zr G x0)] dX7_vacate_43 1 rfl rfl (Nat.le_of_ble_eq_true rfl) rfl ?_
      refine z_goto F 17 dX7_vacate_46 rfl ?_
      refine z_ls [(0, zr G x0), (2, .int (x2 + (1 : Int32)))] [1, 0] rfl ?_
      exact ih x0 t0 (x2 + (1 : Int32)) v_4 h

def fX7_vacate (x0 : Nat) (x1 : Int32) (v : zV) : Option zV :=
  if x1 < (0 : Int32) then
    some v
  else
    if x1 < (v x0 1) then
      fX7_vacate_17  zFU x0 (x1 + (1 : Int32)) v
    else
      some v
set_option maxRecDepth 4000 in
theorem kX7_vacate (l : Launch) (G : zG) (x0 : Nat) (t0 : zty G x0 1 7) (x1 : Int32) (v : zV) (w : zV) (h : fX7_vacate x0 x1 v = some w) : zMet l yX7_vacate cX7_vacate 3 (Option.none : Option FieldType) 2 102 0 0 [zr G x0, .int x1] G v none w := by
  refine zM_of (own := RX7) (by decide) rfl (Nat.le_of_ble_eq_true rfl) (fun x hl F hr hk hcs => ?_)
  subst hl
  refine z_ls [(0, zr G x0), (1, .int x1)] [0, 1] rfl ?_
  unfold fX7_vacate at h
  refine z_iload_n F dX7_vacate_0 rfl 1 rfl ?_
  refine z_if_lt F 12 dX7_vacate_1 rfl (fun hc => ?_) (fun hc => ?_)
  · replace h := zif_t hc h
    cases h
    exact z_retv F hr hk dX7_vacate_12
  · replace h := zif_f hc h
    refine z_iload_n F dX7_vacate_4 rfl 1 rfl ?_
    refine z_aload_n F dX7_vacate_5 rfl 0 rfl ?_
    refine zg_7_1 F t0 wF_X7_31 dX7_vacate_6 ?_
    refine z_icmp_lt F 13 dX7_vacate_9 rfl (fun hc => ?_) (fun hc => ?_)
    · replace h := zif_t hc h
      refine z_iload_n F dX7_vacate_13 rfl 1 rfl ?_
      refine z_iconst (y := (1 : Int32)) F dX7_vacate_14 rfl ?_
      refine z_iadd F dX7_vacate_15 ?_
      refine z_istore_n F [(2, .int (x1 + (1 : Int32))), (0, zr G x0), (1, .int x1)] dX7_vacate_16 rfl (Nat.le_of_ble_eq_true rfl) rfl ?_
      refine z_ls [(0, zr G x0), (2, .int (x1 + (1 : Int32)))] [1, 0] rfl ?_
      exact jX7_vacate_17 x G F hr hk w   zFU x0 t0 (x1 + (1 : Int32)) v h
    · replace h := zif_f hc h
      cases h
      exact z_retv F hr hk dX7_vacate_12

theorem dX7_leave_0 : decode cX7_leave 0 = .ok (.aload_n 0, 1) := by decide +kernel
theorem dX7_leave_1 : decode cX7_leave 1 = .ok (.getfield 19, 3) := by decide +kernel
theorem dX7_leave_4 : decode cX7_leave 4 = .ok (.aload_n 0, 1) := by decide +kernel
theorem dX7_leave_5 : decode cX7_leave 5 = .ok (.getfield 15, 3) := by decide +kernel
theorem dX7_leave_8 : decode cX7_leave 8 = .ok (.iload_n 1, 1) := by decide +kernel
theorem dX7_leave_9 : decode cX7_leave 9 = .ok (.invokestatic 60, 3) := by decide +kernel
theorem dX7_leave_12 : decode cX7_leave 12 = .ok (.iconst 2, 1) := by decide +kernel
theorem dX7_leave_13 : decode cX7_leave 13 = .ok (.invokestatic 74, 3) := by decide +kernel
theorem dX7_leave_16 : decode cX7_leave 16 = .ok (.aload_n 0, 1) := by decide +kernel
theorem dX7_leave_17 : decode cX7_leave 17 = .ok (.dup, 1) := by decide +kernel
theorem dX7_leave_18 : decode cX7_leave 18 = .ok (.getfield 40, 3) := by decide +kernel
theorem dX7_leave_21 : decode cX7_leave 21 = .ok (.iconst 1, 1) := by decide +kernel
theorem dX7_leave_22 : decode cX7_leave 22 = .ok (.iadd, 1) := by decide +kernel
theorem dX7_leave_23 : decode cX7_leave 23 = .ok (.putfield 40, 3) := by decide +kernel
theorem dX7_leave_26 : decode cX7_leave 26 = .ok (.aload_n 0, 1) := by decide +kernel
theorem dX7_leave_27 : decode cX7_leave 27 = .ok (.iload_n 1, 1) := by decide +kernel
theorem dX7_leave_28 : decode cX7_leave 28 = .ok (.invokevirtual 78, 3) := by decide +kernel
theorem dX7_leave_31 : decode cX7_leave 31 = .ok (.return_, 1) := by decide +kernel
def fX7_leave (x0 : Nat) (x1 : Int32) (v : zV) : Option zV :=
  zbind (fX9_get (zrf x0 8) x1 v) fun r_2 v_1 =>
  zbindv (fX9_set (zrf x0 9) r_2 (2 : Int32) v_1) fun v_3 =>
  zlet (zup v_3 x0 4 ((v_3 x0 4) + (1 : Int32))) fun v_4 =>
  zbindv (fX7_vacate x0 x1 v_4) fun v_5 =>
  some v_5
set_option maxRecDepth 4000 in
theorem kX7_leave (l : Launch) (G : zG) (x0 : Nat) (t0 : zty G x0 1 7) (x1 : Int32) (v : zV) (w : zV) (h : fX7_leave x0 x1 v = some w) : zMet l yX7_leave cX7_leave 2 (Option.none : Option FieldType) 3 124 0 0 [zr G x0, .int x1] G v none w := by
  refine zM_of (own := RX7) (by decide) rfl (Nat.le_of_ble_eq_true rfl) (fun x hl F hr hk hcs => ?_)
  subst hl
  refine z_ls [(0, zr G x0), (1, .int x1)] [0, 1] rfl ?_
  unfold fX7_leave at h
  refine z_aload_n F dX7_leave_0 rfl 0 rfl ?_
  refine zg_7_9 F t0 wF_X7_19 dX7_leave_1 ?_
  refine z_aload_n F dX7_leave_4 rfl 0 rfl ?_
  refine zg_7_8 F t0 wF_X7_15 dX7_leave_5 ?_
  refine z_iload_n F dX7_leave_8 rfl 1 rfl ?_
  obtain ⟨r_2, v_1, hq9, h⟩ := zbind_ex h
  refine z_callSNi F [zr G (zrf x0 8), .int x1] [zr G (zrf x0 9)] (kX9_get x.2.1 G (zrf x0 8) (zt_f tc_7_8 t0) x1 v r_2 v_1 hq9) mI_X9_get wN_X7_60 ms_X9_get dX7_leave_9 rfl ⟨Nat.le_of_ble_eq_true rfl, Nat.le_of_ble_eq_true rfl⟩ rfl (Nat.le_of_ble_eq_true rfl) ⟨Nat.zero_le _, Nat.zero_le _⟩ ?_
  refine z_iconst (y := (2 : Int32)) F dX7_leave_12 rfl ?_
  obtain ⟨v_3, hq13, h⟩ := zbindv_ex h
  refine z_callSNv F [zr G (zrf x0 9), .int r_2, .int (2 : Int32)] [] (kX9_set x.2.1 G (zrf x0 9) (zt_f tc_7_9 t0) r_2 (2 : Int32) v_1 v_3 hq13) mI_X9_set wN_X7_74 ms_X9_set dX7_leave_13 rfl ⟨Nat.le_of_ble_eq_true rfl, Nat.le_of_ble_eq_true rfl⟩ rfl (Nat.le_of_ble_eq_true rfl) ⟨Nat.zero_le _, Nat.zero_le _⟩ ?_
  refine z_aload_n F dX7_leave_16 rfl 0 rfl ?_
  refine z_dup F dX7_leave_17 rfl ?_
  refine zg_7_4 F t0 wF_X7_40 dX7_leave_18 ?_
  refine z_iconst (y := (1 : Int32)) F dX7_leave_21 rfl ?_
  refine z_iadd F dX7_leave_22 ?_
  refine zp_7_4 F t0 wF_X7_40 dX7_leave_23 ?_
  obtain ⟨v_4, ev_4, h⟩ := zlet_ex h
  refine z_heap ev_4 ?_
  refine z_aload_n F dX7_leave_26 rfl 0 rfl ?_
  refine z_iload_n F dX7_leave_27 rfl 1 rfl ?_
  obtain ⟨v_5, hq28, h⟩ := zbindv_ex h
  refine z_callVv F [.int x1] [] (kX7_vacate x.2.1 G x0 t0 x1 v_4 v_5 hq28) mI_X7_vacate (c := 7) rfl t0 wM_X7_78 mi_X7_vacate sl_X7_vacate dX7_leave_28 rfl ⟨Nat.le_of_ble_eq_true rfl, Nat.le_of_ble_eq_true rfl⟩ rfl (Nat.le_of_ble_eq_true rfl) ⟨Nat.zero_le _, Nat.zero_le _⟩ ?_
  cases h
  exact z_retv F hr hk dX7_leave_31

theorem dX7_praiseMore_0 : decode cX7_praiseMore 0 = .ok (.aload_n 0, 1) := by decide +kernel
theorem dX7_praiseMore_1 : decode cX7_praiseMore 1 = .ok (.getfield 49, 3) := by decide +kernel
theorem dX7_praiseMore_4 : decode cX7_praiseMore 4 = .ok (.aload_n 0, 1) := by decide +kernel
theorem dX7_praiseMore_5 : decode cX7_praiseMore 5 = .ok (.getfield 9, 3) := by decide +kernel
theorem dX7_praiseMore_8 : decode cX7_praiseMore 8 = .ok (.if_icmp .eq 35, 3) := by decide +kernel
theorem dX7_praiseMore_11 : decode cX7_praiseMore 11 = .ok (.aload_n 0, 1) := by decide +kernel
theorem dX7_praiseMore_12 : decode cX7_praiseMore 12 = .ok (.aload_n 0, 1) := by decide +kernel
theorem dX7_praiseMore_13 : decode cX7_praiseMore 13 = .ok (.getfield 9, 3) := by decide +kernel
theorem dX7_praiseMore_16 : decode cX7_praiseMore 16 = .ok (.putfield 49, 3) := by decide +kernel
theorem dX7_praiseMore_19 : decode cX7_praiseMore 19 = .ok (.iconst 0, 1) := by decide +kernel
theorem dX7_praiseMore_20 : decode cX7_praiseMore 20 = .ok (.istore_n 3, 1) := by decide +kernel
theorem dX7_praiseMore_21 : decode cX7_praiseMore 21 = .ok (.iload_n 3, 1) := by decide +kernel
theorem dX7_praiseMore_22 : decode cX7_praiseMore 22 = .ok (.aload_n 0, 1) := by decide +kernel
theorem dX7_praiseMore_23 : decode cX7_praiseMore 23 = .ok (.getfield 28, 3) := by decide +kernel
theorem dX7_praiseMore_26 : decode cX7_praiseMore 26 = .ok (.arraylength, 1) := by decide +kernel
theorem dX7_praiseMore_27 : decode cX7_praiseMore 27 = .ok (.if_icmp .ge 16, 3) := by decide +kernel
theorem dX7_praiseMore_30 : decode cX7_praiseMore 30 = .ok (.aload_n 0, 1) := by decide +kernel
theorem dX7_praiseMore_31 : decode cX7_praiseMore 31 = .ok (.getfield 28, 3) := by decide +kernel
theorem dX7_praiseMore_34 : decode cX7_praiseMore 34 = .ok (.iload_n 3, 1) := by decide +kernel
theorem dX7_praiseMore_35 : decode cX7_praiseMore 35 = .ok (.iconst 0, 1) := by decide +kernel
theorem dX7_praiseMore_36 : decode cX7_praiseMore 36 = .ok (.iastore, 1) := by decide +kernel
theorem dX7_praiseMore_37 : decode cX7_praiseMore 37 = .ok (.iinc 3 1, 3) := by decide +kernel
theorem dX7_praiseMore_40 : decode cX7_praiseMore 40 = .ok (.goto (-19), 3) := by decide +kernel
theorem dX7_praiseMore_43 : decode cX7_praiseMore 43 = .ok (.aload_n 0, 1) := by decide +kernel
theorem dX7_praiseMore_44 : decode cX7_praiseMore 44 = .ok (.getfield 28, 3) := by decide +kernel
theorem dX7_praiseMore_47 : decode cX7_praiseMore 47 = .ok (.iload_n 1, 1) := by decide +kernel
theorem dX7_praiseMore_48 : decode cX7_praiseMore 48 = .ok (.aload_n 0, 1) := by decide +kernel
theorem dX7_praiseMore_49 : decode cX7_praiseMore 49 = .ok (.getfield 28, 3) := by decide +kernel
theorem dX7_praiseMore_52 : decode cX7_praiseMore 52 = .ok (.iload_n 1, 1) := by decide +kernel
theorem dX7_praiseMore_53 : decode cX7_praiseMore 53 = .ok (.invokestatic 60, 3) := by decide +kernel
theorem dX7_praiseMore_56 : decode cX7_praiseMore 56 = .ok (.iload_n 2, 1) := by decide +kernel
theorem dX7_praiseMore_57 : decode cX7_praiseMore 57 = .ok (.iadd, 1) := by decide +kernel
theorem dX7_praiseMore_58 : decode cX7_praiseMore 58 = .ok (.invokestatic 74, 3) := by decide +kernel
theorem dX7_praiseMore_61 : decode cX7_praiseMore 61 = .ok (.return_, 1) := by decide +kernel
def fX7_praiseMore_43  (x0 : Nat) (x1 : Int32) (x2 : Int32) (v : zV) : Option zV :=
  zbind (fX9_get (zrf x0 12) x1 v) fun r_2 v_1 =>
  zbindv (fX9_set (zrf x0 12) x1 (r_2 + x2) v_1) fun v_3 =>
  some v_3
set_option maxRecDepth 4000 in
theorem jX7_praiseMore_43 (x : zCx) (G : zG) (F : zF x G cX7_praiseMore 4 RX7 2 102) (hr : x.2.2.2.2.2.2.2.2.1.sig.returnType = (Option.none : Option FieldType)) (hk : x.2.2.2.2.2.2.2.2.1.locks = false) (w : zV)  : ∀ (x0 : Nat) (t0 : zty G x0 1 7) (x1 : Int32) (x2 : Int32) (v : zV), fX7_praiseMore_43 x0 x1 x2 v = some w → zJ x G 4 (zQ x G none w 0 0) 0 0 43 [(0, zr G x0), (1, .int x1), (2, .int x2)] [] v := by
  intro x0 t0 x1 x2 v h
  unfold fX7_praiseMore_43 at h
  refine z_aload_n F dX7_praiseMore_43 rfl 0 rfl ?_
  refine zg_7_12 F t0 wF_X7_28 dX7_praiseMore_44 ?_
  refine z_iload_n F dX7_praiseMore_47 rfl 1 rfl ?_
  refine z_aload_n F dX7_praiseMore_48 rfl 0 rfl ?_
  refine zg_7_12 F t0 wF_X7_28 dX7_praiseMore_49 ?_
  refine z_iload_n F dX7_praiseMore_52 rfl 1 rfl ?_
  obtain ⟨r_2, v_1, hq53, h⟩ := zbind_ex h
  refine z_callSNi F [zr G (zrf x0 12), .int x1] [.int x1, zr G (zrf x0 12)] (kX9_get x.2.1 G (zrf x0 12) (zt_f tc_7_12 t0) x1 v r_2 v_1 hq53) mI_X9_get wN_X7_60 ms_X9_get dX7_praiseMore_53 rfl ⟨Nat.le_of_ble_eq_true rfl, Nat.le_of_ble_eq_true rfl⟩ rfl (Nat.le_of_ble_eq_true rfl) ⟨Nat.zero_le _, Nat.zero_le _⟩ ?_
  refine z_iload_n F dX7_praiseMore_56 rfl 2 rfl ?_
  refine z_iadd F dX7_praiseMore_57 ?_
  obtain ⟨v_3, hq58, h⟩ := zbindv_ex h
  refine z_callSNv F [zr G (zrf x0 12), .int x1, .int (r_2 + x2)] [] (kX9_set x.2.1 G (zrf x0 12) (zt_f tc_7_12 t0) x1 (r_2 + x2) v_1 v_3 hq58) mI_X9_set wN_X7_74 ms_X9_set dX7_praiseMore_58 rfl ⟨Nat.le_of_ble_eq_true rfl, Nat.le_of_ble_eq_true rfl⟩ rfl (Nat.le_of_ble_eq_true rfl) ⟨Nat.zero_le _, Nat.zero_le _⟩ ?_
  cases h
  exact z_retv F hr hk dX7_praiseMore_61

def fX7_praiseMore_21  : Nat → Nat → Int32 → Int32 → Int32 → zV → Option zV
  | 0 => fun _ _ _ _ _ => none
  | n + 1 => fun x0 x1 x2 x3 v =>
    if (Int32.ofNat (zlen (zrf x0 12))) ≤ x3 then
      fX7_praiseMore_43  x0 x1 x2 v
    else
      zix x3 (zlen (zrf x0 12)) <|
      zlet (zup v (zrf x0 12) (x3).toNatClampNeg (0 : Int32)) fun v_1 =>
      (fX7_praiseMore_21 n) x0 x1 x2 (x3 + (1 : Int32)) v_1
set_option maxRecDepth 4000 in
theorem jX7_praiseMore_21 (x : zCx) (G : zG) (F : zF x G cX7_praiseMore 4 RX7 2 102) (hr : x.2.2.2.2.2.2.2.2.1.sig.returnType = (Option.none : Option FieldType)) (hk : x.2.2.2.2.2.2.2.2.1.locks = false) (w : zV)  : ∀ (n : Nat) (x0 : Nat) (t0 : zty G x0 1 7) (x1 : Int32) (x2 : Int32) (x3 : Int32) (v : zV), fX7_praiseMore_21 n x0 x1 x2 x3 v = some w → zJ x G 4 (zQ x G none w 0 0) 0 0 21 [(0, zr G x0), (1, .int x1), (2, .int x2), (3, .int x3)] [] v := by
  intro n
  induction n with
  | zero => intro x0 t0 x1 x2 x3 v h; exact absurd h (by intro q; cases q)
  | succ n ih =>
    intro x0 t0 x1 x2 x3 v h
    rw [fX7_praiseMore_21] at h
    dsimp only at h
    refine z_iload_n F dX7_praiseMore_21 rfl 3 rfl ?_
    refine z_aload_n F dX7_praiseMore_22 rfl 0 rfl ?_
    refine zg_7_12 F t0 wF_X7_28 dX7_praiseMore_23 ?_
    refine z_alen0 F (zt_f tc_7_12 t0) dX7_praiseMore_26 rfl ?_
    refine z_icmp_ge F 43 dX7_praiseMore_27 rfl (fun hc => ?_) (fun hc => ?_)
    · replace h := zif_t hc h
      refine z_ls [(0, zr G x0), (1, .int x1), (2, .int x2)] [0, 1, 2] rfl ?_
      exact jX7_praiseMore_43 x G F hr hk w   x0 t0 x1 x2 v h
    · replace h := zif_f hc h
      refine z_aload_n F dX7_praiseMore_30 rfl 0 rfl ?_
      refine zg_7_12 F t0 wF_X7_28 dX7_praiseMore_31 ?_
      refine z_iload_n F dX7_praiseMore_34 rfl 3 rfl ?_
      refine z_iconst (y := (0 : Int32)) F dX7_praiseMore_35 rfl ?_
      obtain ⟨hi36, h⟩ := zix_ex h
      refine z_iast F (zt_f tc_7_12 t0) dX7_praiseMore_36 hi36 ?_
      obtain ⟨v_1, ev_1, h⟩ := zlet_ex h
      refine z_heap ev_1 ?_
      refine z_iinc F [(3, .int (x3 + (1 : Int32))), (0, zr G x0), (1, .int x1), (2, .int x2)] dX7_praiseMore_37 3 rfl rfl (Nat.le_of_ble_eq_true rfl) rfl ?_
      refine z_goto F 21 dX7_praiseMore_40 rfl ?_
      refine z_ls [(0, zr G x0), (1, .int x1), (2, .int x2), (3, .int (x3 + (1 : Int32)))] [1, 2, 3, 0] rfl ?_
      exact ih x0 t0 x1 x2 (x3 + (1 : Int32)) v_1 h

def fX7_praiseMore (x0 : Nat) (x1 : Int32) (x2 : Int32) (v : zV) : Option zV :=
  if (v x0 7) = (v x0 0) then
    fX7_praiseMore_43  x0 x1 x2 v
  else
    zlet (zup v x0 7 (v x0 0)) fun v_1 =>
    fX7_praiseMore_21  zFU x0 x1 x2 (0 : Int32) v_1
set_option maxRecDepth 4000 in
theorem kX7_praiseMore (l : Launch) (G : zG) (x0 : Nat) (t0 : zty G x0 1 7) (x1 : Int32) (x2 : Int32) (v : zV) (w : zV) (h : fX7_praiseMore x0 x1 x2 v = some w) : zMet l yX7_praiseMore cX7_praiseMore 4 (Option.none : Option FieldType) 2 102 0 0 [zr G x0, .int x1, .int x2] G v none w := by
  refine zM_of (own := RX7) (by decide) rfl (Nat.le_of_ble_eq_true rfl) (fun x hl F hr hk hcs => ?_)
  subst hl
  refine z_ls [(0, zr G x0), (1, .int x1), (2, .int x2)] [0, 1, 2] rfl ?_
  unfold fX7_praiseMore at h
  refine z_aload_n F dX7_praiseMore_0 rfl 0 rfl ?_
  refine zg_7_7 F t0 wF_X7_49 dX7_praiseMore_1 ?_
  refine z_aload_n F dX7_praiseMore_4 rfl 0 rfl ?_
  refine zg_7_0 F t0 wF_X7_9 dX7_praiseMore_5 ?_
  refine z_icmp_eq F 43 dX7_praiseMore_8 rfl (fun hc => ?_) (fun hc => ?_)
  · replace h := zif_t hc h
    refine z_ls [(0, zr G x0), (1, .int x1), (2, .int x2)] [0, 1, 2] rfl ?_
    exact jX7_praiseMore_43 x G F hr hk w   x0 t0 x1 x2 v h
  · replace h := zif_f hc h
    refine z_aload_n F dX7_praiseMore_11 rfl 0 rfl ?_
    refine z_aload_n F dX7_praiseMore_12 rfl 0 rfl ?_
    refine zg_7_0 F t0 wF_X7_9 dX7_praiseMore_13 ?_
    refine zp_7_7 F t0 wF_X7_49 dX7_praiseMore_16 ?_
    obtain ⟨v_1, ev_1, h⟩ := zlet_ex h
    refine z_heap ev_1 ?_
    refine z_iconst (y := (0 : Int32)) F dX7_praiseMore_19 rfl ?_
    refine z_istore_n F [(3, .int (0 : Int32)), (0, zr G x0), (1, .int x1), (2, .int x2)] dX7_praiseMore_20 rfl (Nat.le_of_ble_eq_true rfl) rfl ?_
    refine z_ls [(0, zr G x0), (1, .int x1), (2, .int x2), (3, .int (0 : Int32))] [1, 2, 3, 0] rfl ?_
    exact jX7_praiseMore_21 x G F hr hk w   zFU x0 t0 x1 x2 (0 : Int32) v_1 h

theorem dX7_praiseAside_0 : decode cX7_praiseAside 0 = .ok (.aload_n 0, 1) := by decide +kernel
theorem dX7_praiseAside_1 : decode cX7_praiseAside 1 = .ok (.getfield 49, 3) := by decide +kernel
theorem dX7_praiseAside_4 : decode cX7_praiseAside 4 = .ok (.aload_n 0, 1) := by decide +kernel
theorem dX7_praiseAside_5 : decode cX7_praiseAside 5 = .ok (.getfield 9, 3) := by decide +kernel
theorem dX7_praiseAside_8 : decode cX7_praiseAside 8 = .ok (.if_icmp .ne 14, 3) := by decide +kernel
theorem dX7_praiseAside_11 : decode cX7_praiseAside 11 = .ok (.aload_n 0, 1) := by decide +kernel
theorem dX7_praiseAside_12 : decode cX7_praiseAside 12 = .ok (.getfield 28, 3) := by decide +kernel
theorem dX7_praiseAside_15 : decode cX7_praiseAside 15 = .ok (.iload_n 1, 1) := by decide +kernel
theorem dX7_praiseAside_16 : decode cX7_praiseAside 16 = .ok (.invokestatic 60, 3) := by decide +kernel
theorem dX7_praiseAside_19 : decode cX7_praiseAside 19 = .ok (.goto 4, 3) := by decide +kernel
theorem dX7_praiseAside_22 : decode cX7_praiseAside 22 = .ok (.iconst 0, 1) := by decide +kernel
theorem dX7_praiseAside_23 : decode cX7_praiseAside 23 = .ok (.ireturn, 1) := by decide +kernel
def fX7_praiseAside (x0 : Nat) (x1 : Int32) (v : zV) : Option (Int32 × zV) :=
  if (v x0 7) = (v x0 0) then
    zbind (fX9_get (zrf x0 12) x1 v) fun r_2 v_1 =>
    some (r_2, v_1)
  else
    some ((0 : Int32), v)
set_option maxRecDepth 4000 in
theorem kX7_praiseAside (l : Launch) (G : zG) (x0 : Nat) (t0 : zty G x0 1 7) (x1 : Int32) (v : zV) (r : Int32) (w : zV) (h : fX7_praiseAside x0 x1 v = some (r, w)) : zMet l yX7_praiseAside cX7_praiseAside 2 (Option.some FieldType.int) 2 101 0 0 [zr G x0, .int x1] G v (some (.int r)) w := by
  refine zM_of (own := RX7) (by decide) rfl (Nat.le_of_ble_eq_true rfl) (fun x hl F hr hk hcs => ?_)
  subst hl
  refine z_ls [(0, zr G x0), (1, .int x1)] [0, 1] rfl ?_
  unfold fX7_praiseAside at h
  refine z_aload_n F dX7_praiseAside_0 rfl 0 rfl ?_
  refine zg_7_7 F t0 wF_X7_49 dX7_praiseAside_1 ?_
  refine z_aload_n F dX7_praiseAside_4 rfl 0 rfl ?_
  refine zg_7_0 F t0 wF_X7_9 dX7_praiseAside_5 ?_
  refine z_icmp_ne F 22 dX7_praiseAside_8 rfl (fun hc => ?_) (fun hc => ?_)
  · replace h := zif_f hc h
    refine z_iconst (y := (0 : Int32)) F dX7_praiseAside_22 rfl ?_
    cases h
    exact z_reti F hr hk dX7_praiseAside_23
  · replace h := zif_t hc h
    refine z_aload_n F dX7_praiseAside_11 rfl 0 rfl ?_
    refine zg_7_12 F t0 wF_X7_28 dX7_praiseAside_12 ?_
    refine z_iload_n F dX7_praiseAside_15 rfl 1 rfl ?_
    obtain ⟨r_2, v_1, hq16, h⟩ := zbind_ex h
    refine z_callSNi F [zr G (zrf x0 12), .int x1] [] (kX9_get x.2.1 G (zrf x0 12) (zt_f tc_7_12 t0) x1 v r_2 v_1 hq16) mI_X9_get wN_X7_60 ms_X9_get dX7_praiseAside_16 rfl ⟨Nat.le_of_ble_eq_true rfl, Nat.le_of_ble_eq_true rfl⟩ rfl (Nat.le_of_ble_eq_true rfl) ⟨Nat.zero_le _, Nat.zero_le _⟩ ?_
    refine z_goto F 23 dX7_praiseAside_19 rfl ?_
    cases h
    exact z_reti F hr hk dX7_praiseAside_23

theorem dX8_put_0 : decode cX8_put 0 = .ok (.bipush 24, 2) := by decide +kernel
theorem dX8_put_2 : decode cX8_put 2 = .ok (.istore_n 2, 1) := by decide +kernel
theorem dX8_put_3 : decode cX8_put 3 = .ok (.iload_n 2, 1) := by decide +kernel
theorem dX8_put_4 : decode cX8_put 4 = .ok (.ifCond .lt 51, 3) := by decide +kernel
theorem dX8_put_7 : decode cX8_put 7 = .ok (.aload_n 0, 1) := by decide +kernel
theorem dX8_put_8 : decode cX8_put 8 = .ok (.getfield 19, 3) := by decide +kernel
theorem dX8_put_11 : decode cX8_put 11 = .ok (.ifCond .lt 38, 3) := by decide +kernel
theorem dX8_put_14 : decode cX8_put 14 = .ok (.aload_n 0, 1) := by decide +kernel
theorem dX8_put_15 : decode cX8_put 15 = .ok (.getfield 19, 3) := by decide +kernel
theorem dX8_put_18 : decode cX8_put 18 = .ok (.aload_n 0, 1) := by decide +kernel
theorem dX8_put_19 : decode cX8_put 19 = .ok (.getfield 9, 3) := by decide +kernel
theorem dX8_put_22 : decode cX8_put 22 = .ok (.arraylength, 1) := by decide +kernel
theorem dX8_put_23 : decode cX8_put 23 = .ok (.if_icmp .ge 26, 3) := by decide +kernel
theorem dX8_put_26 : decode cX8_put 26 = .ok (.aload_n 0, 1) := by decide +kernel
theorem dX8_put_27 : decode cX8_put 27 = .ok (.getfield 9, 3) := by decide +kernel
theorem dX8_put_30 : decode cX8_put 30 = .ok (.aload_n 0, 1) := by decide +kernel
theorem dX8_put_31 : decode cX8_put 31 = .ok (.getfield 19, 3) := by decide +kernel
theorem dX8_put_34 : decode cX8_put 34 = .ok (.iload_n 1, 1) := by decide +kernel
theorem dX8_put_35 : decode cX8_put 35 = .ok (.iload_n 2, 1) := by decide +kernel
theorem dX8_put_36 : decode cX8_put 36 = .ok (.iushr, 1) := by decide +kernel
theorem dX8_put_37 : decode cX8_put 37 = .ok (.i2b, 1) := by decide +kernel
theorem dX8_put_38 : decode cX8_put 38 = .ok (.bastore, 1) := by decide +kernel
theorem dX8_put_39 : decode cX8_put 39 = .ok (.aload_n 0, 1) := by decide +kernel
theorem dX8_put_40 : decode cX8_put 40 = .ok (.dup, 1) := by decide +kernel
theorem dX8_put_41 : decode cX8_put 41 = .ok (.getfield 19, 3) := by decide +kernel
theorem dX8_put_44 : decode cX8_put 44 = .ok (.iconst 1, 1) := by decide +kernel
theorem dX8_put_45 : decode cX8_put 45 = .ok (.iadd, 1) := by decide +kernel
theorem dX8_put_46 : decode cX8_put 46 = .ok (.putfield 19, 3) := by decide +kernel
theorem dX8_put_49 : decode cX8_put 49 = .ok (.iinc 2 (-8), 3) := by decide +kernel
theorem dX8_put_52 : decode cX8_put 52 = .ok (.goto (-49), 3) := by decide +kernel
theorem dX8_put_55 : decode cX8_put 55 = .ok (.return_, 1) := by decide +kernel
def fX8_put_3  : Nat → Nat → Int32 → Int32 → zV → Option zV
  | 0 => fun _ _ _ _ => none
  | n + 1 => fun x0 x1 x2 v =>
    if x2 < (0 : Int32) then
      some v
    else
      if (v x0 1) < (0 : Int32) then
        (fX8_put_3 n) x0 x1 (x2 + (-8 : Int32)) v
      else
        if (Int32.ofNat (zlen (zrf x0 0))) ≤ (v x0 1) then
          (fX8_put_3 n) x0 x1 (x2 + (-8 : Int32)) v
        else
          zix (v x0 1) (zlen (zrf x0 0)) <|
          zlet (zup v (zrf x0 0) (v x0 1).toNatClampNeg (((((x1).toUInt32 >>> ((x2).toUInt32 &&& Int32.toUInt32 31)).toInt32).toInt8.toInt32).toInt8.toInt32)) fun v_1 =>
          zlet (zup v_1 x0 1 ((v_1 x0 1) + (1 : Int32))) fun v_2 =>
          (fX8_put_3 n) x0 x1 (x2 + (-8 : Int32)) v_2
set_option maxRecDepth 4000 in
theorem jX8_put_3 (x : zCx) (G : zG) (F : zF x G cX8_put 3 RX8 1 80) (hr : x.2.2.2.2.2.2.2.2.1.sig.returnType = (Option.none : Option FieldType)) (hk : x.2.2.2.2.2.2.2.2.1.locks = false) (w : zV)  : ∀ (n : Nat) (x0 : Nat) (t0 : zty G x0 1 8) (x1 : Int32) (x2 : Int32) (v : zV), fX8_put_3 n x0 x1 x2 v = some w → zJ x G 3 (zQ x G none w 0 0) 0 0 3 [(0, zr G x0), (1, .int x1), (2, .int x2)] [] v := by
  intro n
  induction n with
  | zero => intro x0 t0 x1 x2 v h; exact absurd h (by intro q; cases q)
  | succ n ih =>
    intro x0 t0 x1 x2 v h
    rw [fX8_put_3] at h
    dsimp only at h
    refine z_iload_n F dX8_put_3 rfl 2 rfl ?_
    refine z_if_lt F 55 dX8_put_4 rfl (fun hc => ?_) (fun hc => ?_)
    · replace h := zif_t hc h
      cases h
      exact z_retv F hr hk dX8_put_55
    · replace h := zif_f hc h
      refine z_aload_n F dX8_put_7 rfl 0 rfl ?_
      refine zg_8_1 F t0 wF_X8_19 dX8_put_8 ?_
      refine z_if_lt F 49 dX8_put_11 rfl (fun hc => ?_) (fun hc => ?_)
      · replace h := zif_t hc h
        refine z_iinc F [(2, .int (x2 + (-8 : Int32))), (0, zr G x0), (1, .int x1)] dX8_put_49 2 rfl rfl (Nat.le_of_ble_eq_true rfl) rfl ?_
        refine z_goto F 3 dX8_put_52 rfl ?_
        refine z_ls [(0, zr G x0), (1, .int x1), (2, .int (x2 + (-8 : Int32)))] [1, 2, 0] rfl ?_
        exact ih x0 t0 x1 (x2 + (-8 : Int32)) v h
      · replace h := zif_f hc h
        refine z_aload_n F dX8_put_14 rfl 0 rfl ?_
        refine zg_8_1 F t0 wF_X8_19 dX8_put_15 ?_
        refine z_aload_n F dX8_put_18 rfl 0 rfl ?_
        refine zg_8_0 F t0 wF_X8_9 dX8_put_19 ?_
        refine z_alen1 F (zt_f tc_8_0 t0) dX8_put_22 rfl ?_
        refine z_icmp_ge F 49 dX8_put_23 rfl (fun hc => ?_) (fun hc => ?_)
        · replace h := zif_t hc h
          refine z_iinc F [(2, .int (x2 + (-8 : Int32))), (0, zr G x0), (1, .int x1)] dX8_put_49 2 rfl rfl (Nat.le_of_ble_eq_true rfl) rfl ?_
          refine z_goto F 3 dX8_put_52 rfl ?_
          refine z_ls [(0, zr G x0), (1, .int x1), (2, .int (x2 + (-8 : Int32)))] [1, 2, 0] rfl ?_
          exact ih x0 t0 x1 (x2 + (-8 : Int32)) v h
        · replace h := zif_f hc h
          refine z_aload_n F dX8_put_26 rfl 0 rfl ?_
          refine zg_8_0 F t0 wF_X8_9 dX8_put_27 ?_
          refine z_aload_n F dX8_put_30 rfl 0 rfl ?_
          refine zg_8_1 F t0 wF_X8_19 dX8_put_31 ?_
          refine z_iload_n F dX8_put_34 rfl 1 rfl ?_
          refine z_iload_n F dX8_put_35 rfl 2 rfl ?_
          refine z_iushr F dX8_put_36 ?_
          refine z_i2b F dX8_put_37 ?_
          obtain ⟨hi38, h⟩ := zix_ex h
          refine z_bast F (zt_f tc_8_0 t0) dX8_put_38 hi38 ?_
          obtain ⟨v_1, ev_1, h⟩ := zlet_ex h
          refine z_heap ev_1 ?_
          refine z_aload_n F dX8_put_39 rfl 0 rfl ?_
          refine z_dup F dX8_put_40 rfl ?_
          refine zg_8_1 F t0 wF_X8_19 dX8_put_41 ?_
          refine z_iconst (y := (1 : Int32)) F dX8_put_44 rfl ?_
          refine z_iadd F dX8_put_45 ?_
          refine zp_8_1 F t0 wF_X8_19 dX8_put_46 ?_
          obtain ⟨v_2, ev_2, h⟩ := zlet_ex h
          refine z_heap ev_2 ?_
          refine z_iinc F [(2, .int (x2 + (-8 : Int32))), (0, zr G x0), (1, .int x1)] dX8_put_49 2 rfl rfl (Nat.le_of_ble_eq_true rfl) rfl ?_
          refine z_goto F 3 dX8_put_52 rfl ?_
          refine z_ls [(0, zr G x0), (1, .int x1), (2, .int (x2 + (-8 : Int32)))] [1, 2, 0] rfl ?_
          exact ih x0 t0 x1 (x2 + (-8 : Int32)) v_2 h

def fX8_put (x0 : Nat) (x1 : Int32) (v : zV) : Option zV :=
  fX8_put_3  zFU x0 x1 (24 : Int32) v
set_option maxRecDepth 4000 in
theorem kX8_put (l : Launch) (G : zG) (x0 : Nat) (t0 : zty G x0 1 8) (x1 : Int32) (v : zV) (w : zV) (h : fX8_put x0 x1 v = some w) : zMet l yX8_put cX8_put 3 (Option.none : Option FieldType) 1 80 0 0 [zr G x0, .int x1] G v none w := by
  refine zM_of (own := RX8) (by decide) rfl (Nat.le_of_ble_eq_true rfl) (fun x hl F hr hk hcs => ?_)
  subst hl
  refine z_ls [(0, zr G x0), (1, .int x1)] [0, 1] rfl ?_
  unfold fX8_put at h
  refine z_bipush (y := (24 : Int32)) F dX8_put_0 rfl ?_
  refine z_istore_n F [(2, .int (24 : Int32)), (0, zr G x0), (1, .int x1)] dX8_put_2 rfl (Nat.le_of_ble_eq_true rfl) rfl ?_
  refine z_ls [(0, zr G x0), (1, .int x1), (2, .int (24 : Int32))] [1, 2, 0] rfl ?_
  exact jX8_put_3 x G F hr hk w   zFU x0 t0 x1 (24 : Int32) v h

theorem dX8_open_0 : decode cX8_open 0 = .ok (.aload_n 0, 1) := by decide +kernel
theorem dX8_open_1 : decode cX8_open 1 = .ok (.iconst 0, 1) := by decide +kernel
theorem dX8_open_2 : decode cX8_open 2 = .ok (.putfield 19, 3) := by decide +kernel
theorem dX8_open_5 : decode cX8_open 5 = .ok (.aload_n 0, 1) := by decide +kernel
theorem dX8_open_6 : decode cX8_open 6 = .ok (.iload_n 1, 1) := by decide +kernel
theorem dX8_open_7 : decode cX8_open 7 = .ok (.putfield 22, 3) := by decide +kernel
theorem dX8_open_10 : decode cX8_open 10 = .ok (.aload_n 0, 1) := by decide +kernel
theorem dX8_open_11 : decode cX8_open 11 = .ok (.iconst 0, 1) := by decide +kernel
theorem dX8_open_12 : decode cX8_open 12 = .ok (.putfield 25, 3) := by decide +kernel
theorem dX8_open_15 : decode cX8_open 15 = .ok (.aload_n 0, 1) := by decide +kernel
theorem dX8_open_16 : decode cX8_open 16 = .ok (.iconst 0, 1) := by decide +kernel
theorem dX8_open_17 : decode cX8_open 17 = .ok (.putfield 28, 3) := by decide +kernel
theorem dX8_open_20 : decode cX8_open 20 = .ok (.aload_n 0, 1) := by decide +kernel
theorem dX8_open_21 : decode cX8_open 21 = .ok (.iconst (-1), 1) := by decide +kernel
theorem dX8_open_22 : decode cX8_open 22 = .ok (.putfield 15, 3) := by decide +kernel
theorem dX8_open_25 : decode cX8_open 25 = .ok (.return_, 1) := by decide +kernel
def fX8_open (x0 : Nat) (x1 : Int32) (v : zV) : Option zV :=
  zlet (zup v x0 1 (0 : Int32)) fun v_1 =>
  zlet (zup v_1 x0 4 x1) fun v_2 =>
  zlet (zup v_2 x0 5 (0 : Int32)) fun v_3 =>
  zlet (zup v_3 x0 2 (0 : Int32)) fun v_4 =>
  zlet (zup v_4 x0 3 (-1 : Int32)) fun v_5 =>
  some v_5
set_option maxRecDepth 4000 in
theorem kX8_open (l : Launch) (G : zG) (x0 : Nat) (t0 : zty G x0 1 8) (x1 : Int32) (v : zV) (w : zV) (h : fX8_open x0 x1 v = some w) : zMet l yX8_open cX8_open 2 (Option.none : Option FieldType) 1 80 0 0 [zr G x0, .int x1] G v none w := by
  refine zM_of (own := RX8) (by decide) rfl (Nat.le_of_ble_eq_true rfl) (fun x hl F hr hk hcs => ?_)
  subst hl
  refine z_ls [(0, zr G x0), (1, .int x1)] [0, 1] rfl ?_
  unfold fX8_open at h
  refine z_aload_n F dX8_open_0 rfl 0 rfl ?_
  refine z_iconst (y := (0 : Int32)) F dX8_open_1 rfl ?_
  refine zp_8_1 F t0 wF_X8_19 dX8_open_2 ?_
  obtain ⟨v_1, ev_1, h⟩ := zlet_ex h
  refine z_heap ev_1 ?_
  refine z_aload_n F dX8_open_5 rfl 0 rfl ?_
  refine z_iload_n F dX8_open_6 rfl 1 rfl ?_
  refine zp_8_4 F t0 wF_X8_22 dX8_open_7 ?_
  obtain ⟨v_2, ev_2, h⟩ := zlet_ex h
  refine z_heap ev_2 ?_
  refine z_aload_n F dX8_open_10 rfl 0 rfl ?_
  refine z_iconst (y := (0 : Int32)) F dX8_open_11 rfl ?_
  refine zp_8_5 F t0 wF_X8_25 dX8_open_12 ?_
  obtain ⟨v_3, ev_3, h⟩ := zlet_ex h
  refine z_heap ev_3 ?_
  refine z_aload_n F dX8_open_15 rfl 0 rfl ?_
  refine z_iconst (y := (0 : Int32)) F dX8_open_16 rfl ?_
  refine zp_8_2 F t0 wF_X8_28 dX8_open_17 ?_
  obtain ⟨v_4, ev_4, h⟩ := zlet_ex h
  refine z_heap ev_4 ?_
  refine z_aload_n F dX8_open_20 rfl 0 rfl ?_
  refine z_iconst (y := (-1 : Int32)) F dX8_open_21 rfl ?_
  refine zp_8_3 F t0 wF_X8_15 dX8_open_22 ?_
  obtain ⟨v_5, ev_5, h⟩ := zlet_ex h
  refine z_heap ev_5 ?_
  cases h
  exact z_retv F hr hk dX8_open_25

theorem dX8_fail_0 : decode cX8_fail 0 = .ok (.aload_n 0, 1) := by decide +kernel
theorem dX8_fail_1 : decode cX8_fail 1 = .ok (.getfield 28, 3) := by decide +kernel
theorem dX8_fail_4 : decode cX8_fail 4 = .ok (.ifCond .ne 13, 3) := by decide +kernel
theorem dX8_fail_7 : decode cX8_fail 7 = .ok (.aload_n 0, 1) := by decide +kernel
theorem dX8_fail_8 : decode cX8_fail 8 = .ok (.iload_n 1, 1) := by decide +kernel
theorem dX8_fail_9 : decode cX8_fail 9 = .ok (.putfield 28, 3) := by decide +kernel
theorem dX8_fail_12 : decode cX8_fail 12 = .ok (.aload_n 0, 1) := by decide +kernel
theorem dX8_fail_13 : decode cX8_fail 13 = .ok (.iload_n 2, 1) := by decide +kernel
theorem dX8_fail_14 : decode cX8_fail 14 = .ok (.putfield 15, 3) := by decide +kernel
theorem dX8_fail_17 : decode cX8_fail 17 = .ok (.return_, 1) := by decide +kernel
def fX8_fail (x0 : Nat) (x1 : Int32) (x2 : Int32) (v : zV) : Option zV :=
  if (v x0 2) = (0 : Int32) then
    zlet (zup v x0 2 x1) fun v_1 =>
    zlet (zup v_1 x0 3 x2) fun v_2 =>
    some v_2
  else
    some v
set_option maxRecDepth 4000 in
theorem kX8_fail (l : Launch) (G : zG) (x0 : Nat) (t0 : zty G x0 1 8) (x1 : Int32) (x2 : Int32) (v : zV) (w : zV) (h : fX8_fail x0 x1 x2 v = some w) : zMet l yX8_fail cX8_fail 3 (Option.none : Option FieldType) 1 80 0 0 [zr G x0, .int x1, .int x2] G v none w := by
  refine zM_of (own := RX8) (by decide) rfl (Nat.le_of_ble_eq_true rfl) (fun x hl F hr hk hcs => ?_)
  subst hl
  refine z_ls [(0, zr G x0), (1, .int x1), (2, .int x2)] [0, 1, 2] rfl ?_
  unfold fX8_fail at h
  refine z_aload_n F dX8_fail_0 rfl 0 rfl ?_
  refine zg_8_2 F t0 wF_X8_28 dX8_fail_1 ?_
  refine z_if_ne F 17 dX8_fail_4 rfl (fun hc => ?_) (fun hc => ?_)
  · replace h := zif_f hc h
    cases h
    exact z_retv F hr hk dX8_fail_17
  · replace h := zif_t hc h
    refine z_aload_n F dX8_fail_7 rfl 0 rfl ?_
    refine z_iload_n F dX8_fail_8 rfl 1 rfl ?_
    refine zp_8_2 F t0 wF_X8_28 dX8_fail_9 ?_
    obtain ⟨v_1, ev_1, h⟩ := zlet_ex h
    refine z_heap ev_1 ?_
    refine z_aload_n F dX8_fail_12 rfl 0 rfl ?_
    refine z_iload_n F dX8_fail_13 rfl 2 rfl ?_
    refine zp_8_3 F t0 wF_X8_15 dX8_fail_14 ?_
    obtain ⟨v_2, ev_2, h⟩ := zlet_ex h
    refine z_heap ev_2 ?_
    cases h
    exact z_retv F hr hk dX8_fail_17

theorem dX8_look_0 : decode cX8_look 0 = .ok (.aload_n 0, 1) := by decide +kernel
theorem dX8_look_1 : decode cX8_look 1 = .ok (.getfield 25, 3) := by decide +kernel
theorem dX8_look_4 : decode cX8_look 4 = .ok (.ifCond .lt 53, 3) := by decide +kernel
theorem dX8_look_7 : decode cX8_look 7 = .ok (.aload_n 0, 1) := by decide +kernel
theorem dX8_look_8 : decode cX8_look 8 = .ok (.getfield 25, 3) := by decide +kernel
theorem dX8_look_11 : decode cX8_look 11 = .ok (.aload_n 0, 1) := by decide +kernel
theorem dX8_look_12 : decode cX8_look 12 = .ok (.getfield 22, 3) := by decide +kernel
theorem dX8_look_15 : decode cX8_look 15 = .ok (.if_icmp .ge 42, 3) := by decide +kernel
theorem dX8_look_18 : decode cX8_look 18 = .ok (.aload_n 0, 1) := by decide +kernel
theorem dX8_look_19 : decode cX8_look 19 = .ok (.getfield 25, 3) := by decide +kernel
theorem dX8_look_22 : decode cX8_look 22 = .ok (.aload_n 0, 1) := by decide +kernel
theorem dX8_look_23 : decode cX8_look 23 = .ok (.getfield 9, 3) := by decide +kernel
theorem dX8_look_26 : decode cX8_look 26 = .ok (.arraylength, 1) := by decide +kernel
theorem dX8_look_27 : decode cX8_look 27 = .ok (.if_icmp .ge 30, 3) := by decide +kernel
theorem dX8_look_30 : decode cX8_look 30 = .ok (.aload_n 0, 1) := by decide +kernel
theorem dX8_look_31 : decode cX8_look 31 = .ok (.getfield 9, 3) := by decide +kernel
theorem dX8_look_34 : decode cX8_look 34 = .ok (.aload_n 0, 1) := by decide +kernel
theorem dX8_look_35 : decode cX8_look 35 = .ok (.getfield 25, 3) := by decide +kernel
theorem dX8_look_38 : decode cX8_look 38 = .ok (.baload, 1) := by decide +kernel
theorem dX8_look_39 : decode cX8_look 39 = .ok (.bipush 32, 2) := by decide +kernel
theorem dX8_look_41 : decode cX8_look 41 = .ok (.if_icmp .ne 16, 3) := by decide +kernel
theorem dX8_look_44 : decode cX8_look 44 = .ok (.aload_n 0, 1) := by decide +kernel
theorem dX8_look_45 : decode cX8_look 45 = .ok (.dup, 1) := by decide +kernel
theorem dX8_look_46 : decode cX8_look 46 = .ok (.getfield 25, 3) := by decide +kernel
theorem dX8_look_49 : decode cX8_look 49 = .ok (.iconst 1, 1) := by decide +kernel
theorem dX8_look_50 : decode cX8_look 50 = .ok (.iadd, 1) := by decide +kernel
theorem dX8_look_51 : decode cX8_look 51 = .ok (.putfield 25, 3) := by decide +kernel
theorem dX8_look_54 : decode cX8_look 54 = .ok (.goto (-54), 3) := by decide +kernel
theorem dX8_look_57 : decode cX8_look 57 = .ok (.aload_n 0, 1) := by decide +kernel
theorem dX8_look_58 : decode cX8_look 58 = .ok (.getfield 28, 3) := by decide +kernel
theorem dX8_look_61 : decode cX8_look 61 = .ok (.ifCond .ne 49, 3) := by decide +kernel
theorem dX8_look_64 : decode cX8_look 64 = .ok (.aload_n 0, 1) := by decide +kernel
theorem dX8_look_65 : decode cX8_look 65 = .ok (.getfield 25, 3) := by decide +kernel
theorem dX8_look_68 : decode cX8_look 68 = .ok (.ifCond .lt 42, 3) := by decide +kernel
theorem dX8_look_71 : decode cX8_look 71 = .ok (.aload_n 0, 1) := by decide +kernel
theorem dX8_look_72 : decode cX8_look 72 = .ok (.getfield 25, 3) := by decide +kernel
theorem dX8_look_75 : decode cX8_look 75 = .ok (.aload_n 0, 1) := by decide +kernel
theorem dX8_look_76 : decode cX8_look 76 = .ok (.getfield 22, 3) := by decide +kernel
theorem dX8_look_79 : decode cX8_look 79 = .ok (.if_icmp .ge 31, 3) := by decide +kernel
theorem dX8_look_82 : decode cX8_look 82 = .ok (.aload_n 0, 1) := by decide +kernel
theorem dX8_look_83 : decode cX8_look 83 = .ok (.getfield 25, 3) := by decide +kernel
theorem dX8_look_86 : decode cX8_look 86 = .ok (.aload_n 0, 1) := by decide +kernel
theorem dX8_look_87 : decode cX8_look 87 = .ok (.getfield 9, 3) := by decide +kernel
theorem dX8_look_90 : decode cX8_look 90 = .ok (.arraylength, 1) := by decide +kernel
theorem dX8_look_91 : decode cX8_look 91 = .ok (.if_icmp .ge 19, 3) := by decide +kernel
theorem dX8_look_94 : decode cX8_look 94 = .ok (.aload_n 0, 1) := by decide +kernel
theorem dX8_look_95 : decode cX8_look 95 = .ok (.getfield 9, 3) := by decide +kernel
theorem dX8_look_98 : decode cX8_look 98 = .ok (.aload_n 0, 1) := by decide +kernel
theorem dX8_look_99 : decode cX8_look 99 = .ok (.getfield 25, 3) := by decide +kernel
theorem dX8_look_102 : decode cX8_look 102 = .ok (.baload, 1) := by decide +kernel
theorem dX8_look_103 : decode cX8_look 103 = .ok (.sipush 255, 3) := by decide +kernel
theorem dX8_look_106 : decode cX8_look 106 = .ok (.iand, 1) := by decide +kernel
theorem dX8_look_107 : decode cX8_look 107 = .ok (.goto 4, 3) := by decide +kernel
theorem dX8_look_110 : decode cX8_look 110 = .ok (.iconst (-1), 1) := by decide +kernel
theorem dX8_look_111 : decode cX8_look 111 = .ok (.ireturn, 1) := by decide +kernel
def fX8_look_57  (x0 : Nat) (v : zV) : Option (Int32 × zV) :=
  if (v x0 2) = (0 : Int32) then
    if (v x0 5) < (0 : Int32) then
      some ((-1 : Int32), v)
    else
      if (v x0 4) ≤ (v x0 5) then
        some ((-1 : Int32), v)
      else
        if (Int32.ofNat (zlen (zrf x0 0))) ≤ (v x0 5) then
          some ((-1 : Int32), v)
        else
          zix (v x0 5) (zlen (zrf x0 0)) <|
          some ((v (zrf x0 0) (v x0 5).toNatClampNeg) &&& (255 : Int32), v)
  else
    some ((-1 : Int32), v)
set_option maxRecDepth 4000 in
theorem jX8_look_57 (x : zCx) (G : zG) (F : zF x G cX8_look 1 RX8 1 80) (hr : x.2.2.2.2.2.2.2.2.1.sig.returnType = (Option.some FieldType.int)) (hk : x.2.2.2.2.2.2.2.2.1.locks = false) (r : Int32) (w : zV)  : ∀ (x0 : Nat) (t0 : zty G x0 1 8) (v : zV), fX8_look_57 x0 v = some (r, w) → zJ x G 1 (zQ x G (some (.int r)) w 0 0) 0 0 57 [(0, zr G x0)] [] v := by
  intro x0 t0 v h
  unfold fX8_look_57 at h
  refine z_aload_n F dX8_look_57 rfl 0 rfl ?_
  refine zg_8_2 F t0 wF_X8_28 dX8_look_58 ?_
  refine z_if_ne F 110 dX8_look_61 rfl (fun hc => ?_) (fun hc => ?_)
  · replace h := zif_f hc h
    refine z_iconst (y := (-1 : Int32)) F dX8_look_110 rfl ?_
    cases h
    exact z_reti F hr hk dX8_look_111
  · replace h := zif_t hc h
    refine z_aload_n F dX8_look_64 rfl 0 rfl ?_
    refine zg_8_5 F t0 wF_X8_25 dX8_look_65 ?_
    refine z_if_lt F 110 dX8_look_68 rfl (fun hc => ?_) (fun hc => ?_)
    · replace h := zif_t hc h
      refine z_iconst (y := (-1 : Int32)) F dX8_look_110 rfl ?_
      cases h
      exact z_reti F hr hk dX8_look_111
    · replace h := zif_f hc h
      refine z_aload_n F dX8_look_71 rfl 0 rfl ?_
      refine zg_8_5 F t0 wF_X8_25 dX8_look_72 ?_
      refine z_aload_n F dX8_look_75 rfl 0 rfl ?_
      refine zg_8_4 F t0 wF_X8_22 dX8_look_76 ?_
      refine z_icmp_ge F 110 dX8_look_79 rfl (fun hc => ?_) (fun hc => ?_)
      · replace h := zif_t hc h
        refine z_iconst (y := (-1 : Int32)) F dX8_look_110 rfl ?_
        cases h
        exact z_reti F hr hk dX8_look_111
      · replace h := zif_f hc h
        refine z_aload_n F dX8_look_82 rfl 0 rfl ?_
        refine zg_8_5 F t0 wF_X8_25 dX8_look_83 ?_
        refine z_aload_n F dX8_look_86 rfl 0 rfl ?_
        refine zg_8_0 F t0 wF_X8_9 dX8_look_87 ?_
        refine z_alen1 F (zt_f tc_8_0 t0) dX8_look_90 rfl ?_
        refine z_icmp_ge F 110 dX8_look_91 rfl (fun hc => ?_) (fun hc => ?_)
        · replace h := zif_t hc h
          refine z_iconst (y := (-1 : Int32)) F dX8_look_110 rfl ?_
          cases h
          exact z_reti F hr hk dX8_look_111
        · replace h := zif_f hc h
          refine z_aload_n F dX8_look_94 rfl 0 rfl ?_
          refine zg_8_0 F t0 wF_X8_9 dX8_look_95 ?_
          refine z_aload_n F dX8_look_98 rfl 0 rfl ?_
          refine zg_8_5 F t0 wF_X8_25 dX8_look_99 ?_
          obtain ⟨hi102, h⟩ := zix_ex h
          refine z_bald F (zt_f tc_8_0 t0) dX8_look_102 hi102 ?_
          refine z_sipush (y := (255 : Int32)) F dX8_look_103 rfl ?_
          refine z_iand F dX8_look_106 ?_
          refine z_goto F 111 dX8_look_107 rfl ?_
          cases h
          exact z_reti F hr hk dX8_look_111

def fX8_look_0  : Nat → Nat → zV → Option (Int32 × zV)
  | 0 => fun _ _ => none
  | n + 1 => fun x0 v =>
    if (v x0 5) < (0 : Int32) then
      fX8_look_57  x0 v
    else
      if (v x0 4) ≤ (v x0 5) then
        fX8_look_57  x0 v
      else
        if (Int32.ofNat (zlen (zrf x0 0))) ≤ (v x0 5) then
          fX8_look_57  x0 v
        else
          zix (v x0 5) (zlen (zrf x0 0)) <|
          if (v (zrf x0 0) (v x0 5).toNatClampNeg) = (32 : Int32) then
            zlet (zup v x0 5 ((v x0 5) + (1 : Int32))) fun v_1 =>
            (fX8_look_0 n) x0 v_1
          else
            fX8_look_57  x0 v
set_option maxRecDepth 4000 in
theorem jX8_look_0 (x : zCx) (G : zG) (F : zF x G cX8_look 1 RX8 1 80) (hr : x.2.2.2.2.2.2.2.2.1.sig.returnType = (Option.some FieldType.int)) (hk : x.2.2.2.2.2.2.2.2.1.locks = false) (r : Int32) (w : zV)  : ∀ (n : Nat) (x0 : Nat) (t0 : zty G x0 1 8) (v : zV), fX8_look_0 n x0 v = some (r, w) → zJ x G 1 (zQ x G (some (.int r)) w 0 0) 0 0 0 [(0, zr G x0)] [] v := by
  intro n
  induction n with
  | zero => intro x0 t0 v h; exact absurd h (by intro q; cases q)
  | succ n ih =>
    intro x0 t0 v h
    rw [fX8_look_0] at h
    dsimp only at h
    refine z_aload_n F dX8_look_0 rfl 0 rfl ?_
    refine zg_8_5 F t0 wF_X8_25 dX8_look_1 ?_
    refine z_if_lt F 57 dX8_look_4 rfl (fun hc => ?_) (fun hc => ?_)
    · replace h := zif_t hc h
      refine z_ls [(0, zr G x0)] [0] rfl ?_
      exact jX8_look_57 x G F hr hk r w   x0 t0 v h
    · replace h := zif_f hc h
      refine z_aload_n F dX8_look_7 rfl 0 rfl ?_
      refine zg_8_5 F t0 wF_X8_25 dX8_look_8 ?_
      refine z_aload_n F dX8_look_11 rfl 0 rfl ?_
      refine zg_8_4 F t0 wF_X8_22 dX8_look_12 ?_
      refine z_icmp_ge F 57 dX8_look_15 rfl (fun hc => ?_) (fun hc => ?_)
      · replace h := zif_t hc h
        refine z_ls [(0, zr G x0)] [0] rfl ?_
        exact jX8_look_57 x G F hr hk r w   x0 t0 v h
      · replace h := zif_f hc h
        refine z_aload_n F dX8_look_18 rfl 0 rfl ?_
        refine zg_8_5 F t0 wF_X8_25 dX8_look_19 ?_
        refine z_aload_n F dX8_look_22 rfl 0 rfl ?_
        refine zg_8_0 F t0 wF_X8_9 dX8_look_23 ?_
        refine z_alen1 F (zt_f tc_8_0 t0) dX8_look_26 rfl ?_
        refine z_icmp_ge F 57 dX8_look_27 rfl (fun hc => ?_) (fun hc => ?_)
        · replace h := zif_t hc h
          refine z_ls [(0, zr G x0)] [0] rfl ?_
          exact jX8_look_57 x G F hr hk r w   x0 t0 v h
        · replace h := zif_f hc h
          refine z_aload_n F dX8_look_30 rfl 0 rfl ?_
          refine zg_8_0 F t0 wF_X8_9 dX8_look_31 ?_
          refine z_aload_n F dX8_look_34 rfl 0 rfl ?_
          refine zg_8_5 F t0 wF_X8_25 dX8_look_35 ?_
          obtain ⟨hi38, h⟩ := zix_ex h
          refine z_bald F (zt_f tc_8_0 t0) dX8_look_38 hi38 ?_
          refine z_bipush (y := (32 : Int32)) F dX8_look_39 rfl ?_
          refine z_icmp_ne F 57 dX8_look_41 rfl (fun hc => ?_) (fun hc => ?_)
          · replace h := zif_f hc h
            refine z_ls [(0, zr G x0)] [0] rfl ?_
            exact jX8_look_57 x G F hr hk r w   x0 t0 v h
          · replace h := zif_t hc h
            refine z_aload_n F dX8_look_44 rfl 0 rfl ?_
            refine z_dup F dX8_look_45 rfl ?_
            refine zg_8_5 F t0 wF_X8_25 dX8_look_46 ?_
            refine z_iconst (y := (1 : Int32)) F dX8_look_49 rfl ?_
            refine z_iadd F dX8_look_50 ?_
            refine zp_8_5 F t0 wF_X8_25 dX8_look_51 ?_
            obtain ⟨v_1, ev_1, h⟩ := zlet_ex h
            refine z_heap ev_1 ?_
            refine z_goto F 0 dX8_look_54 rfl ?_
            refine z_ls [(0, zr G x0)] [0] rfl ?_
            exact ih x0 t0 v_1 h

def fX8_look (x0 : Nat) (v : zV) : Option (Int32 × zV) :=
  fX8_look_0  zFU x0 v
set_option maxRecDepth 4000 in
theorem kX8_look (l : Launch) (G : zG) (x0 : Nat) (t0 : zty G x0 1 8) (v : zV) (r : Int32) (w : zV) (h : fX8_look x0 v = some (r, w)) : zMet l yX8_look cX8_look 1 (Option.some FieldType.int) 1 80 0 0 [zr G x0] G v (some (.int r)) w := by
  refine zM_of (own := RX8) (by decide) rfl (Nat.le_of_ble_eq_true rfl) (fun x hl F hr hk hcs => ?_)
  subst hl
  refine z_ls [(0, zr G x0)] [0] rfl ?_
  unfold fX8_look at h
  refine z_ls [(0, zr G x0)] [0] rfl ?_
  exact jX8_look_0 x G F hr hk r w   zFU x0 t0 v h

theorem dX8_lookAt_0 : decode cX8_lookAt 0 = .ok (.aload_n 0, 1) := by decide +kernel
theorem dX8_lookAt_1 : decode cX8_lookAt 1 = .ok (.invokevirtual 31, 3) := by decide +kernel
theorem dX8_lookAt_4 : decode cX8_lookAt 4 = .ok (.pop, 1) := by decide +kernel
theorem dX8_lookAt_5 : decode cX8_lookAt 5 = .ok (.aload_n 0, 1) := by decide +kernel
theorem dX8_lookAt_6 : decode cX8_lookAt 6 = .ok (.getfield 25, 3) := by decide +kernel
theorem dX8_lookAt_9 : decode cX8_lookAt 9 = .ok (.ireturn, 1) := by decide +kernel
def fX8_lookAt (x0 : Nat) (v : zV) : Option (Int32 × zV) :=
  zbind (fX8_look x0 v) fun r_2 v_1 =>
  some (v_1 x0 5, v_1)
set_option maxRecDepth 4000 in
theorem kX8_lookAt (l : Launch) (G : zG) (x0 : Nat) (t0 : zty G x0 1 8) (v : zV) (r : Int32) (w : zV) (h : fX8_lookAt x0 v = some (r, w)) : zMet l yX8_lookAt cX8_lookAt 1 (Option.some FieldType.int) 2 100 0 0 [zr G x0] G v (some (.int r)) w := by
  refine zM_of (own := RX8) (by decide) rfl (Nat.le_of_ble_eq_true rfl) (fun x hl F hr hk hcs => ?_)
  subst hl
  refine z_ls [(0, zr G x0)] [0] rfl ?_
  unfold fX8_lookAt at h
  refine z_aload_n F dX8_lookAt_0 rfl 0 rfl ?_
  obtain ⟨r_2, v_1, hq1, h⟩ := zbind_ex h
  refine z_callVi F [] [] (kX8_look x.2.1 G x0 t0 v r_2 v_1 hq1) mI_X8_look (c := 8) rfl t0 wM_X8_31 mi_X8_look sl_X8_look dX8_lookAt_1 rfl ⟨Nat.le_of_ble_eq_true rfl, Nat.le_of_ble_eq_true rfl⟩ rfl (Nat.le_of_ble_eq_true rfl) ⟨Nat.zero_le _, Nat.zero_le _⟩ ?_
  refine z_pop F dX8_lookAt_4 rfl ?_
  refine z_aload_n F dX8_lookAt_5 rfl 0 rfl ?_
  refine zg_8_5 F t0 wF_X8_25 dX8_lookAt_6 ?_
  cases h
  exact z_reti F hr hk dX8_lookAt_9

theorem dX8_isLetter_0 : decode cX8_isLetter 0 = .ok (.iload_n 0, 1) := by decide +kernel
theorem dX8_isLetter_1 : decode cX8_isLetter 1 = .ok (.bipush 97, 2) := by decide +kernel
theorem dX8_isLetter_3 : decode cX8_isLetter 3 = .ok (.if_icmp .lt 13, 3) := by decide +kernel
theorem dX8_isLetter_6 : decode cX8_isLetter 6 = .ok (.iload_n 0, 1) := by decide +kernel
theorem dX8_isLetter_7 : decode cX8_isLetter 7 = .ok (.bipush 122, 2) := by decide +kernel
theorem dX8_isLetter_9 : decode cX8_isLetter 9 = .ok (.if_icmp .gt 7, 3) := by decide +kernel
theorem dX8_isLetter_12 : decode cX8_isLetter 12 = .ok (.iconst 1, 1) := by decide +kernel
theorem dX8_isLetter_13 : decode cX8_isLetter 13 = .ok (.goto 4, 3) := by decide +kernel
theorem dX8_isLetter_16 : decode cX8_isLetter 16 = .ok (.iconst 0, 1) := by decide +kernel
theorem dX8_isLetter_17 : decode cX8_isLetter 17 = .ok (.ireturn, 1) := by decide +kernel
def fX8_isLetter (x0 : Int32) (v : zV) : Option (Int32 × zV) :=
  if x0 < (97 : Int32) then
    some ((0 : Int32), v)
  else
    if (122 : Int32) < x0 then
      some ((0 : Int32), v)
    else
      some ((1 : Int32), v)
set_option maxRecDepth 4000 in
theorem kX8_isLetter (l : Launch) (G : zG) (x0 : Int32) (v : zV) (r : Int32) (w : zV) (h : fX8_isLetter x0 v = some (r, w)) : zMet l yX8_isLetter cX8_isLetter 1 (Option.some FieldType.boolean) 1 80 0 0 [.int x0] G v (some (.int r)) w := by
  refine zM_of (own := RX8) (by decide) rfl (Nat.le_of_ble_eq_true rfl) (fun x hl F hr hk hcs => ?_)
  subst hl
  refine z_ls [(0, .int x0)] [0] rfl ?_
  unfold fX8_isLetter at h
  refine z_iload_n F dX8_isLetter_0 rfl 0 rfl ?_
  refine z_bipush (y := (97 : Int32)) F dX8_isLetter_1 rfl ?_
  refine z_icmp_lt F 16 dX8_isLetter_3 rfl (fun hc => ?_) (fun hc => ?_)
  · replace h := zif_t hc h
    refine z_iconst (y := (0 : Int32)) F dX8_isLetter_16 rfl ?_
    cases h
    exact z_retz F hr hk rfl dX8_isLetter_17
  · replace h := zif_f hc h
    refine z_iload_n F dX8_isLetter_6 rfl 0 rfl ?_
    refine z_bipush (y := (122 : Int32)) F dX8_isLetter_7 rfl ?_
    refine z_icmp_gt F 16 dX8_isLetter_9 rfl (fun hc => ?_) (fun hc => ?_)
    · replace h := zif_t hc h
      refine z_iconst (y := (0 : Int32)) F dX8_isLetter_16 rfl ?_
      cases h
      exact z_retz F hr hk rfl dX8_isLetter_17
    · replace h := zif_f hc h
      refine z_iconst (y := (1 : Int32)) F dX8_isLetter_12 rfl ?_
      refine z_goto F 17 dX8_isLetter_13 rfl ?_
      cases h
      exact z_retz F hr hk rfl dX8_isLetter_17

theorem dX8_looksAtLetter_0 : decode cX8_looksAtLetter 0 = .ok (.aload_n 0, 1) := by decide +kernel
theorem dX8_looksAtLetter_1 : decode cX8_looksAtLetter 1 = .ok (.invokevirtual 31, 3) := by decide +kernel
theorem dX8_looksAtLetter_4 : decode cX8_looksAtLetter 4 = .ok (.invokestatic 35, 3) := by decide +kernel
theorem dX8_looksAtLetter_7 : decode cX8_looksAtLetter 7 = .ok (.ireturn, 1) := by decide +kernel
def fX8_looksAtLetter (x0 : Nat) (v : zV) : Option (Int32 × zV) :=
  zbind (fX8_look x0 v) fun r_2 v_1 =>
  zbind (fX8_isLetter r_2 v_1) fun r_4 v_3 =>
  zbl r_4 <|
  some (r_4, v_3)
set_option maxRecDepth 4000 in
theorem kX8_looksAtLetter (l : Launch) (G : zG) (x0 : Nat) (t0 : zty G x0 1 8) (v : zV) (r : Int32) (w : zV) (h : fX8_looksAtLetter x0 v = some (r, w)) : zMet l yX8_looksAtLetter cX8_looksAtLetter 1 (Option.some FieldType.boolean) 2 100 0 0 [zr G x0] G v (some (.int r)) w := by
  refine zM_of (own := RX8) (by decide) rfl (Nat.le_of_ble_eq_true rfl) (fun x hl F hr hk hcs => ?_)
  subst hl
  refine z_ls [(0, zr G x0)] [0] rfl ?_
  unfold fX8_looksAtLetter at h
  refine z_aload_n F dX8_looksAtLetter_0 rfl 0 rfl ?_
  obtain ⟨r_2, v_1, hq1, h⟩ := zbind_ex h
  refine z_callVi F [] [] (kX8_look x.2.1 G x0 t0 v r_2 v_1 hq1) mI_X8_look (c := 8) rfl t0 wM_X8_31 mi_X8_look sl_X8_look dX8_looksAtLetter_1 rfl ⟨Nat.le_of_ble_eq_true rfl, Nat.le_of_ble_eq_true rfl⟩ rfl (Nat.le_of_ble_eq_true rfl) ⟨Nat.zero_le _, Nat.zero_le _⟩ ?_
  obtain ⟨r_4, v_3, hq4, h⟩ := zbind_ex h
  refine z_callSi F [.int r_2] [] (kX8_isLetter x.2.1 G r_2 v_1 r_4 v_3 hq4) mI_X8_isLetter wM_X8_35 ms_X8_isLetter dX8_looksAtLetter_4 rfl ⟨Nat.le_of_ble_eq_true rfl, Nat.le_of_ble_eq_true rfl⟩ rfl (Nat.le_of_ble_eq_true rfl) ⟨Nat.zero_le _, Nat.zero_le _⟩ ?_
  obtain ⟨hz7, h⟩ := zbl_ex h
  cases h
  exact z_retz F hr hk hz7 dX8_looksAtLetter_7

theorem dX8_isDigit_0 : decode cX8_isDigit 0 = .ok (.iload_n 0, 1) := by decide +kernel
theorem dX8_isDigit_1 : decode cX8_isDigit 1 = .ok (.bipush 48, 2) := by decide +kernel
theorem dX8_isDigit_3 : decode cX8_isDigit 3 = .ok (.if_icmp .lt 13, 3) := by decide +kernel
theorem dX8_isDigit_6 : decode cX8_isDigit 6 = .ok (.iload_n 0, 1) := by decide +kernel
theorem dX8_isDigit_7 : decode cX8_isDigit 7 = .ok (.bipush 57, 2) := by decide +kernel
theorem dX8_isDigit_9 : decode cX8_isDigit 9 = .ok (.if_icmp .gt 7, 3) := by decide +kernel
theorem dX8_isDigit_12 : decode cX8_isDigit 12 = .ok (.iconst 1, 1) := by decide +kernel
theorem dX8_isDigit_13 : decode cX8_isDigit 13 = .ok (.goto 4, 3) := by decide +kernel
theorem dX8_isDigit_16 : decode cX8_isDigit 16 = .ok (.iconst 0, 1) := by decide +kernel
theorem dX8_isDigit_17 : decode cX8_isDigit 17 = .ok (.ireturn, 1) := by decide +kernel
def fX8_isDigit (x0 : Int32) (v : zV) : Option (Int32 × zV) :=
  if x0 < (48 : Int32) then
    some ((0 : Int32), v)
  else
    if (57 : Int32) < x0 then
      some ((0 : Int32), v)
    else
      some ((1 : Int32), v)
set_option maxRecDepth 4000 in
theorem kX8_isDigit (l : Launch) (G : zG) (x0 : Int32) (v : zV) (r : Int32) (w : zV) (h : fX8_isDigit x0 v = some (r, w)) : zMet l yX8_isDigit cX8_isDigit 1 (Option.some FieldType.boolean) 1 80 0 0 [.int x0] G v (some (.int r)) w := by
  refine zM_of (own := RX8) (by decide) rfl (Nat.le_of_ble_eq_true rfl) (fun x hl F hr hk hcs => ?_)
  subst hl
  refine z_ls [(0, .int x0)] [0] rfl ?_
  unfold fX8_isDigit at h
  refine z_iload_n F dX8_isDigit_0 rfl 0 rfl ?_
  refine z_bipush (y := (48 : Int32)) F dX8_isDigit_1 rfl ?_
  refine z_icmp_lt F 16 dX8_isDigit_3 rfl (fun hc => ?_) (fun hc => ?_)
  · replace h := zif_t hc h
    refine z_iconst (y := (0 : Int32)) F dX8_isDigit_16 rfl ?_
    cases h
    exact z_retz F hr hk rfl dX8_isDigit_17
  · replace h := zif_f hc h
    refine z_iload_n F dX8_isDigit_6 rfl 0 rfl ?_
    refine z_bipush (y := (57 : Int32)) F dX8_isDigit_7 rfl ?_
    refine z_icmp_gt F 16 dX8_isDigit_9 rfl (fun hc => ?_) (fun hc => ?_)
    · replace h := zif_t hc h
      refine z_iconst (y := (0 : Int32)) F dX8_isDigit_16 rfl ?_
      cases h
      exact z_retz F hr hk rfl dX8_isDigit_17
    · replace h := zif_f hc h
      refine z_iconst (y := (1 : Int32)) F dX8_isDigit_12 rfl ?_
      refine z_goto F 17 dX8_isDigit_13 rfl ?_
      cases h
      exact z_retz F hr hk rfl dX8_isDigit_17

theorem dX8_looksAtDigit_0 : decode cX8_looksAtDigit 0 = .ok (.aload_n 0, 1) := by decide +kernel
theorem dX8_looksAtDigit_1 : decode cX8_looksAtDigit 1 = .ok (.invokevirtual 31, 3) := by decide +kernel
theorem dX8_looksAtDigit_4 : decode cX8_looksAtDigit 4 = .ok (.invokestatic 39, 3) := by decide +kernel
theorem dX8_looksAtDigit_7 : decode cX8_looksAtDigit 7 = .ok (.ireturn, 1) := by decide +kernel
def fX8_looksAtDigit (x0 : Nat) (v : zV) : Option (Int32 × zV) :=
  zbind (fX8_look x0 v) fun r_2 v_1 =>
  zbind (fX8_isDigit r_2 v_1) fun r_4 v_3 =>
  zbl r_4 <|
  some (r_4, v_3)
set_option maxRecDepth 4000 in
theorem kX8_looksAtDigit (l : Launch) (G : zG) (x0 : Nat) (t0 : zty G x0 1 8) (v : zV) (r : Int32) (w : zV) (h : fX8_looksAtDigit x0 v = some (r, w)) : zMet l yX8_looksAtDigit cX8_looksAtDigit 1 (Option.some FieldType.boolean) 2 100 0 0 [zr G x0] G v (some (.int r)) w := by
  refine zM_of (own := RX8) (by decide) rfl (Nat.le_of_ble_eq_true rfl) (fun x hl F hr hk hcs => ?_)
  subst hl
  refine z_ls [(0, zr G x0)] [0] rfl ?_
  unfold fX8_looksAtDigit at h
  refine z_aload_n F dX8_looksAtDigit_0 rfl 0 rfl ?_
  obtain ⟨r_2, v_1, hq1, h⟩ := zbind_ex h
  refine z_callVi F [] [] (kX8_look x.2.1 G x0 t0 v r_2 v_1 hq1) mI_X8_look (c := 8) rfl t0 wM_X8_31 mi_X8_look sl_X8_look dX8_looksAtDigit_1 rfl ⟨Nat.le_of_ble_eq_true rfl, Nat.le_of_ble_eq_true rfl⟩ rfl (Nat.le_of_ble_eq_true rfl) ⟨Nat.zero_le _, Nat.zero_le _⟩ ?_
  obtain ⟨r_4, v_3, hq4, h⟩ := zbind_ex h
  refine z_callSi F [.int r_2] [] (kX8_isDigit x.2.1 G r_2 v_1 r_4 v_3 hq4) mI_X8_isDigit wM_X8_39 ms_X8_isDigit dX8_looksAtDigit_4 rfl ⟨Nat.le_of_ble_eq_true rfl, Nat.le_of_ble_eq_true rfl⟩ rfl (Nat.le_of_ble_eq_true rfl) ⟨Nat.zero_le _, Nat.zero_le _⟩ ?_
  obtain ⟨hz7, h⟩ := zbl_ex h
  cases h
  exact z_retz F hr hk hz7 dX8_looksAtDigit_7

theorem dX8_misfit_0 : decode cX8_misfit 0 = .ok (.aload_n 0, 1) := by decide +kernel
theorem dX8_misfit_1 : decode cX8_misfit 1 = .ok (.iconst 1, 1) := by decide +kernel
theorem dX8_misfit_2 : decode cX8_misfit 2 = .ok (.aload_n 0, 1) := by decide +kernel
theorem dX8_misfit_3 : decode cX8_misfit 3 = .ok (.getfield 25, 3) := by decide +kernel
theorem dX8_misfit_6 : decode cX8_misfit 6 = .ok (.invokevirtual 42, 3) := by decide +kernel
theorem dX8_misfit_9 : decode cX8_misfit 9 = .ok (.return_, 1) := by decide +kernel
def fX8_misfit (x0 : Nat) (v : zV) : Option zV :=
  zbindv (fX8_fail x0 (1 : Int32) (v x0 5) v) fun v_1 =>
  some v_1
set_option maxRecDepth 4000 in
theorem kX8_misfit (l : Launch) (G : zG) (x0 : Nat) (t0 : zty G x0 1 8) (v : zV) (w : zV) (h : fX8_misfit x0 v = some w) : zMet l yX8_misfit cX8_misfit 1 (Option.none : Option FieldType) 2 102 0 0 [zr G x0] G v none w := by
  refine zM_of (own := RX8) (by decide) rfl (Nat.le_of_ble_eq_true rfl) (fun x hl F hr hk hcs => ?_)
  subst hl
  refine z_ls [(0, zr G x0)] [0] rfl ?_
  unfold fX8_misfit at h
  refine z_aload_n F dX8_misfit_0 rfl 0 rfl ?_
  refine z_iconst (y := (1 : Int32)) F dX8_misfit_1 rfl ?_
  refine z_aload_n F dX8_misfit_2 rfl 0 rfl ?_
  refine zg_8_5 F t0 wF_X8_25 dX8_misfit_3 ?_
  obtain ⟨v_1, hq6, h⟩ := zbindv_ex h
  refine z_callVv F [.int (1 : Int32), .int (v x0 5)] [] (kX8_fail x.2.1 G x0 t0 (1 : Int32) (v x0 5) v v_1 hq6) mI_X8_fail (c := 8) rfl t0 wM_X8_42 mi_X8_fail sl_X8_fail dX8_misfit_6 rfl ⟨Nat.le_of_ble_eq_true rfl, Nat.le_of_ble_eq_true rfl⟩ rfl (Nat.le_of_ble_eq_true rfl) ⟨Nat.zero_le _, Nat.zero_le _⟩ ?_
  cases h
  exact z_retv F hr hk dX8_misfit_9

theorem dX8_takesSign_0 : decode cX8_takesSign 0 = .ok (.aload_n 0, 1) := by decide +kernel
theorem dX8_takesSign_1 : decode cX8_takesSign 1 = .ok (.invokevirtual 31, 3) := by decide +kernel
theorem dX8_takesSign_4 : decode cX8_takesSign 4 = .ok (.iload_n 1, 1) := by decide +kernel
theorem dX8_takesSign_5 : decode cX8_takesSign 5 = .ok (.if_icmp .eq 5, 3) := by decide +kernel
theorem dX8_takesSign_8 : decode cX8_takesSign 8 = .ok (.iconst 0, 1) := by decide +kernel
theorem dX8_takesSign_9 : decode cX8_takesSign 9 = .ok (.ireturn, 1) := by decide +kernel
theorem dX8_takesSign_10 : decode cX8_takesSign 10 = .ok (.aload_n 0, 1) := by decide +kernel
theorem dX8_takesSign_11 : decode cX8_takesSign 11 = .ok (.dup, 1) := by decide +kernel
theorem dX8_takesSign_12 : decode cX8_takesSign 12 = .ok (.getfield 25, 3) := by decide +kernel
theorem dX8_takesSign_15 : decode cX8_takesSign 15 = .ok (.iconst 1, 1) := by decide +kernel
theorem dX8_takesSign_16 : decode cX8_takesSign 16 = .ok (.iadd, 1) := by decide +kernel
theorem dX8_takesSign_17 : decode cX8_takesSign 17 = .ok (.putfield 25, 3) := by decide +kernel
theorem dX8_takesSign_20 : decode cX8_takesSign 20 = .ok (.iconst 1, 1) := by decide +kernel
theorem dX8_takesSign_21 : decode cX8_takesSign 21 = .ok (.ireturn, 1) := by decide +kernel
def fX8_takesSign (x0 : Nat) (x1 : Int32) (v : zV) : Option (Int32 × zV) :=
  zbind (fX8_look x0 v) fun r_2 v_1 =>
  if r_2 = x1 then
    zlet (zup v_1 x0 5 ((v_1 x0 5) + (1 : Int32))) fun v_3 =>
    some ((1 : Int32), v_3)
  else
    some ((0 : Int32), v_1)
set_option maxRecDepth 4000 in
theorem kX8_takesSign (l : Launch) (G : zG) (x0 : Nat) (t0 : zty G x0 1 8) (x1 : Int32) (v : zV) (r : Int32) (w : zV) (h : fX8_takesSign x0 x1 v = some (r, w)) : zMet l yX8_takesSign cX8_takesSign 2 (Option.some FieldType.boolean) 2 100 0 0 [zr G x0, .int x1] G v (some (.int r)) w := by
  refine zM_of (own := RX8) (by decide) rfl (Nat.le_of_ble_eq_true rfl) (fun x hl F hr hk hcs => ?_)
  subst hl
  refine z_ls [(0, zr G x0), (1, .int x1)] [0, 1] rfl ?_
  unfold fX8_takesSign at h
  refine z_aload_n F dX8_takesSign_0 rfl 0 rfl ?_
  obtain ⟨r_2, v_1, hq1, h⟩ := zbind_ex h
  refine z_callVi F [] [] (kX8_look x.2.1 G x0 t0 v r_2 v_1 hq1) mI_X8_look (c := 8) rfl t0 wM_X8_31 mi_X8_look sl_X8_look dX8_takesSign_1 rfl ⟨Nat.le_of_ble_eq_true rfl, Nat.le_of_ble_eq_true rfl⟩ rfl (Nat.le_of_ble_eq_true rfl) ⟨Nat.zero_le _, Nat.zero_le _⟩ ?_
  refine z_iload_n F dX8_takesSign_4 rfl 1 rfl ?_
  refine z_icmp_eq F 10 dX8_takesSign_5 rfl (fun hc => ?_) (fun hc => ?_)
  · replace h := zif_t hc h
    refine z_aload_n F dX8_takesSign_10 rfl 0 rfl ?_
    refine z_dup F dX8_takesSign_11 rfl ?_
    refine zg_8_5 F t0 wF_X8_25 dX8_takesSign_12 ?_
    refine z_iconst (y := (1 : Int32)) F dX8_takesSign_15 rfl ?_
    refine z_iadd F dX8_takesSign_16 ?_
    refine zp_8_5 F t0 wF_X8_25 dX8_takesSign_17 ?_
    obtain ⟨v_3, ev_3, h⟩ := zlet_ex h
    refine z_heap ev_3 ?_
    refine z_iconst (y := (1 : Int32)) F dX8_takesSign_20 rfl ?_
    cases h
    exact z_retz F hr hk rfl dX8_takesSign_21
  · replace h := zif_f hc h
    refine z_iconst (y := (0 : Int32)) F dX8_takesSign_8 rfl ?_
    cases h
    exact z_retz F hr hk rfl dX8_takesSign_9

theorem dX8_sign_0 : decode cX8_sign 0 = .ok (.aload_n 0, 1) := by decide +kernel
theorem dX8_sign_1 : decode cX8_sign 1 = .ok (.invokevirtual 31, 3) := by decide +kernel
theorem dX8_sign_4 : decode cX8_sign 4 = .ok (.iload_n 1, 1) := by decide +kernel
theorem dX8_sign_5 : decode cX8_sign 5 = .ok (.if_icmp .ne 16, 3) := by decide +kernel
theorem dX8_sign_8 : decode cX8_sign 8 = .ok (.aload_n 0, 1) := by decide +kernel
theorem dX8_sign_9 : decode cX8_sign 9 = .ok (.dup, 1) := by decide +kernel
theorem dX8_sign_10 : decode cX8_sign 10 = .ok (.getfield 25, 3) := by decide +kernel
theorem dX8_sign_13 : decode cX8_sign 13 = .ok (.iconst 1, 1) := by decide +kernel
theorem dX8_sign_14 : decode cX8_sign 14 = .ok (.iadd, 1) := by decide +kernel
theorem dX8_sign_15 : decode cX8_sign 15 = .ok (.putfield 25, 3) := by decide +kernel
theorem dX8_sign_18 : decode cX8_sign 18 = .ok (.goto 12, 3) := by decide +kernel
theorem dX8_sign_21 : decode cX8_sign 21 = .ok (.aload_n 0, 1) := by decide +kernel
theorem dX8_sign_22 : decode cX8_sign 22 = .ok (.iconst 1, 1) := by decide +kernel
theorem dX8_sign_23 : decode cX8_sign 23 = .ok (.aload_n 0, 1) := by decide +kernel
theorem dX8_sign_24 : decode cX8_sign 24 = .ok (.getfield 25, 3) := by decide +kernel
theorem dX8_sign_27 : decode cX8_sign 27 = .ok (.invokevirtual 42, 3) := by decide +kernel
theorem dX8_sign_30 : decode cX8_sign 30 = .ok (.return_, 1) := by decide +kernel
def fX8_sign (x0 : Nat) (x1 : Int32) (v : zV) : Option zV :=
  zbind (fX8_look x0 v) fun r_2 v_1 =>
  if r_2 = x1 then
    zlet (zup v_1 x0 5 ((v_1 x0 5) + (1 : Int32))) fun v_4 =>
    some v_4
  else
    zbindv (fX8_fail x0 (1 : Int32) (v_1 x0 5) v_1) fun v_3 =>
    some v_3
set_option maxRecDepth 4000 in
theorem kX8_sign (l : Launch) (G : zG) (x0 : Nat) (t0 : zty G x0 1 8) (x1 : Int32) (v : zV) (w : zV) (h : fX8_sign x0 x1 v = some w) : zMet l yX8_sign cX8_sign 2 (Option.none : Option FieldType) 2 102 0 0 [zr G x0, .int x1] G v none w := by
  refine zM_of (own := RX8) (by decide) rfl (Nat.le_of_ble_eq_true rfl) (fun x hl F hr hk hcs => ?_)
  subst hl
  refine z_ls [(0, zr G x0), (1, .int x1)] [0, 1] rfl ?_
  unfold fX8_sign at h
  refine z_aload_n F dX8_sign_0 rfl 0 rfl ?_
  obtain ⟨r_2, v_1, hq1, h⟩ := zbind_ex h
  refine z_callVi F [] [] (kX8_look x.2.1 G x0 t0 v r_2 v_1 hq1) mI_X8_look (c := 8) rfl t0 wM_X8_31 mi_X8_look sl_X8_look dX8_sign_1 rfl ⟨Nat.le_of_ble_eq_true rfl, Nat.le_of_ble_eq_true rfl⟩ rfl (Nat.le_of_ble_eq_true rfl) ⟨Nat.zero_le _, Nat.zero_le _⟩ ?_
  refine z_iload_n F dX8_sign_4 rfl 1 rfl ?_
  refine z_icmp_ne F 21 dX8_sign_5 rfl (fun hc => ?_) (fun hc => ?_)
  · replace h := zif_f hc h
    refine z_aload_n F dX8_sign_21 rfl 0 rfl ?_
    refine z_iconst (y := (1 : Int32)) F dX8_sign_22 rfl ?_
    refine z_aload_n F dX8_sign_23 rfl 0 rfl ?_
    refine zg_8_5 F t0 wF_X8_25 dX8_sign_24 ?_
    obtain ⟨v_3, hq27, h⟩ := zbindv_ex h
    refine z_callVv F [.int (1 : Int32), .int (v_1 x0 5)] [] (kX8_fail x.2.1 G x0 t0 (1 : Int32) (v_1 x0 5) v_1 v_3 hq27) mI_X8_fail (c := 8) rfl t0 wM_X8_42 mi_X8_fail sl_X8_fail dX8_sign_27 rfl ⟨Nat.le_of_ble_eq_true rfl, Nat.le_of_ble_eq_true rfl⟩ rfl (Nat.le_of_ble_eq_true rfl) ⟨Nat.zero_le _, Nat.zero_le _⟩ ?_
    cases h
    exact z_retv F hr hk dX8_sign_30
  · replace h := zif_t hc h
    refine z_aload_n F dX8_sign_8 rfl 0 rfl ?_
    refine z_dup F dX8_sign_9 rfl ?_
    refine zg_8_5 F t0 wF_X8_25 dX8_sign_10 ?_
    refine z_iconst (y := (1 : Int32)) F dX8_sign_13 rfl ?_
    refine z_iadd F dX8_sign_14 ?_
    refine zp_8_5 F t0 wF_X8_25 dX8_sign_15 ?_
    obtain ⟨v_4, ev_4, h⟩ := zlet_ex h
    refine z_heap ev_4 ?_
    refine z_goto F 30 dX8_sign_18 rfl ?_
    cases h
    exact z_retv F hr hk dX8_sign_30

theorem dX8_byteAt_0 : decode cX8_byteAt 0 = .ok (.aload_n 0, 1) := by decide +kernel
theorem dX8_byteAt_1 : decode cX8_byteAt 1 = .ok (.getfield 28, 3) := by decide +kernel
theorem dX8_byteAt_4 : decode cX8_byteAt 4 = .ok (.ifCond .ne 37, 3) := by decide +kernel
theorem dX8_byteAt_7 : decode cX8_byteAt 7 = .ok (.iload_n 1, 1) := by decide +kernel
theorem dX8_byteAt_8 : decode cX8_byteAt 8 = .ok (.ifCond .lt 33, 3) := by decide +kernel
theorem dX8_byteAt_11 : decode cX8_byteAt 11 = .ok (.iload_n 1, 1) := by decide +kernel
theorem dX8_byteAt_12 : decode cX8_byteAt 12 = .ok (.aload_n 0, 1) := by decide +kernel
theorem dX8_byteAt_13 : decode cX8_byteAt 13 = .ok (.getfield 22, 3) := by decide +kernel
theorem dX8_byteAt_16 : decode cX8_byteAt 16 = .ok (.if_icmp .ge 25, 3) := by decide +kernel
theorem dX8_byteAt_19 : decode cX8_byteAt 19 = .ok (.iload_n 1, 1) := by decide +kernel
theorem dX8_byteAt_20 : decode cX8_byteAt 20 = .ok (.aload_n 0, 1) := by decide +kernel
theorem dX8_byteAt_21 : decode cX8_byteAt 21 = .ok (.getfield 9, 3) := by decide +kernel
theorem dX8_byteAt_24 : decode cX8_byteAt 24 = .ok (.arraylength, 1) := by decide +kernel
theorem dX8_byteAt_25 : decode cX8_byteAt 25 = .ok (.if_icmp .ge 16, 3) := by decide +kernel
theorem dX8_byteAt_28 : decode cX8_byteAt 28 = .ok (.aload_n 0, 1) := by decide +kernel
theorem dX8_byteAt_29 : decode cX8_byteAt 29 = .ok (.getfield 9, 3) := by decide +kernel
theorem dX8_byteAt_32 : decode cX8_byteAt 32 = .ok (.iload_n 1, 1) := by decide +kernel
theorem dX8_byteAt_33 : decode cX8_byteAt 33 = .ok (.baload, 1) := by decide +kernel
theorem dX8_byteAt_34 : decode cX8_byteAt 34 = .ok (.sipush 255, 3) := by decide +kernel
theorem dX8_byteAt_37 : decode cX8_byteAt 37 = .ok (.iand, 1) := by decide +kernel
theorem dX8_byteAt_38 : decode cX8_byteAt 38 = .ok (.goto 4, 3) := by decide +kernel
theorem dX8_byteAt_41 : decode cX8_byteAt 41 = .ok (.iconst (-1), 1) := by decide +kernel
theorem dX8_byteAt_42 : decode cX8_byteAt 42 = .ok (.ireturn, 1) := by decide +kernel
def fX8_byteAt (x0 : Nat) (x1 : Int32) (v : zV) : Option (Int32 × zV) :=
  if (v x0 2) = (0 : Int32) then
    if x1 < (0 : Int32) then
      some ((-1 : Int32), v)
    else
      if (v x0 4) ≤ x1 then
        some ((-1 : Int32), v)
      else
        if (Int32.ofNat (zlen (zrf x0 0))) ≤ x1 then
          some ((-1 : Int32), v)
        else
          zix x1 (zlen (zrf x0 0)) <|
          some ((v (zrf x0 0) (x1).toNatClampNeg) &&& (255 : Int32), v)
  else
    some ((-1 : Int32), v)
set_option maxRecDepth 4000 in
theorem kX8_byteAt (l : Launch) (G : zG) (x0 : Nat) (t0 : zty G x0 1 8) (x1 : Int32) (v : zV) (r : Int32) (w : zV) (h : fX8_byteAt x0 x1 v = some (r, w)) : zMet l yX8_byteAt cX8_byteAt 2 (Option.some FieldType.int) 1 80 0 0 [zr G x0, .int x1] G v (some (.int r)) w := by
  refine zM_of (own := RX8) (by decide) rfl (Nat.le_of_ble_eq_true rfl) (fun x hl F hr hk hcs => ?_)
  subst hl
  refine z_ls [(0, zr G x0), (1, .int x1)] [0, 1] rfl ?_
  unfold fX8_byteAt at h
  refine z_aload_n F dX8_byteAt_0 rfl 0 rfl ?_
  refine zg_8_2 F t0 wF_X8_28 dX8_byteAt_1 ?_
  refine z_if_ne F 41 dX8_byteAt_4 rfl (fun hc => ?_) (fun hc => ?_)
  · replace h := zif_f hc h
    refine z_iconst (y := (-1 : Int32)) F dX8_byteAt_41 rfl ?_
    cases h
    exact z_reti F hr hk dX8_byteAt_42
  · replace h := zif_t hc h
    refine z_iload_n F dX8_byteAt_7 rfl 1 rfl ?_
    refine z_if_lt F 41 dX8_byteAt_8 rfl (fun hc => ?_) (fun hc => ?_)
    · replace h := zif_t hc h
      refine z_iconst (y := (-1 : Int32)) F dX8_byteAt_41 rfl ?_
      cases h
      exact z_reti F hr hk dX8_byteAt_42
    · replace h := zif_f hc h
      refine z_iload_n F dX8_byteAt_11 rfl 1 rfl ?_
      refine z_aload_n F dX8_byteAt_12 rfl 0 rfl ?_
      refine zg_8_4 F t0 wF_X8_22 dX8_byteAt_13 ?_
      refine z_icmp_ge F 41 dX8_byteAt_16 rfl (fun hc => ?_) (fun hc => ?_)
      · replace h := zif_t hc h
        refine z_iconst (y := (-1 : Int32)) F dX8_byteAt_41 rfl ?_
        cases h
        exact z_reti F hr hk dX8_byteAt_42
      · replace h := zif_f hc h
        refine z_iload_n F dX8_byteAt_19 rfl 1 rfl ?_
        refine z_aload_n F dX8_byteAt_20 rfl 0 rfl ?_
        refine zg_8_0 F t0 wF_X8_9 dX8_byteAt_21 ?_
        refine z_alen1 F (zt_f tc_8_0 t0) dX8_byteAt_24 rfl ?_
        refine z_icmp_ge F 41 dX8_byteAt_25 rfl (fun hc => ?_) (fun hc => ?_)
        · replace h := zif_t hc h
          refine z_iconst (y := (-1 : Int32)) F dX8_byteAt_41 rfl ?_
          cases h
          exact z_reti F hr hk dX8_byteAt_42
        · replace h := zif_f hc h
          refine z_aload_n F dX8_byteAt_28 rfl 0 rfl ?_
          refine zg_8_0 F t0 wF_X8_9 dX8_byteAt_29 ?_
          refine z_iload_n F dX8_byteAt_32 rfl 1 rfl ?_
          obtain ⟨hi33, h⟩ := zix_ex h
          refine z_bald F (zt_f tc_8_0 t0) dX8_byteAt_33 hi33 ?_
          refine z_sipush (y := (255 : Int32)) F dX8_byteAt_34 rfl ?_
          refine z_iand F dX8_byteAt_37 ?_
          refine z_goto F 42 dX8_byteAt_38 rfl ?_
          cases h
          exact z_reti F hr hk dX8_byteAt_42

theorem dX8_takesWord_0 : decode cX8_takesWord 0 = .ok (.aload_n 0, 1) := by decide +kernel
theorem dX8_takesWord_1 : decode cX8_takesWord 1 = .ok (.invokevirtual 31, 3) := by decide +kernel
theorem dX8_takesWord_4 : decode cX8_takesWord 4 = .ok (.pop, 1) := by decide +kernel
theorem dX8_takesWord_5 : decode cX8_takesWord 5 = .ok (.iconst 0, 1) := by decide +kernel
theorem dX8_takesWord_6 : decode cX8_takesWord 6 = .ok (.istore_n 2, 1) := by decide +kernel
theorem dX8_takesWord_7 : decode cX8_takesWord 7 = .ok (.iload_n 2, 1) := by decide +kernel
theorem dX8_takesWord_8 : decode cX8_takesWord 8 = .ok (.sipush 600, 3) := by decide +kernel
theorem dX8_takesWord_11 : decode cX8_takesWord 11 = .ok (.if_icmp .ge 25, 3) := by decide +kernel
theorem dX8_takesWord_14 : decode cX8_takesWord 14 = .ok (.aload_n 0, 1) := by decide +kernel
theorem dX8_takesWord_15 : decode cX8_takesWord 15 = .ok (.aload_n 0, 1) := by decide +kernel
theorem dX8_takesWord_16 : decode cX8_takesWord 16 = .ok (.getfield 25, 3) := by decide +kernel
theorem dX8_takesWord_19 : decode cX8_takesWord 19 = .ok (.iload_n 2, 1) := by decide +kernel
theorem dX8_takesWord_20 : decode cX8_takesWord 20 = .ok (.iadd, 1) := by decide +kernel
theorem dX8_takesWord_21 : decode cX8_takesWord 21 = .ok (.invokevirtual 46, 3) := by decide +kernel
theorem dX8_takesWord_24 : decode cX8_takesWord 24 = .ok (.invokestatic 35, 3) := by decide +kernel
theorem dX8_takesWord_27 : decode cX8_takesWord 27 = .ok (.ifCond .eq 9, 3) := by decide +kernel
theorem dX8_takesWord_30 : decode cX8_takesWord 30 = .ok (.iinc 2 1, 3) := by decide +kernel
theorem dX8_takesWord_33 : decode cX8_takesWord 33 = .ok (.goto (-26), 3) := by decide +kernel
theorem dX8_takesWord_36 : decode cX8_takesWord 36 = .ok (.iload_n 2, 1) := by decide +kernel
theorem dX8_takesWord_37 : decode cX8_takesWord 37 = .ok (.aload_n 1, 1) := by decide +kernel
theorem dX8_takesWord_38 : decode cX8_takesWord 38 = .ok (.invokevirtual 50, 3) := by decide +kernel
theorem dX8_takesWord_41 : decode cX8_takesWord 41 = .ok (.if_icmp .eq 5, 3) := by decide +kernel
theorem dX8_takesWord_44 : decode cX8_takesWord 44 = .ok (.iconst 0, 1) := by decide +kernel
theorem dX8_takesWord_45 : decode cX8_takesWord 45 = .ok (.ireturn, 1) := by decide +kernel
theorem dX8_takesWord_46 : decode cX8_takesWord 46 = .ok (.iconst 0, 1) := by decide +kernel
theorem dX8_takesWord_47 : decode cX8_takesWord 47 = .ok (.istore_n 3, 1) := by decide +kernel
theorem dX8_takesWord_48 : decode cX8_takesWord 48 = .ok (.iload_n 3, 1) := by decide +kernel
theorem dX8_takesWord_49 : decode cX8_takesWord 49 = .ok (.aload_n 1, 1) := by decide +kernel
theorem dX8_takesWord_50 : decode cX8_takesWord 50 = .ok (.invokevirtual 50, 3) := by decide +kernel
theorem dX8_takesWord_53 : decode cX8_takesWord 53 = .ok (.if_icmp .ge 29, 3) := by decide +kernel
theorem dX8_takesWord_56 : decode cX8_takesWord 56 = .ok (.aload_n 0, 1) := by decide +kernel
theorem dX8_takesWord_57 : decode cX8_takesWord 57 = .ok (.aload_n 0, 1) := by decide +kernel
theorem dX8_takesWord_58 : decode cX8_takesWord 58 = .ok (.getfield 25, 3) := by decide +kernel
theorem dX8_takesWord_61 : decode cX8_takesWord 61 = .ok (.iload_n 3, 1) := by decide +kernel
theorem dX8_takesWord_62 : decode cX8_takesWord 62 = .ok (.iadd, 1) := by decide +kernel
theorem dX8_takesWord_63 : decode cX8_takesWord 63 = .ok (.invokevirtual 46, 3) := by decide +kernel
theorem dX8_takesWord_66 : decode cX8_takesWord 66 = .ok (.aload_n 1, 1) := by decide +kernel
theorem dX8_takesWord_67 : decode cX8_takesWord 67 = .ok (.iload_n 3, 1) := by decide +kernel
theorem dX8_takesWord_68 : decode cX8_takesWord 68 = .ok (.invokevirtual 55, 3) := by decide +kernel
theorem dX8_takesWord_71 : decode cX8_takesWord 71 = .ok (.if_icmp .eq 5, 3) := by decide +kernel
theorem dX8_takesWord_74 : decode cX8_takesWord 74 = .ok (.iconst 0, 1) := by decide +kernel
theorem dX8_takesWord_75 : decode cX8_takesWord 75 = .ok (.ireturn, 1) := by decide +kernel
theorem dX8_takesWord_76 : decode cX8_takesWord 76 = .ok (.iinc 3 1, 3) := by decide +kernel
theorem dX8_takesWord_79 : decode cX8_takesWord 79 = .ok (.goto (-31), 3) := by decide +kernel
theorem dX8_takesWord_82 : decode cX8_takesWord 82 = .ok (.aload_n 0, 1) := by decide +kernel
theorem dX8_takesWord_83 : decode cX8_takesWord 83 = .ok (.dup, 1) := by decide +kernel
theorem dX8_takesWord_84 : decode cX8_takesWord 84 = .ok (.getfield 25, 3) := by decide +kernel
theorem dX8_takesWord_87 : decode cX8_takesWord 87 = .ok (.iload_n 2, 1) := by decide +kernel
theorem dX8_takesWord_88 : decode cX8_takesWord 88 = .ok (.iadd, 1) := by decide +kernel
theorem dX8_takesWord_89 : decode cX8_takesWord 89 = .ok (.putfield 25, 3) := by decide +kernel
theorem dX8_takesWord_92 : decode cX8_takesWord 92 = .ok (.iconst 1, 1) := by decide +kernel
theorem dX8_takesWord_93 : decode cX8_takesWord 93 = .ok (.ireturn, 1) := by decide +kernel
def fX8_takesWord_48  : Nat → Nat → Nat → Int32 → Int32 → zV → Option (Int32 × zV)
  | 0 => fun _ _ _ _ _ => none
  | n + 1 => fun x0 x1 x2 x3 v =>
    if (zslen x1) ≤ x3 then
      zlet (zup v x0 5 ((v x0 5) + x2)) fun v_1 =>
      some ((1 : Int32), v_1)
    else
      zbind (fX8_byteAt x0 ((v x0 5) + x3) v) fun r_3 v_2 =>
      zix x3 (zsl x1) <|
      if r_3 = (zschar x1 (x3).toNatClampNeg) then
        (fX8_takesWord_48 n) x0 x1 x2 (x3 + (1 : Int32)) v_2
      else
        some ((0 : Int32), v_2)
set_option maxRecDepth 4000 in
theorem jX8_takesWord_48 (x : zCx) (G : zG) (F : zF x G cX8_takesWord 4 RX8 5 201) (hr : x.2.2.2.2.2.2.2.2.1.sig.returnType = (Option.some FieldType.boolean)) (hk : x.2.2.2.2.2.2.2.2.1.locks = false) (r : Int32) (w : zV)  : ∀ (n : Nat) (x0 : Nat) (t0 : zty G x0 1 8) (x1 : Nat) (t1 : x1 < 16) (x2 : Int32) (x3 : Int32) (v : zV), fX8_takesWord_48 n x0 x1 x2 x3 v = some (r, w) → zJ x G 4 (zQ x G (some (.int r)) w 0 0) 0 0 48 [(0, zr G x0), (1, zs G x1), (2, .int x2), (3, .int x3)] [] v := by
  intro n
  induction n with
  | zero => intro x0 t0 x1 t1 x2 x3 v h; exact absurd h (by intro q; cases q)
  | succ n ih =>
    intro x0 t0 x1 t1 x2 x3 v h
    rw [fX8_takesWord_48] at h
    dsimp only at h
    refine z_iload_n F dX8_takesWord_48 rfl 3 rfl ?_
    refine z_aload_n F dX8_takesWord_49 rfl 1 rfl ?_
    refine z_slen F t1 wM_X8_50 [.int x3] dX8_takesWord_50 (Nat.le_of_ble_eq_true rfl) (Nat.le_of_ble_eq_true rfl) (Nat.le_of_ble_eq_true rfl) ⟨Nat.zero_le _, Nat.zero_le _⟩ ?_
    refine z_icmp_ge F 82 dX8_takesWord_53 rfl (fun hc => ?_) (fun hc => ?_)
    · replace h := zif_t hc h
      refine z_aload_n F dX8_takesWord_82 rfl 0 rfl ?_
      refine z_dup F dX8_takesWord_83 rfl ?_
      refine zg_8_5 F t0 wF_X8_25 dX8_takesWord_84 ?_
      refine z_iload_n F dX8_takesWord_87 rfl 2 rfl ?_
      refine z_iadd F dX8_takesWord_88 ?_
      refine zp_8_5 F t0 wF_X8_25 dX8_takesWord_89 ?_
      obtain ⟨v_1, ev_1, h⟩ := zlet_ex h
      refine z_heap ev_1 ?_
      refine z_iconst (y := (1 : Int32)) F dX8_takesWord_92 rfl ?_
      cases h
      exact z_retz F hr hk rfl dX8_takesWord_93
    · replace h := zif_f hc h
      refine z_aload_n F dX8_takesWord_56 rfl 0 rfl ?_
      refine z_aload_n F dX8_takesWord_57 rfl 0 rfl ?_
      refine zg_8_5 F t0 wF_X8_25 dX8_takesWord_58 ?_
      refine z_iload_n F dX8_takesWord_61 rfl 3 rfl ?_
      refine z_iadd F dX8_takesWord_62 ?_
      obtain ⟨r_3, v_2, hq63, h⟩ := zbind_ex h
      refine z_callVi F [.int ((v x0 5) + x3)] [] (kX8_byteAt x.2.1 G x0 t0 ((v x0 5) + x3) v r_3 v_2 hq63) mI_X8_byteAt (c := 8) rfl t0 wM_X8_46 mi_X8_byteAt sl_X8_byteAt dX8_takesWord_63 rfl ⟨Nat.le_of_ble_eq_true rfl, Nat.le_of_ble_eq_true rfl⟩ rfl (Nat.le_of_ble_eq_true rfl) ⟨Nat.zero_le _, Nat.zero_le _⟩ ?_
      refine z_aload_n F dX8_takesWord_66 rfl 1 rfl ?_
      refine z_iload_n F dX8_takesWord_67 rfl 3 rfl ?_
      obtain ⟨hi68, h⟩ := zix_ex h
      refine z_schar F t1 hi68 wM_X8_55 [.int r_3] dX8_takesWord_68 (Nat.le_of_ble_eq_true rfl) (Nat.le_of_ble_eq_true rfl) (Nat.le_of_ble_eq_true rfl) ⟨Nat.zero_le _, Nat.zero_le _⟩ ?_
      refine z_icmp_eq F 76 dX8_takesWord_71 rfl (fun hc => ?_) (fun hc => ?_)
      · replace h := zif_t hc h
        refine z_iinc F [(3, .int (x3 + (1 : Int32))), (0, zr G x0), (1, zs G x1), (2, .int x2)] dX8_takesWord_76 3 rfl rfl (Nat.le_of_ble_eq_true rfl) rfl ?_
        refine z_goto F 48 dX8_takesWord_79 rfl ?_
        refine z_ls [(0, zr G x0), (1, zs G x1), (2, .int x2), (3, .int (x3 + (1 : Int32)))] [1, 2, 3, 0] rfl ?_
        exact ih x0 t0 x1 t1 x2 (x3 + (1 : Int32)) v_2 h
      · replace h := zif_f hc h
        refine z_iconst (y := (0 : Int32)) F dX8_takesWord_74 rfl ?_
        cases h
        exact z_retz F hr hk rfl dX8_takesWord_75

def fX8_takesWord_7  : Nat → Nat → Nat → Int32 → zV → Option (Int32 × zV)
  | 0 => fun _ _ _ _ => none
  | n + 1 => fun x0 x1 x2 v =>
    if (600 : Int32) ≤ x2 then
      if x2 = (zslen x1) then
        fX8_takesWord_48  zFU x0 x1 x2 (0 : Int32) v
      else
        some ((0 : Int32), v)
    else
      zbind (fX8_byteAt x0 ((v x0 5) + x2) v) fun r_2 v_1 =>
      zbind (fX8_isLetter r_2 v_1) fun r_4 v_3 =>
      if r_4 = (0 : Int32) then
        if x2 = (zslen x1) then
          fX8_takesWord_48  zFU x0 x1 x2 (0 : Int32) v_3
        else
          some ((0 : Int32), v_3)
      else
        (fX8_takesWord_7 n) x0 x1 (x2 + (1 : Int32)) v_3
set_option maxRecDepth 4000 in
theorem jX8_takesWord_7 (x : zCx) (G : zG) (F : zF x G cX8_takesWord 4 RX8 5 201) (hr : x.2.2.2.2.2.2.2.2.1.sig.returnType = (Option.some FieldType.boolean)) (hk : x.2.2.2.2.2.2.2.2.1.locks = false) (r : Int32) (w : zV)  : ∀ (n : Nat) (x0 : Nat) (t0 : zty G x0 1 8) (x1 : Nat) (t1 : x1 < 16) (x2 : Int32) (v : zV), fX8_takesWord_7 n x0 x1 x2 v = some (r, w) → zJ x G 4 (zQ x G (some (.int r)) w 0 0) 0 0 7 [(0, zr G x0), (1, zs G x1), (2, .int x2)] [] v := by
  intro n
  induction n with
  | zero => intro x0 t0 x1 t1 x2 v h; exact absurd h (by intro q; cases q)
  | succ n ih =>
    intro x0 t0 x1 t1 x2 v h
    rw [fX8_takesWord_7] at h
    dsimp only at h
    refine z_iload_n F dX8_takesWord_7 rfl 2 rfl ?_
    refine z_sipush (y := (600 : Int32)) F dX8_takesWord_8 rfl ?_
    refine z_icmp_ge F 36 dX8_takesWord_11 rfl (fun hc => ?_) (fun hc => ?_)
    · replace h := zif_t hc h
      refine z_iload_n F dX8_takesWord_36 rfl 2 rfl ?_
      refine z_aload_n F dX8_takesWord_37 rfl 1 rfl ?_
      refine z_slen F t1 wM_X8_50 [.int x2] dX8_takesWord_38 (Nat.le_of_ble_eq_true rfl) (Nat.le_of_ble_eq_true rfl) (Nat.le_of_ble_eq_true rfl) ⟨Nat.zero_le _, Nat.zero_le _⟩ ?_
      refine z_icmp_eq F 46 dX8_takesWord_41 rfl (fun hc => ?_) (fun hc => ?_)
      · replace h := zif_t hc h
        refine z_iconst (y := (0 : Int32)) F dX8_takesWord_46 rfl ?_
        refine z_istore_n F [(3, .int (0 : Int32)), (0, zr G x0), (1, zs G x1), (2, .int x2)] dX8_takesWord_47 rfl (Nat.le_of_ble_eq_true rfl) rfl ?_
        refine z_ls [(0, zr G x0), (1, zs G x1), (2, .int x2), (3, .int (0 : Int32))] [1, 2, 3, 0] rfl ?_
        exact jX8_takesWord_48 x G F hr hk r w   zFU x0 t0 x1 t1 x2 (0 : Int32) v h
      · replace h := zif_f hc h
        refine z_iconst (y := (0 : Int32)) F dX8_takesWord_44 rfl ?_
        cases h
        exact z_retz F hr hk rfl dX8_takesWord_45
    · replace h := zif_f hc h
      refine z_aload_n F dX8_takesWord_14 rfl 0 rfl ?_
      refine z_aload_n F dX8_takesWord_15 rfl 0 rfl ?_
      refine zg_8_5 F t0 wF_X8_25 dX8_takesWord_16 ?_
      refine z_iload_n F dX8_takesWord_19 rfl 2 rfl ?_
      refine z_iadd F dX8_takesWord_20 ?_
      obtain ⟨r_2, v_1, hq21, h⟩ := zbind_ex h
      refine z_callVi F [.int ((v x0 5) + x2)] [] (kX8_byteAt x.2.1 G x0 t0 ((v x0 5) + x2) v r_2 v_1 hq21) mI_X8_byteAt (c := 8) rfl t0 wM_X8_46 mi_X8_byteAt sl_X8_byteAt dX8_takesWord_21 rfl ⟨Nat.le_of_ble_eq_true rfl, Nat.le_of_ble_eq_true rfl⟩ rfl (Nat.le_of_ble_eq_true rfl) ⟨Nat.zero_le _, Nat.zero_le _⟩ ?_
      obtain ⟨r_4, v_3, hq24, h⟩ := zbind_ex h
      refine z_callSi F [.int r_2] [] (kX8_isLetter x.2.1 G r_2 v_1 r_4 v_3 hq24) mI_X8_isLetter wM_X8_35 ms_X8_isLetter dX8_takesWord_24 rfl ⟨Nat.le_of_ble_eq_true rfl, Nat.le_of_ble_eq_true rfl⟩ rfl (Nat.le_of_ble_eq_true rfl) ⟨Nat.zero_le _, Nat.zero_le _⟩ ?_
      refine z_if_eq F 36 dX8_takesWord_27 rfl (fun hc => ?_) (fun hc => ?_)
      · replace h := zif_t hc h
        refine z_iload_n F dX8_takesWord_36 rfl 2 rfl ?_
        refine z_aload_n F dX8_takesWord_37 rfl 1 rfl ?_
        refine z_slen F t1 wM_X8_50 [.int x2] dX8_takesWord_38 (Nat.le_of_ble_eq_true rfl) (Nat.le_of_ble_eq_true rfl) (Nat.le_of_ble_eq_true rfl) ⟨Nat.zero_le _, Nat.zero_le _⟩ ?_
        refine z_icmp_eq F 46 dX8_takesWord_41 rfl (fun hc => ?_) (fun hc => ?_)
        · replace h := zif_t hc h
          refine z_iconst (y := (0 : Int32)) F dX8_takesWord_46 rfl ?_
          refine z_istore_n F [(3, .int (0 : Int32)), (0, zr G x0), (1, zs G x1), (2, .int x2)] dX8_takesWord_47 rfl (Nat.le_of_ble_eq_true rfl) rfl ?_
          refine z_ls [(0, zr G x0), (1, zs G x1), (2, .int x2), (3, .int (0 : Int32))] [1, 2, 3, 0] rfl ?_
          exact jX8_takesWord_48 x G F hr hk r w   zFU x0 t0 x1 t1 x2 (0 : Int32) v_3 h
        · replace h := zif_f hc h
          refine z_iconst (y := (0 : Int32)) F dX8_takesWord_44 rfl ?_
          cases h
          exact z_retz F hr hk rfl dX8_takesWord_45
      · replace h := zif_f hc h
        refine z_iinc F [(2, .int (x2 + (1 : Int32))), (0, zr G x0), (1, zs G x1)] dX8_takesWord_30 2 rfl rfl (Nat.le_of_ble_eq_true rfl) rfl ?_
        refine z_goto F 7 dX8_takesWord_33 rfl ?_
        refine z_ls [(0, zr G x0), (1, zs G x1), (2, .int (x2 + (1 : Int32)))] [1, 2, 0] rfl ?_
        exact ih x0 t0 x1 t1 (x2 + (1 : Int32)) v_3 h

def fX8_takesWord (x0 : Nat) (x1 : Nat) (v : zV) : Option (Int32 × zV) :=
  zbind (fX8_look x0 v) fun r_2 v_1 =>
  fX8_takesWord_7  zFU x0 x1 (0 : Int32) v_1
set_option maxRecDepth 4000 in
theorem kX8_takesWord (l : Launch) (G : zG) (x0 : Nat) (t0 : zty G x0 1 8) (x1 : Nat) (t1 : x1 < 16) (v : zV) (r : Int32) (w : zV) (h : fX8_takesWord x0 x1 v = some (r, w)) : zMet l yX8_takesWord cX8_takesWord 4 (Option.some FieldType.boolean) 5 201 0 0 [zr G x0, zs G x1] G v (some (.int r)) w := by
  refine zM_of (own := RX8) (by decide) rfl (Nat.le_of_ble_eq_true rfl) (fun x hl F hr hk hcs => ?_)
  subst hl
  refine z_ls [(0, zr G x0), (1, zs G x1)] [0, 1] rfl ?_
  unfold fX8_takesWord at h
  refine z_aload_n F dX8_takesWord_0 rfl 0 rfl ?_
  obtain ⟨r_2, v_1, hq1, h⟩ := zbind_ex h
  refine z_callVi F [] [] (kX8_look x.2.1 G x0 t0 v r_2 v_1 hq1) mI_X8_look (c := 8) rfl t0 wM_X8_31 mi_X8_look sl_X8_look dX8_takesWord_1 rfl ⟨Nat.le_of_ble_eq_true rfl, Nat.le_of_ble_eq_true rfl⟩ rfl (Nat.le_of_ble_eq_true rfl) ⟨Nat.zero_le _, Nat.zero_le _⟩ ?_
  refine z_pop F dX8_takesWord_4 rfl ?_
  refine z_iconst (y := (0 : Int32)) F dX8_takesWord_5 rfl ?_
  refine z_istore_n F [(2, .int (0 : Int32)), (0, zr G x0), (1, zs G x1)] dX8_takesWord_6 rfl (Nat.le_of_ble_eq_true rfl) rfl ?_
  refine z_ls [(0, zr G x0), (1, zs G x1), (2, .int (0 : Int32))] [1, 2, 0] rfl ?_
  exact jX8_takesWord_7 x G F hr hk r w   zFU x0 t0 x1 t1 (0 : Int32) v_1 h

theorem dX8_number_0 : decode cX8_number 0 = .ok (.aload_n 0, 1) := by decide +kernel
theorem dX8_number_1 : decode cX8_number 1 = .ok (.invokevirtual 59, 3) := by decide +kernel
theorem dX8_number_4 : decode cX8_number 4 = .ok (.ifCond .ne 9, 3) := by decide +kernel
theorem dX8_number_7 : decode cX8_number 7 = .ok (.aload_n 0, 1) := by decide +kernel
theorem dX8_number_8 : decode cX8_number 8 = .ok (.invokevirtual 63, 3) := by decide +kernel
theorem dX8_number_11 : decode cX8_number 11 = .ok (.iload_n 1, 1) := by decide +kernel
theorem dX8_number_12 : decode cX8_number 12 = .ok (.ireturn, 1) := by decide +kernel
theorem dX8_number_13 : decode cX8_number 13 = .ok (.aload_n 0, 1) := by decide +kernel
theorem dX8_number_14 : decode cX8_number 14 = .ok (.getfield 25, 3) := by decide +kernel
theorem dX8_number_17 : decode cX8_number 17 = .ok (.istore_n 3, 1) := by decide +kernel
theorem dX8_number_18 : decode cX8_number 18 = .ok (.iconst 0, 1) := by decide +kernel
theorem dX8_number_19 : decode cX8_number 19 = .ok (.istore 4, 2) := by decide +kernel
theorem dX8_number_21 : decode cX8_number 21 = .ok (.iconst 0, 1) := by decide +kernel
theorem dX8_number_22 : decode cX8_number 22 = .ok (.istore 5, 2) := by decide +kernel
theorem dX8_number_24 : decode cX8_number 24 = .ok (.iload 5, 2) := by decide +kernel
theorem dX8_number_26 : decode cX8_number 26 = .ok (.sipush 600, 3) := by decide +kernel
theorem dX8_number_29 : decode cX8_number 29 = .ok (.if_icmp .ge 57, 3) := by decide +kernel
theorem dX8_number_32 : decode cX8_number 32 = .ok (.aload_n 0, 1) := by decide +kernel
theorem dX8_number_33 : decode cX8_number 33 = .ok (.aload_n 0, 1) := by decide +kernel
theorem dX8_number_34 : decode cX8_number 34 = .ok (.getfield 25, 3) := by decide +kernel
theorem dX8_number_37 : decode cX8_number 37 = .ok (.invokevirtual 46, 3) := by decide +kernel
theorem dX8_number_40 : decode cX8_number 40 = .ok (.invokestatic 39, 3) := by decide +kernel
theorem dX8_number_43 : decode cX8_number 43 = .ok (.ifCond .eq 43, 3) := by decide +kernel
theorem dX8_number_46 : decode cX8_number 46 = .ok (.iload 4, 2) := by decide +kernel
theorem dX8_number_48 : decode cX8_number 48 = .ok (.bipush 10, 2) := by decide +kernel
theorem dX8_number_50 : decode cX8_number 50 = .ok (.imul, 1) := by decide +kernel
theorem dX8_number_51 : decode cX8_number 51 = .ok (.aload_n 0, 1) := by decide +kernel
theorem dX8_number_52 : decode cX8_number 52 = .ok (.aload_n 0, 1) := by decide +kernel
theorem dX8_number_53 : decode cX8_number 53 = .ok (.getfield 25, 3) := by decide +kernel
theorem dX8_number_56 : decode cX8_number 56 = .ok (.invokevirtual 46, 3) := by decide +kernel
theorem dX8_number_59 : decode cX8_number 59 = .ok (.iadd, 1) := by decide +kernel
theorem dX8_number_60 : decode cX8_number 60 = .ok (.bipush 48, 2) := by decide +kernel
theorem dX8_number_62 : decode cX8_number 62 = .ok (.isub, 1) := by decide +kernel
theorem dX8_number_63 : decode cX8_number 63 = .ok (.ldc 66, 2) := by decide +kernel
theorem dX8_number_65 : decode cX8_number 65 = .ok (.invokestatic 67, 3) := by decide +kernel
theorem dX8_number_68 : decode cX8_number 68 = .ok (.istore 4, 2) := by decide +kernel
theorem dX8_number_70 : decode cX8_number 70 = .ok (.aload_n 0, 1) := by decide +kernel
theorem dX8_number_71 : decode cX8_number 71 = .ok (.dup, 1) := by decide +kernel
theorem dX8_number_72 : decode cX8_number 72 = .ok (.getfield 25, 3) := by decide +kernel
theorem dX8_number_75 : decode cX8_number 75 = .ok (.iconst 1, 1) := by decide +kernel
theorem dX8_number_76 : decode cX8_number 76 = .ok (.iadd, 1) := by decide +kernel
theorem dX8_number_77 : decode cX8_number 77 = .ok (.putfield 25, 3) := by decide +kernel
theorem dX8_number_80 : decode cX8_number 80 = .ok (.iinc 5 1, 3) := by decide +kernel
theorem dX8_number_83 : decode cX8_number 83 = .ok (.goto (-59), 3) := by decide +kernel
theorem dX8_number_86 : decode cX8_number 86 = .ok (.iload 4, 2) := by decide +kernel
theorem dX8_number_88 : decode cX8_number 88 = .ok (.iload_n 1, 1) := by decide +kernel
theorem dX8_number_89 : decode cX8_number 89 = .ok (.iload_n 2, 1) := by decide +kernel
theorem dX8_number_90 : decode cX8_number 90 = .ok (.invokestatic 73, 3) := by decide +kernel
theorem dX8_number_93 : decode cX8_number 93 = .ok (.ifCond .ne 11, 3) := by decide +kernel
theorem dX8_number_96 : decode cX8_number 96 = .ok (.aload_n 0, 1) := by decide +kernel
theorem dX8_number_97 : decode cX8_number 97 = .ok (.iconst 2, 1) := by decide +kernel
theorem dX8_number_98 : decode cX8_number 98 = .ok (.iload_n 3, 1) := by decide +kernel
theorem dX8_number_99 : decode cX8_number 99 = .ok (.invokevirtual 42, 3) := by decide +kernel
theorem dX8_number_102 : decode cX8_number 102 = .ok (.iload_n 1, 1) := by decide +kernel
theorem dX8_number_103 : decode cX8_number 103 = .ok (.ireturn, 1) := by decide +kernel
theorem dX8_number_104 : decode cX8_number 104 = .ok (.iload 4, 2) := by decide +kernel
theorem dX8_number_106 : decode cX8_number 106 = .ok (.ireturn, 1) := by decide +kernel
def fX8_number_86  (x0 : Nat) (x1 : Int32) (x2 : Int32) (x3 : Int32) (x4 : Int32) (v : zV) : Option (Int32 × zV) :=
  zbind (fX9_within x4 x1 x2 v) fun r_2 v_1 =>
  if r_2 = (0 : Int32) then
    zbindv (fX8_fail x0 (2 : Int32) x3 v_1) fun v_3 =>
    some (x1, v_3)
  else
    some (x4, v_1)
set_option maxRecDepth 4000 in
theorem jX8_number_86 (x : zCx) (G : zG) (F : zF x G cX8_number 6 RX8 3 122) (hr : x.2.2.2.2.2.2.2.2.1.sig.returnType = (Option.some FieldType.int)) (hk : x.2.2.2.2.2.2.2.2.1.locks = false) (r : Int32) (w : zV)  : ∀ (x0 : Nat) (t0 : zty G x0 1 8) (x1 : Int32) (x2 : Int32) (x3 : Int32) (x4 : Int32) (v : zV), fX8_number_86 x0 x1 x2 x3 x4 v = some (r, w) → zJ x G 6 (zQ x G (some (.int r)) w 0 0) 0 0 86 [(0, zr G x0), (1, .int x1), (2, .int x2), (3, .int x3), (4, .int x4)] [] v := by
  intro x0 t0 x1 x2 x3 x4 v h
  unfold fX8_number_86 at h
  refine z_iload F dX8_number_86 4 rfl ?_
  refine z_iload_n F dX8_number_88 rfl 1 rfl ?_
  refine z_iload_n F dX8_number_89 rfl 2 rfl ?_
  obtain ⟨r_2, v_1, hq90, h⟩ := zbind_ex h
  refine z_callSNi F [.int x4, .int x1, .int x2] [] (kX9_within x.2.1 G x4 x1 x2 v r_2 v_1 hq90) mI_X9_within wN_X8_73 ms_X9_within dX8_number_90 rfl ⟨Nat.le_of_ble_eq_true rfl, Nat.le_of_ble_eq_true rfl⟩ rfl (Nat.le_of_ble_eq_true rfl) ⟨Nat.zero_le _, Nat.zero_le _⟩ ?_
  refine z_if_ne F 104 dX8_number_93 rfl (fun hc => ?_) (fun hc => ?_)
  · replace h := zif_f hc h
    refine z_iload F dX8_number_104 4 rfl ?_
    cases h
    exact z_reti F hr hk dX8_number_106
  · replace h := zif_t hc h
    refine z_aload_n F dX8_number_96 rfl 0 rfl ?_
    refine z_iconst (y := (2 : Int32)) F dX8_number_97 rfl ?_
    refine z_iload_n F dX8_number_98 rfl 3 rfl ?_
    obtain ⟨v_3, hq99, h⟩ := zbindv_ex h
    refine z_callVv F [.int (2 : Int32), .int x3] [] (kX8_fail x.2.1 G x0 t0 (2 : Int32) x3 v_1 v_3 hq99) mI_X8_fail (c := 8) rfl t0 wM_X8_42 mi_X8_fail sl_X8_fail dX8_number_99 rfl ⟨Nat.le_of_ble_eq_true rfl, Nat.le_of_ble_eq_true rfl⟩ rfl (Nat.le_of_ble_eq_true rfl) ⟨Nat.zero_le _, Nat.zero_le _⟩ ?_
    refine z_iload_n F dX8_number_102 rfl 1 rfl ?_
    cases h
    exact z_reti F hr hk dX8_number_103

def fX8_number_24  : Nat → Nat → Int32 → Int32 → Int32 → Int32 → Int32 → zV → Option (Int32 × zV)
  | 0 => fun _ _ _ _ _ _ _ => none
  | n + 1 => fun x0 x1 x2 x3 x4 x5 v =>
    if (600 : Int32) ≤ x5 then
      fX8_number_86  x0 x1 x2 x3 x4 v
    else
      zbind (fX8_byteAt x0 (v x0 5) v) fun r_2 v_1 =>
      zbind (fX8_isDigit r_2 v_1) fun r_4 v_3 =>
      if r_4 = (0 : Int32) then
        fX8_number_86  x0 x1 x2 x3 x4 v_3
      else
        zbind (fX8_byteAt x0 (v_3 x0 5) v_3) fun r_6 v_5 =>
        zlet (zmin (((x4 * (10 : Int32)) + r_6) - (48 : Int32)) (100000 : Int32)) fun y_7 =>
        zlet (zup v_5 x0 5 ((v_5 x0 5) + (1 : Int32))) fun v_8 =>
        (fX8_number_24 n) x0 x1 x2 x3 y_7 (x5 + (1 : Int32)) v_8
set_option maxRecDepth 4000 in
theorem jX8_number_24 (x : zCx) (G : zG) (F : zF x G cX8_number 6 RX8 3 122) (hr : x.2.2.2.2.2.2.2.2.1.sig.returnType = (Option.some FieldType.int)) (hk : x.2.2.2.2.2.2.2.2.1.locks = false) (r : Int32) (w : zV)  : ∀ (n : Nat) (x0 : Nat) (t0 : zty G x0 1 8) (x1 : Int32) (x2 : Int32) (x3 : Int32) (x4 : Int32) (x5 : Int32) (v : zV), fX8_number_24 n x0 x1 x2 x3 x4 x5 v = some (r, w) → zJ x G 6 (zQ x G (some (.int r)) w 0 0) 0 0 24 [(0, zr G x0), (1, .int x1), (2, .int x2), (3, .int x3), (4, .int x4), (5, .int x5)] [] v := by
  intro n
  induction n with
  | zero => intro x0 t0 x1 x2 x3 x4 x5 v h; exact absurd h (by intro q; cases q)
  | succ n ih =>
    intro x0 t0 x1 x2 x3 x4 x5 v h
    rw [fX8_number_24] at h
    dsimp only at h
    refine z_iload F dX8_number_24 5 rfl ?_
    refine z_sipush (y := (600 : Int32)) F dX8_number_26 rfl ?_
    refine z_icmp_ge F 86 dX8_number_29 rfl (fun hc => ?_) (fun hc => ?_)
    · replace h := zif_t hc h
      refine z_ls [(0, zr G x0), (1, .int x1), (2, .int x2), (3, .int x3), (4, .int x4)] [0, 1, 2, 3, 4] rfl ?_
      exact jX8_number_86 x G F hr hk r w   x0 t0 x1 x2 x3 x4 v h
    · replace h := zif_f hc h
      refine z_aload_n F dX8_number_32 rfl 0 rfl ?_
      refine z_aload_n F dX8_number_33 rfl 0 rfl ?_
      refine zg_8_5 F t0 wF_X8_25 dX8_number_34 ?_
      obtain ⟨r_2, v_1, hq37, h⟩ := zbind_ex h
      refine z_callVi F [.int (v x0 5)] [] (kX8_byteAt x.2.1 G x0 t0 (v x0 5) v r_2 v_1 hq37) mI_X8_byteAt (c := 8) rfl t0 wM_X8_46 mi_X8_byteAt sl_X8_byteAt dX8_number_37 rfl ⟨Nat.le_of_ble_eq_true rfl, Nat.le_of_ble_eq_true rfl⟩ rfl (Nat.le_of_ble_eq_true rfl) ⟨Nat.zero_le _, Nat.zero_le _⟩ ?_
      obtain ⟨r_4, v_3, hq40, h⟩ := zbind_ex h
      refine z_callSi F [.int r_2] [] (kX8_isDigit x.2.1 G r_2 v_1 r_4 v_3 hq40) mI_X8_isDigit wM_X8_39 ms_X8_isDigit dX8_number_40 rfl ⟨Nat.le_of_ble_eq_true rfl, Nat.le_of_ble_eq_true rfl⟩ rfl (Nat.le_of_ble_eq_true rfl) ⟨Nat.zero_le _, Nat.zero_le _⟩ ?_
      refine z_if_eq F 86 dX8_number_43 rfl (fun hc => ?_) (fun hc => ?_)
      · replace h := zif_t hc h
        refine z_ls [(0, zr G x0), (1, .int x1), (2, .int x2), (3, .int x3), (4, .int x4)] [0, 1, 2, 3, 4] rfl ?_
        exact jX8_number_86 x G F hr hk r w   x0 t0 x1 x2 x3 x4 v_3 h
      · replace h := zif_f hc h
        refine z_iload F dX8_number_46 4 rfl ?_
        refine z_bipush (y := (10 : Int32)) F dX8_number_48 rfl ?_
        refine z_imul F dX8_number_50 ?_
        refine z_aload_n F dX8_number_51 rfl 0 rfl ?_
        refine z_aload_n F dX8_number_52 rfl 0 rfl ?_
        refine zg_8_5 F t0 wF_X8_25 dX8_number_53 ?_
        obtain ⟨r_6, v_5, hq56, h⟩ := zbind_ex h
        refine z_callVi F [.int (v_3 x0 5)] [.int (x4 * (10 : Int32))] (kX8_byteAt x.2.1 G x0 t0 (v_3 x0 5) v_3 r_6 v_5 hq56) mI_X8_byteAt (c := 8) rfl t0 wM_X8_46 mi_X8_byteAt sl_X8_byteAt dX8_number_56 rfl ⟨Nat.le_of_ble_eq_true rfl, Nat.le_of_ble_eq_true rfl⟩ rfl (Nat.le_of_ble_eq_true rfl) ⟨Nat.zero_le _, Nat.zero_le _⟩ ?_
        refine z_iadd F dX8_number_59 ?_
        refine z_bipush (y := (48 : Int32)) F dX8_number_60 rfl ?_
        refine z_isub F dX8_number_62 ?_
        refine z_ldc (y := (100000 : Int32)) F kC_RX8_66 dX8_number_63 ?_
        refine z_min F wM_X8_67 dX8_number_65 (Nat.le_of_ble_eq_true rfl) (Nat.le_of_ble_eq_true rfl) (Nat.le_of_ble_eq_true rfl) ⟨Nat.zero_le _, Nat.zero_le _⟩ ?_
        obtain ⟨y_7, ey_7, h⟩ := zlet_ex h
        refine z_topi ey_7 ?_
        refine z_istore (n := 0) F [(4, .int y_7), (0, zr G x0), (1, .int x1), (2, .int x2), (3, .int x3), (5, .int x5)] dX8_number_68 (Nat.le_of_ble_eq_true rfl) rfl ?_
        refine z_aload_n F dX8_number_70 rfl 1 rfl ?_
        refine z_dup F dX8_number_71 rfl ?_
        refine zg_8_5 F t0 wF_X8_25 dX8_number_72 ?_
        refine z_iconst (y := (1 : Int32)) F dX8_number_75 rfl ?_
        refine z_iadd F dX8_number_76 ?_
        refine zp_8_5 F t0 wF_X8_25 dX8_number_77 ?_
        obtain ⟨v_8, ev_8, h⟩ := zlet_ex h
        refine z_heap ev_8 ?_
        refine z_iinc F [(5, .int (x5 + (1 : Int32))), (4, .int y_7), (0, zr G x0), (1, .int x1), (2, .int x2), (3, .int x3)] dX8_number_80 5 rfl rfl (Nat.le_of_ble_eq_true rfl) rfl ?_
        refine z_goto F 24 dX8_number_83 rfl ?_
        refine z_ls [(0, zr G x0), (1, .int x1), (2, .int x2), (3, .int x3), (4, .int y_7), (5, .int (x5 + (1 : Int32)))] [2, 3, 4, 5, 1, 0] rfl ?_
        exact ih x0 t0 x1 x2 x3 y_7 (x5 + (1 : Int32)) v_8 h

def fX8_number (x0 : Nat) (x1 : Int32) (x2 : Int32) (v : zV) : Option (Int32 × zV) :=
  zbind (fX8_looksAtDigit x0 v) fun r_2 v_1 =>
  if r_2 = (0 : Int32) then
    zbindv (fX8_misfit x0 v_1) fun v_3 =>
    some (x1, v_3)
  else
    fX8_number_24  zFU x0 x1 x2 (v_1 x0 5) (0 : Int32) (0 : Int32) v_1
set_option maxRecDepth 4000 in
theorem kX8_number (l : Launch) (G : zG) (x0 : Nat) (t0 : zty G x0 1 8) (x1 : Int32) (x2 : Int32) (v : zV) (r : Int32) (w : zV) (h : fX8_number x0 x1 x2 v = some (r, w)) : zMet l yX8_number cX8_number 6 (Option.some FieldType.int) 3 122 0 0 [zr G x0, .int x1, .int x2] G v (some (.int r)) w := by
  refine zM_of (own := RX8) (by decide) rfl (Nat.le_of_ble_eq_true rfl) (fun x hl F hr hk hcs => ?_)
  subst hl
  refine z_ls [(0, zr G x0), (1, .int x1), (2, .int x2)] [0, 1, 2] rfl ?_
  unfold fX8_number at h
  refine z_aload_n F dX8_number_0 rfl 0 rfl ?_
  obtain ⟨r_2, v_1, hq1, h⟩ := zbind_ex h
  refine z_callVi F [] [] (kX8_looksAtDigit x.2.1 G x0 t0 v r_2 v_1 hq1) mI_X8_looksAtDigit (c := 8) rfl t0 wM_X8_59 mi_X8_looksAtDigit sl_X8_looksAtDigit dX8_number_1 rfl ⟨Nat.le_of_ble_eq_true rfl, Nat.le_of_ble_eq_true rfl⟩ rfl (Nat.le_of_ble_eq_true rfl) ⟨Nat.zero_le _, Nat.zero_le _⟩ ?_
  refine z_if_ne F 13 dX8_number_4 rfl (fun hc => ?_) (fun hc => ?_)
  · replace h := zif_f hc h
    refine z_aload_n F dX8_number_13 rfl 0 rfl ?_
    refine zg_8_5 F t0 wF_X8_25 dX8_number_14 ?_
    refine z_istore_n F [(3, .int (v_1 x0 5)), (0, zr G x0), (1, .int x1), (2, .int x2)] dX8_number_17 rfl (Nat.le_of_ble_eq_true rfl) rfl ?_
    refine z_iconst (y := (0 : Int32)) F dX8_number_18 rfl ?_
    refine z_istore (n := 0) F [(4, .int (0 : Int32)), (3, .int (v_1 x0 5)), (0, zr G x0), (1, .int x1), (2, .int x2)] dX8_number_19 (Nat.le_of_ble_eq_true rfl) rfl ?_
    refine z_iconst (y := (0 : Int32)) F dX8_number_21 rfl ?_
    refine z_istore (n := 0) F [(5, .int (0 : Int32)), (4, .int (0 : Int32)), (3, .int (v_1 x0 5)), (0, zr G x0), (1, .int x1), (2, .int x2)] dX8_number_22 (Nat.le_of_ble_eq_true rfl) rfl ?_
    refine z_ls [(0, zr G x0), (1, .int x1), (2, .int x2), (3, .int (v_1 x0 5)), (4, .int (0 : Int32)), (5, .int (0 : Int32))] [3, 4, 5, 2, 1, 0] rfl ?_
    exact jX8_number_24 x G F hr hk r w   zFU x0 t0 x1 x2 (v_1 x0 5) (0 : Int32) (0 : Int32) v_1 h
  · replace h := zif_t hc h
    refine z_aload_n F dX8_number_7 rfl 0 rfl ?_
    obtain ⟨v_3, hq8, h⟩ := zbindv_ex h
    refine z_callVv F [] [] (kX8_misfit x.2.1 G x0 t0 v_1 v_3 hq8) mI_X8_misfit (c := 8) rfl t0 wM_X8_63 mi_X8_misfit sl_X8_misfit dX8_number_8 rfl ⟨Nat.le_of_ble_eq_true rfl, Nat.le_of_ble_eq_true rfl⟩ rfl (Nat.le_of_ble_eq_true rfl) ⟨Nat.zero_le _, Nat.zero_le _⟩ ?_
    refine z_iload_n F dX8_number_11 rfl 1 rfl ?_
    cases h
    exact z_reti F hr hk dX8_number_12

